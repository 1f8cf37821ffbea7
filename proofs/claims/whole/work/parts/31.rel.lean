/-! the state as the reference keeps it, A; what a junction of the class looks like by it -/
def ix (j w : Nat) : Nat := 6 + 121 * j + w
def gx (j g w : Nat) : Nat := 13 + 121 * j + 13 * g + w
def cx (j a b : Nat) : Nat := 91 + 121 * j + 6 * a + b
abbrev Ar : Type := Nat → Int32
def fs (A : Ar) (j p g : Nat) : Int32 := A (gx j g (9 + 2 * p))
def ln (A : Ar) (j p g : Nat) : Int32 := A (gx j g (10 + 2 * p))
def on (A : Ar) (j p g : Nat) (s : Int32) : Bool := decide (wr (s - fs A j p g) (A 0) < ln A j p g)
def gr (A : Ar) (j p g : Nat) : Bool := decide (0 < ln A j p g)
def kl (A : Ar) (j a b : Nat) : Int32 := A (cx j a b)
def cf (A : Ar) (j a b : Nat) : Bool := decide (0 ≤ kl A j a b)
def lvj (A : Ar) (j : Nat) (x : Int32) : Int32 := if nI j < A 2 then x else -1
def lvg (A : Ar) (j g : Nat) (x : Int32) : Int32 := if nI g < A (ix j 2) then x else -1
def rq (A : Ar) (j g : Nat) : Bool := decide (A (gx j g 2) = 1)
def gv (A : Ar) (j g : Nat) : Bool := decide (A (gx j g 5) = 1)
def RJ (M : Mem) (J : Nat) (A : Ar) (j : Nat) : Prop :=
  (∀ w, w < 4 → M J w = A (ix j w)) ∧ M J 4 = lvj A j (A (ix j 4)) ∧ M J 7 = bits (rq A j) 6 ∧ M J 8 = bits (gv A j) 6 ∧
  (∀ d, d < 2 → M (J + 1) d = lvj A j (A (ix j (5 + d)))) ∧ (∀ g, g < 6 → M (J + 2) g = A (gx j g 0)) ∧ (∀ g, g < 6 → M (J + 3) g = A (gx j g 1)) ∧
  (∀ g, g < 6 → M (J + 4) g = A (gx j g 3)) ∧ (∀ g, g < 6 → M (J + 5) g = lvg A j g (A (gx j g 4))) ∧
  (∀ g, g < 6 → ∀ p, p < 3 → M (J + 6) (3 * g + p) = lvg A j g (A (gx j g (6 + p)))) ∧
  (∀ a, a < 6 → ∀ b, b < 6 → M (J + 7) (6 * a + b) = lvj A j (kl A j a b)) ∧
  (∀ p, p < 2 → ∀ g, g < 6 → M (J + 8) (6 * p + g) = fs A j p g) ∧ (∀ p, p < 2 → ∀ g, g < 6 → M (J + 9) (6 * p + g) = ln A j p g)
/-- a group's numbers lie in their bounds -/
def VG (A : Ar) (j g : Nat) : Prop :=
  bt (A (gx j g 0)) 0 2 ∧ bt (A (gx j g 1)) 0 30 ∧ bt (A (gx j g 2)) 0 1 ∧ bt (A (gx j g 3)) 0 (A 3).toInt ∧ bt (A (gx j g 4)) (-1) (A 3).toInt ∧ bt (A (gx j g 5)) 0 1 ∧
  (∀ p, p < 3 → bt (A (gx j g (6 + p))) (-1) 3) ∧ (∀ p, p < 2 → bt (fs A j p g) 0 ((A 0).toInt - 1) ∧ bt (ln A j p g) 0 (A 0).toInt ∧ (ln A j p g = 0 → fs A j p g = 0)) ∧
  (nI g < A (ix j 2) → 4 ≤ (A (gx j g 1)).toInt) ∧ (¬ nI g < A (ix j 2) → ∀ w, w < 13 → A (gx j g w) = 0)
def VC (A : Ar) (j a b : Nat) : Prop :=
  bt (kl A j a b) (-1) 20 ∧ (0 ≤ kl A j a b → 0 ≤ kl A j b a) ∧ (0 ≤ kl A j a b → a ≠ b ∧ nI a < A (ix j 2) ∧ nI b < A (ix j 2)) ∧
  (0 ≤ kl A j a b → ∀ p, p < 2 → 0 < ln A j p a → 0 < ln A j p b → ln A j p a ≤ wr (fs A j p b - fs A j p a) (A 0) ∧ ln A j p b ≤ wr (fs A j p a - fs A j p b) (A 0) ∧ kl A j a b ≤ wr (fs A j p b - fs A j p a - ln A j p a) (A 0))
def VJ (A : Ar) (j : Nat) : Prop :=
  bt (A (ix j 0)) 0 9999 ∧ bt (A (ix j 1)) 0 ((A 0).toInt - 1) ∧ bt (A (ix j 2)) 0 6 ∧ bt (A (ix j 3)) 0 1 ∧ bt (A (ix j 4)) (-1) 200000 ∧
  (∀ d, d < 2 → bt (A (ix j (5 + d))) (-1) ((A (ix j 2)).toInt - 1)) ∧ (∀ g, g < 6 → VG A j g) ∧ (∀ a, a < 6 → ∀ b, b < 6 → VC A j a b)
def V0 (A : Ar) : Prop := bt (A 0) 30 120 ∧ bt (A 1) 5 25 ∧ bt (A 2) 0 4 ∧ bt (A 3) 0 99999 ∧ bt (A 4) 0 (24 * (A 3).toInt)
def Val (A : Ar) : Prop := V0 A ∧ (∀ j, j < 4 → nI j < A 2 → VJ A j) ∧ (∀ j, j < 4 → ¬ nI j < A 2 → ∀ k, k < 121 → A (ix j k) = 0) ∧
  (∀ j, j < 3 → nI (j + 1) < A 2 → A (ix j 0) < A (ix (j + 1) 0))
/-- what a State of the class looks like -/
def RS (M : Mem) (t : Nat) (A : Ar) : Prop :=
  M t 0 = A 0 ∧ M t 1 = A 1 ∧ M t 3 = A 2 ∧ M t 2 = A 3 ∧ (∀ j, j < 4 → RJ M (t + 2 + 10 * j) A j) ∧
  M (t + 2) 5 + M (t + 12) 5 + M (t + 22) 5 + M (t + 32) 5 = A 4 ∧ M (t + 2) 6 + M (t + 12) 6 + M (t + 22) 6 + M (t + 32) 6 = A 5 ∧
  (∀ j, j < 4 → ¬ nI j < A 2 → M (t + 2 + 10 * j) 5 = 0 ∧ M (t + 2 + 10 * j) 6 = 0)
section RJs
variable {M : Mem} {J : Nat} {A : Ar} {j : Nat}
theorem RJ.w (h : RJ M J A j) {w : Nat} (hw : w < 4) : M J w = A (ix j w) := h.1 w hw
theorem RJ.ch (h : RJ M J A j) (hl : nI j < A 2) : M J 4 = A (ix j 4) := by rw [h.2.1]; exact if_pos hl
theorem RJ.rq (h : RJ M J A j) : M J 7 = bits (rq A j) 6 := h.2.2.1
theorem RJ.gv (h : RJ M J A j) : M J 8 = bits (gv A j) 6 := h.2.2.2.1
theorem RJ.rd (h : RJ M J A j) (hl : nI j < A 2) {d : Nat} (hd : d < 2) : M (J + 1) d = A (ix j (5 + d)) := by rw [h.2.2.2.2.1 d hd]; exact if_pos hl
theorem RJ.kd (h : RJ M J A j) {g : Nat} (hg : g < 6) : M (J + 2) g = A (gx j g 0) := h.2.2.2.2.2.1 g hg
theorem RJ.ls (h : RJ M J A j) {g : Nat} (hg : g < 6) : M (J + 3) g = A (gx j g 1) := h.2.2.2.2.2.2.1 g hg
theorem RJ.lt (h : RJ M J A j) {g : Nat} (hg : g < 6) : M (J + 4) g = A (gx j g 3) := h.2.2.2.2.2.2.2.1 g hg
theorem RJ.as (h : RJ M J A j) {g : Nat} (hg : g < 6) (hl : nI g < A (ix j 2)) : M (J + 5) g = A (gx j g 4) := by rw [h.2.2.2.2.2.2.2.2.1 g hg]; exact if_pos hl
theorem RJ.hd (h : RJ M J A j) {g p : Nat} (hg : g < 6) (hp : p < 3) (hl : nI g < A (ix j 2)) : M (J + 6) (3 * g + p) = A (gx j g (6 + p)) := by rw [h.2.2.2.2.2.2.2.2.2.1 g hg p hp]; exact if_pos hl
theorem RJ.cl (h : RJ M J A j) {a b : Nat} (ha : a < 6) (hb : b < 6) (hl : nI j < A 2) : M (J + 7) (6 * a + b) = kl A j a b := by rw [h.2.2.2.2.2.2.2.2.2.2.1 a ha b hb]; exact if_pos hl
theorem RJ.fs (h : RJ M J A j) {p g : Nat} (hp : p < 2) (hg : g < 6) : M (J + 8) (6 * p + g) = fs A j p g := h.2.2.2.2.2.2.2.2.2.2.2.1 p hp g hg
theorem RJ.ln (h : RJ M J A j) {p g : Nat} (hp : p < 2) (hg : g < 6) : M (J + 9) (6 * p + g) = ln A j p g := h.2.2.2.2.2.2.2.2.2.2.2.2 p hp g hg
theorem i6 (a b : Nat) : nI a * 6 + nI b = nI (6 * a + b) := by
  show nI a * nI 6 + nI b = _
  rw [nI_mul, nI_add, Nat.mul_comm]
theorem i3 (a b : Nat) : nI a * 3 + nI b = nI (3 * a + b) := by
  show nI a * nI 3 + nI b = _
  rw [nI_mul, nI_add, Nat.mul_comm]
/-! the class's junction: reading -/
theorem x_first (h : RJ M J A j) {p g : Nat} (hp : p < 2) (hg : g < 6) : fX2_firstOf M J (nI p) (nI g) = some (fs A j p g) := by
  unfold fX2_firstOf
  rw [i6, grd_T (inb_nI (by omega) (by omega)), nI_clamp (by omega), h.fs hp hg]
theorem x_length (h : RJ M J A j) {p g : Nat} (hp : p < 2) (hg : g < 6) : fX2_lengthOf M J (nI p) (nI g) = some (ln A j p g) := by
  unfold fX2_lengthOf
  rw [i6, grd_T (inb_nI (by omega) (by omega)), nI_clamp (by omega), h.ln hp hg]
theorem x_clear (h : RJ M J A j) (hl : nI j < A 2) {a b : Nat} (ha : a < 6) (hb : b < 6) : fX2_clearanceFrom M J (nI a) (nI b) = some (kl A j a b) := by
  unfold fX2_clearanceFrom
  rw [i6, grd_T (inb_nI (by omega) (by omega)), nI_clamp (by omega), h.cl ha hb hl]
theorem cf_ne {x : Int32} (h : bt x (-1) 20) : decide (0 ≤ x) = !decide (x = -1) := by
  have h0 : Int32.toInt 0 = 0 := rfl
  have h1 : Int32.toInt (-1) = -1 := by decide
  by_cases hx : x = -1
  · subst hx; decide
  · rw [decide_eq_false hx, decide_eq_true]; rfl
    rw [ti_le]
    have : x.toInt ≠ -1 := fun z => hx (by rw [ti_eq, h1, z])
    have := h.1
    omega
theorem x_conf (h : RJ M J A j) (hl : nI j < A 2) (v : VJ A j) {a b : Nat} (ha : a < 6) (hb : b < 6) : fX2_areInConflict M J (nI a) (nI b) = some (b01 (cf A j a b)) := by
  unfold fX2_areInConflict
  rw [x_clear h hl ha hb]
  have hv := (v.2.2.2.2.2.2.2 a ha b hb).1
  unfold cf
  rw [cf_ne hv]
  simp only [clp, jn]
  by_cases hx : kl A j a b = -1
  · rw [if_pos hx, decide_eq_true hx]; rfl
  · rw [if_neg hx, decide_eq_false hx]; rfl
theorem x_green (h : RJ M J A j) {p g : Nat} (hp : p < 2) (hg : g < 6) : fX2_hasGreen M J (nI p) (nI g) = some (b01 (gr A j p g)) := by
  unfold fX2_hasGreen
  rw [x_length h hp hg]
  simp only [clp, jn]
  unfold gr
  by_cases hx : ln A j p g ≤ 0
  · rw [if_pos hx, decide_eq_false (by rw [ti_le] at hx; rw [ti_lt]; omega)]; rfl
  · rw [if_neg hx, decide_eq_true (by rw [ti_le] at hx; rw [ti_lt]; omega)]; rfl
theorem x_local (h : RJ M J A j) (t : Int32) (hc : 0 < (A 0).toInt) : fX2_localSecond M J t (A 0) = some (wr (t - A (ix j 1)) (A 0)) := by
  unfold fX2_localSecond
  rw [f_wrap M hc, h.w (by omega)]; rfl
theorem x_on (h : RJ M J A j) {p g : Nat} (hp : p < 2) (hg : g < 6) (s : Int32) (hc : 0 < (A 0).toInt) : fX2_isOn M J (nI p) (nI g) s (A 0) = some (b01 (on A j p g s)) := by
  unfold fX2_isOn
  rw [x_first h hp hg, x_length h hp hg]
  simp only [clp, jn]
  rw [f_wrap M hc]
  simp only [not01]
  unfold on
  by_cases hx : wr (s - fs A j p g) (A 0) < ln A j p g
  · rw [if_pos hx, decide_eq_true hx]; rfl
  · rw [if_neg hx, decide_eq_false hx]; rfl
theorem x_onSet (h : RJ M J A j) {n : Nat} (hn : A (ix j 2) = nI n) (h6 : n ≤ 6) {p : Nat} (hp : p < 2) (s : Int32) (hc : 0 < (A 0).toInt) : fX2_onSet M J (nI p) s (A 0) = some (bits (fun g => on A j p g s) n) := by
  unfold fX2_onSet
  refine lp_at (fun i => (bits (fun g => on A j p g s) i, nI i)) n (by omega) rfl (fun i hi k => ?_) (fun k => ?_)
  · simp only [fX2_onSet_L1]
    rw [if_neg (by rw [h.w (by omega), hn]; exact nI_ge hi (by omega)), x_on h hp (by omega) s hc]
    simp only [clp, jn, bnd, b01_ite, nI_1, bits]
    by_cases hb : on A j p i s = true <;> simp [hb]
  · simp only [fX2_onSet_L1]
    rw [if_pos (by rw [h.w (by omega), hn]; exact nI_le (Nat.le_refl _) (by omega))]
theorem x_confSet (h : RJ M J A j) (hl : nI j < A 2) (v : VJ A j) {n : Nat} (hn : A (ix j 2) = nI n) (h6 : n ≤ 6) {g : Nat} (hg : g < 6) : fX2_conflictSet M J (nI g) = some (bits (fun o => cf A j g o) n) := by
  unfold fX2_conflictSet
  refine lp_at (fun i => (bits (fun o => cf A j g o) i, nI i)) n (by omega) rfl (fun i hi k => ?_) (fun k => ?_)
  · simp only [fX2_conflictSet_L1]
    rw [if_neg (by rw [h.w (by omega), hn]; exact nI_ge hi (by omega)), x_conf h hl v hg (by omega)]
    simp only [clp, jn, bnd, b01_ite, nI_1, bits]
    by_cases hb : cf A j g i = true <;> simp [hb]
  · simp only [fX2_conflictSet_L1]
    rw [if_pos (by rw [h.w (by omega), hn]; exact nI_le (Nat.le_refl _) (by omega))]
theorem x_greenCount (h : RJ M J A j) {n : Nat} (hn : A (ix j 2) = nI n) (h6 : n ≤ 6) {p : Nat} (hp : p < 2) : fX2_greenCount M J (nI p) = some (nI (cn (fun g => gr A j p g) n)) := by
  unfold fX2_greenCount
  refine lp_at (fun i => (nI (cn (fun g => gr A j p g) i), nI i)) n (by omega) rfl (fun i hi k => ?_) (fun k => ?_)
  · simp only [fX2_greenCount_L1]
    rw [if_neg (by rw [h.w (by omega), hn]; exact nI_ge hi (by omega)), x_green h hp (by omega)]
    simp only [clp, jn, bnd, b01_ite, nI_1, cn]
    by_cases hb : gr A j p i = true <;> simp [hb]
  · simp only [fX2_greenCount_L1]
    rw [if_pos (by rw [h.w (by omega), hn]; exact nI_le (Nat.le_refl _) (by omega))]
theorem neg_dec {x : Int32} {hi : Int} (h : bt x (-1) hi) : (x = -1) = (x < 0) := by
  have h0 : Int32.toInt 0 = 0 := rfl
  have h1 : Int32.toInt (-1) = -1 := by decide
  have := h.1
  apply propext
  rw [ti_eq, ti_lt, h0, h1]
  constructor <;> intro <;> omega
def wt (A : Ar) (j g : Nat) : Bool := decide (0 ≤ A (gx j g 4))
theorem x_waiting (h : RJ M J A j) (v : VJ A j) {g : Nat} (hg : g < 6) (hl : nI g < A (ix j 2)) : fX2_isWaiting M J (nI g) = some (b01 (wt A j g)) := by
  unfold fX2_isWaiting
  rw [grd_T (inb_nI hg (by omega)), nI_clamp (by omega), h.as hg hl]
  have hv := (v.2.2.2.2.2.2.1 g hg).2.2.2.2.1
  simp only [jn, neg_dec hv]
  unfold wt
  by_cases hx : A (gx j g 4) < 0
  · rw [if_pos hx, decide_eq_false (by rw [ti_lt] at hx; rw [ti_le]; omega)]; rfl
  · rw [if_neg hx, decide_eq_true (by rw [ti_lt] at hx; rw [ti_le]; omega)]; rfl
theorem x_waitingCount (h : RJ M J A j) (v : VJ A j) {n : Nat} (hn : A (ix j 2) = nI n) (h6 : n ≤ 6) : fX2_waitingCount M J = some (nI (cn (fun g => wt A j g) n)) := by
  unfold fX2_waitingCount
  refine lp_at (fun i => (nI (cn (fun g => wt A j g) i), nI i)) n (by omega) rfl (fun i hi k => ?_) (fun k => ?_)
  · simp only [fX2_waitingCount_L1]
    rw [if_neg (by rw [h.w (by omega), hn]; exact nI_ge hi (by omega)), x_waiting h v (by omega) (by rw [hn]; exact nI_lt hi (by omega))]
    simp only [clp, jn, bnd, b01_ite, nI_1, cn]
    by_cases hb : wt A j i = true <;> simp [hb]
  · simp only [fX2_waitingCount_L1]
    rw [if_pos (by rw [h.w (by omega), hn]; exact nI_le (Nat.le_refl _) (by omega))]
theorem x_planned (h : RJ M J A j) (hl : nI j < A 2) (v : VJ A j) : fX2_isChangePlanned M J = some (b01 (decide (0 ≤ A (ix j 4)))) := by
  unfold fX2_isChangePlanned
  rw [h.ch hl]
  have hv := v.2.2.2.2.1
  simp only [jn, neg_dec hv]
  by_cases hx : A (ix j 4) < 0
  · rw [if_pos hx, decide_eq_false (by rw [ti_lt] at hx; rw [ti_le]; omega)]; rfl
  · rw [if_neg hx, decide_eq_true (by rw [ti_lt] at hx; rw [ti_le]; omega)]; rfl
theorem x_byRequest (h : RJ M J A j) {g : Nat} (hg : g < 6) : fX2_isByRequest M J (nI g) = some (b01 (rq A j g)) := by
  unfold fX2_isByRequest
  rw [h.rq]
  simp only [jn]
  by_cases hx : rq A j g = true
  · rw [if_pos ((bit6_get _ hg).mpr hx), hx]; rfl
  · rw [if_neg (fun z => hx ((bit6_get _ hg).mp z)), Bool.not_eq_true _ |>.mp hx]; rfl
theorem x_given (h : RJ M J A j) {g : Nat} (hg : g < 6) : fX2_isGiven M J (nI g) = some (b01 (gv A j g)) := by
  unfold fX2_isGiven
  rw [h.gv]
  simp only [jn]
  by_cases hx : gv A j g = true
  · rw [if_pos ((bit6_get _ hg).mpr hx), hx]; rfl
  · rw [if_neg (fun z => hx ((bit6_get _ hg).mp z)), Bool.not_eq_true _ |>.mp hx]; rfl
theorem x_hasGroup (h : RJ M J A j) (g : Int32) : fX2_hasGroup M J g = some (b01 (decide (0 ≤ g) && decide (g ≤ A (ix j 2) - 1))) := by
  unfold fX2_hasGroup
  rw [h.w (by omega), f_isWithin]
  simp only [clp, grd, isb_b01, if_true]
theorem x_hasRoad (h : RJ M J A j) (hl : nI j < A 2) (v : VJ A j) {d : Nat} (hd : d < 2) : fX2_hasRoadGroup M J (nI d) = some (b01 (decide (0 ≤ A (ix j (5 + d))))) := by
  unfold fX2_hasRoadGroup
  rw [grd_T (inb_nI hd (by omega)), nI_clamp (by omega), h.rd hl hd]
  have hv := v.2.2.2.2.2.1 d hd
  simp only [jn, neg_dec hv]
  by_cases hx : A (ix j (5 + d)) < 0
  · rw [if_pos hx, decide_eq_false (by rw [ti_lt] at hx; rw [ti_le]; omega)]; rfl
  · rw [if_neg hx, decide_eq_true (by rw [ti_lt] at hx; rw [ti_le]; omega)]; rfl
def hm (A : Ar) (j g p : Nat) : Bool := decide (0 ≤ A (gx j g (6 + p)))
theorem x_headCount (h : RJ M J A j) (v : VJ A j) {g : Nat} (hg : g < 6) (hl : nI g < A (ix j 2)) : fX2_headCount M J (nI g) = some (nI (cn (fun p => hm A j g p) 3)) := by
  unfold fX2_headCount
  refine lp_at (fun i => (nI (cn (fun p => hm A j g p) i), nI i)) 3 (by omega) rfl (fun i hi k => ?_) (fun k => ?_)
  · simp only [fX2_headCount_L1]
    rw [if_neg (show ¬ (3 : Int32) ≤ nI i from nI_ge (b := 3) hi (by omega)), i3, grd_T (inb_nI (by omega) (by omega)), nI_clamp (by omega), h.hd hg hi hl]
    have hv := (v.2.2.2.2.2.2.1 g hg).2.2.2.2.2.2.1 i hi
    simp only [clp, jn, bnd, nI_1, cn, neg_dec hv]
    by_cases hx : A (gx j g (6 + i)) < 0
    · have hb : hm A j g i = false := decide_eq_false (by rw [ti_lt] at hx; rw [ti_le]; omega)
      rw [if_pos hx]; simp [hb]
    · have hb : hm A j g i = true := decide_eq_true (by rw [ti_lt] at hx; rw [ti_le]; omega)
      rw [if_neg hx]; simp [hb]
  · simp only [fX2_headCount_L1]
    rw [if_pos (show (3 : Int32) ≤ nI 3 from nI_le (a := 3) (b := 3) (by omega) (by omega))]
end RJs
