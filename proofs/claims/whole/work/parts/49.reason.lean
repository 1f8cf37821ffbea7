/-! reasons of refusals -/
def mt (c fa la fb lb : Int32) : Bool := decide (wr (fb - fa) c < la) || decide (wr (fa - fb) c < lb)
theorem sub_mod (s x y c : Int) : (y - x) % c = ((s - x) % c - (s - y) % c) % c := by
  rw [← Int.sub_emod]; congr 1; omega
theorem mt_spec {c fa la fb lb : Int32} (hc : 0 < c.toInt) (ha : bt fa 0 (c.toInt - 1)) (hb : bt fb 0 (c.toInt - 1)) (hla : 0 < la.toInt) (hlb : 0 < lb.toInt) (hc2 : c.toInt ≤ 120) : (∃ s : Nat, (s : Int) < c.toInt ∧ wr (nI s - fa) c < la ∧ wr (nI s - fb) c < lb) ↔ mt c fa la fb lb = true := by
  have hs : ∀ s : Nat, (s : Int) < c.toInt → ∀ x : Int32, bt x 0 (c.toInt - 1) → (wr (nI s - x) c).toInt = ((s : Int) - x.toInt) % c.toInt := fun s h x hx => by
    have h1 := hx.1
    have h2 := hx.2
    rw [wr_ti hc, ti_sub (by rw [nI_toInt (by omega)]; omega) (by rw [nI_toInt (by omega)]; omega), nI_toInt (by omega)]
  have hd : ∀ x y : Int32, bt x 0 (c.toInt - 1) → bt y 0 (c.toInt - 1) → (wr (x - y) c).toInt = (x.toInt - y.toInt) % c.toInt := fun x y hx hy => by
    have h1 := hx.1
    have h2 := hx.2
    have h3 := hy.1
    have h4 := hy.2
    rw [wr_ti hc, ti_sub (by omega) (by omega)]
  unfold mt
  rw [Bool.or_eq_true, decide_eq_true_iff, decide_eq_true_iff, ti_lt, ti_lt, hd fb fa hb ha, hd fa fb ha hb]
  constructor
  · rintro ⟨s, h1, h2, h3⟩
    rw [ti_lt, hs s h1 fa ha] at h2
    rw [ti_lt, hs s h1 fb hb] at h3
    have b1 := Int.emod_nonneg ((s : Int) - fa.toInt) (show c.toInt ≠ 0 by omega)
    have b2 := Int.emod_nonneg ((s : Int) - fb.toInt) (show c.toInt ≠ 0 by omega)
    have b3 := Int.emod_lt_of_pos ((s : Int) - fa.toInt) hc
    have b4 := Int.emod_lt_of_pos ((s : Int) - fb.toInt) hc
    rw [sub_mod s fa.toInt fb.toInt, sub_mod s fb.toInt fa.toInt]
    rcases Int.le_total (((s : Int) - fb.toInt) % c.toInt) (((s : Int) - fa.toInt) % c.toInt) with h | h
    · left; rw [Int.emod_eq_of_lt (by omega) (by omega)]; omega
    · right; rw [Int.emod_eq_of_lt (by omega) (by omega)]; omega
  · intro h
    rcases h with h | h
    · obtain ⟨s, e, h1, h2⟩ := bt_nI hb
      refine ⟨s, by omega, ?_, ?_⟩
      · rw [ti_lt, hs s (by omega) fa ha]
        have : fb.toInt = s := by rw [e, nI_toInt h2]
        rw [← this]; exact h
      · rw [ti_lt, hs s (by omega) fb hb]
        have : fb.toInt = s := by rw [e, nI_toInt h2]
        rw [← this, Int.sub_self, Int.zero_emod]; exact hlb
    · obtain ⟨s, e, h1, h2⟩ := bt_nI ha
      refine ⟨s, by omega, ?_, ?_⟩
      · rw [ti_lt, hs s (by omega) fa ha]
        have : fa.toInt = s := by rw [e, nI_toInt h2]
        rw [← this, Int.sub_self, Int.zero_emod]; exact hla
      · rw [ti_lt, hs s (by omega) fb hb]
        have : fa.toInt = s := by rw [e, nI_toInt h2]
        rw [← this]; exact h
def pick (x y z : Bool) : Int32 := if x then 3 else if y then 4 else if z then 5 else 0
def b4 (c f l fo lo k : Int32) : Bool := decide (wr (f - fo - lo) c < k)
def clash (c f l fo lo th bk : Int32) : Int32 := pick (mt c f l fo lo) (decide (wr (f - fo - lo) c < bk)) (decide (wr (fo - f - l) c < th))
theorem x_clash {M : Mem} {J : Nat} {A : Ar} {j : Nat} (h : RJ M J A j) {p o : Nat} (hp : p < 2) (ho : o < 6) (f l th bk : Int32) (hc : 0 < (A 0).toInt) : fX2_clashWith M J (nI (6 * p + o)) f l th bk (A 0) = some (clash (A 0) f l (fs A j p o) (ln A j p o) th bk) := by
  unfold fX2_clashWith
  rw [grd_T (inb_nI (by omega) (by omega)), bnd_e, grd_T (inb_nI (by omega) (by omega)), bnd_e, nI_clamp (by omega), h.fs hp ho, h.ln hp ho]
  simp only [bnd_e, jn_e, f_wrap M hc, clp_e, f_gap M hc, not01]
  unfold clash pick mt
  by_cases h1 : wr (fs A j p o - f) (A 0) < l
  · rw [if_pos h1, decide_eq_true h1]
    by_cases h2 : wr (f - fs A j p o) (A 0) < ln A j p o
    · rw [if_pos h2]; rfl
    · rw [if_neg h2]; rfl
  · rw [if_neg h1, decide_eq_false h1]
    by_cases h2 : wr (f - fs A j p o) (A 0) < ln A j p o
    · rw [if_pos h2, decide_eq_true h2]; rfl
    · rw [if_neg h2, decide_eq_false h2]
      by_cases h3 : wr (f - fs A j p o - ln A j p o) (A 0) < bk
      · rw [if_pos h3, decide_eq_true h3]; rfl
      · rw [if_neg h3, decide_eq_false h3]
        by_cases h4 : wr (fs A j p o - f - l) (A 0) < th
        · rw [if_pos h4, decide_eq_true h4]; rfl
        · rw [if_neg h4, decide_eq_false h4]; rfl
def earl (a b : Int32) : Int32 := if a = 0 then (if a < b then b else a) else if b = 0 then (if a < b then b else a) else (if b < a then b else a)
theorem f_earlier (M : Mem) (a b : Int32) : fX9_earlierReason M a b = some (earl a b) := by
  unfold fX9_earlierReason earl
  simp only [jn_e, f_max, f_min, clp_e]
  by_cases h1 : a = 0
  · rw [if_pos h1, if_pos h1]
  · rw [if_neg h1, if_neg h1]
    by_cases h2 : b = 0
    · rw [if_pos h2, if_pos h2]
    · rw [if_neg h2, if_neg h2]
theorem al_1 (p : Nat → Bool) (n : Nat) : al p (n + 1) = (al p n && p n) := rfl
theorem earl_pick : ∀ x y z c u v w : Bool, (if c then earl (pick (!x) (!y) (!z)) (pick u v w) else pick (!x) (!y) (!z)) = pick (!(x && !(c && u))) (!(y && !(c && v))) (!(z && !(c && w))) := by decide +kernel
/-- the first reason of all that bar a green -/
def rsn (c3 c4 c5 : Nat → Bool) (n : Nat) : Int32 := pick (!al (fun o => !c3 o) n) (!al (fun o => !c4 o) n) (!al (fun o => !c5 o) n)
def d3 (A : Ar) (j p g : Nat) (f l : Int32) (o : Nat) : Bool := (cf A j g o && gr A j p o) && mt (A 0) f l (fs A j p o) (ln A j p o)
def d4 (A : Ar) (j p g : Nat) (f _l : Int32) (o : Nat) : Bool := (cf A j g o && gr A j p o) && decide (wr (f - fs A j p o - ln A j p o) (A 0) < kl A j o g)
def d5 (A : Ar) (j p g : Nat) (f l : Int32) (o : Nat) : Bool := (cf A j g o && gr A j p o) && decide (wr (fs A j p o - f - l) (A 0) < kl A j g o)
def rsnG (A : Ar) (j p g : Nat) (f l : Int32) (n : Nat) : Int32 := rsn (d3 A j p g f l) (d4 A j p g f l) (d5 A j p g f l) n
theorem x_reasonG {M : Mem} {J : Nat} {A : Ar} {j : Nat} (h : RJ M J A j) (hl : nI j < A 2) (v : VJ A j) {n p g : Nat} (hn : A (ix j 2) = nI n) (h6 : n ≤ 6) (hp : p < 2) (hg : g < 6) (f l : Int32) (hc : 0 < (A 0).toInt) : fX2_reasonAgainstGreen M J (nI p) (nI g) f l (A 0) = some (if A (gx j g 1) ≤ l then (if l ≤ A 0 - 5 then rsnG A j p g f l n else 2) else 1) := by
  unfold fX2_reasonAgainstGreen
  rw [grd_T (inb_nI hg (by omega)), nI_clamp (by omega), h.ls hg]
  by_cases h1 : A (gx j g 1) ≤ l
  · rw [if_pos h1, if_pos h1]
    by_cases h2 : l ≤ A 0 - 5
    · rw [if_pos h2, if_pos h2]
      refine lp_at (fun i => (rsnG A j p g f l i, nI i)) n (by omega) rfl (fun i hi k => ?_) (fun k => ?_)
      · simp only [fX2_reasonAgainstGreen_L1]
        rw [if_neg (by rw [h.w (by omega), hn]; exact nI_ge hi (by omega)), x_conf h hl v hg (by omega), clp_e, jn_e, b01_ite, x_green h hp (by omega), clp_e, b01_ite, x_clear h hl hg (by omega), clp_e, x_clear h hl (by omega) hg, clp_e, i6, x_clash h hp (by omega) f l _ _ hc, clp_e, f_earlier, clp_e]
        simp only [bnd_e, nI_1]
        have key := earl_pick (al (fun o => !d3 A j p g f l o) i) (al (fun o => !d4 A j p g f l o) i) (al (fun o => !d5 A j p g f l o) i) (cf A j g i && gr A j p i) (mt (A 0) f l (fs A j p i) (ln A j p i)) (decide (wr (f - fs A j p i - ln A j p i) (A 0) < kl A j i g)) (decide (wr (fs A j p i - f - l) (A 0) < kl A j g i))
        have e1 : rsnG A j p g f l (i + 1) = (if (cf A j g i && gr A j p i) = true then earl (rsnG A j p g f l i) (clash (A 0) f l (fs A j p i) (ln A j p i) (kl A j g i) (kl A j i g)) else rsnG A j p g f l i) := by
          unfold rsnG rsn clash
          rw [al_1, al_1, al_1]
          exact key.symm
        rw [e1]
        generalize rsnG A j p g f l i = R
        generalize clash (A 0) f l (fs A j p i) (ln A j p i) (kl A j g i) (kl A j i g) = C
        cases cf A j g i <;> cases gr A j p i <;> simp
      · simp only [fX2_reasonAgainstGreen_L1]
        rw [if_pos (by rw [h.w (by omega), hn]; exact nI_le (Nat.le_refl _) (by omega))]
    · rw [if_neg h2, if_neg h2]
  · rw [if_neg h1, if_neg h1]
/-! the reference's -/
theorem m_meet {M : Mem} {j : Nat} (hj : j < 4) {p a b : Nat} (hp : p < 2) (ha : a < 6) (hb : b < 6) (hc : bt (M 1 0) 30 120) (h1 : bt (fs (M 1) j p a) 0 ((M 1 0).toInt - 1)) (h2 : bt (fs (M 1) j p b) 0 ((M 1 0).toInt - 1)) (h3 : 0 < (ln (M 1) j p a).toInt) (h4 : 0 < (ln (M 1) j p b).toInt) : fX10_meet M (nI j) (nI p) (nI a) (nI b) = some (b01 (mt (M 1 0) (fs (M 1) j p a) (ln (M 1) j p a) (fs (M 1) j p b) (ln (M 1) j p b))) := by
  have hc0 : 0 < (M 1 0).toInt := by have := hc.1; omega
  obtain ⟨c, e, hcn, hc31⟩ := bt_nI (x := M 1 0) (hi := 120) ⟨by omega, hc.2⟩
  have ec : (M 1 0).toInt = c := by rw [e, nI_toInt hc31]
  have sp := mt_spec hc0 h1 h2 h3 h4 hc.2
  unfold fX10_meet
  have main := lp_srch (f := fX10_meet_L1 (nI j) (nI p) (nI a) (nI b) M) (s0 := (0 : Int32)) (fun i => nI i) (fun s => !(on (M 1) j p a (nI s) && on (M 1) j p b (nI s))) (rt := some (0 : Int32)) (rf := fun _ => some (1 : Int32)) c (by omega) rfl ?_ ?_ ?_
  · rcases main with ⟨m1, m2⟩ | ⟨i, m1, m2, m3, m4⟩
    · rw [m2]
      have : mt (M 1 0) (fs (M 1) j p a) (ln (M 1) j p a) (fs (M 1) j p b) (ln (M 1) j p b) = false := by
        cases z : mt (M 1 0) (fs (M 1) j p a) (ln (M 1) j p a) (fs (M 1) j p b) (ln (M 1) j p b)
        · rfl
        · obtain ⟨s, s1, s2, s3⟩ := sp.mpr z
          have := al_T.mp m1 s (by omega)
          rw [show on (M 1) j p a (nI s) = true from decide_eq_true s2, show on (M 1) j p b (nI s) = true from decide_eq_true s3] at this
          exact absurd this (by decide)
      rw [this]; rfl
    · rw [m4]
      have h5 : on (M 1) j p a (nI i) = true ∧ on (M 1) j p b (nI i) = true := by
        rw [← Bool.and_eq_true]
        cases z : (on (M 1) j p a (nI i) && on (M 1) j p b (nI i))
        · rw [z] at m2; exact absurd m2 (by decide)
        · rfl
      rw [sp.mp ⟨i, by omega, of_decide_eq_true h5.1, of_decide_eq_true h5.2⟩]; rfl
  all_goals (try (intro i hi ht k))
  · simp only [fX10_meet_L1]
    rw [grd_T ib0, tc0, e, if_neg (nI_ge hi (by omega)), m_on hj hp ha _ hc0, clp_e, jn_e, b01_ite, m_on hj hp hb _ hc0, clp_e, b01_ite]
    simp only [bnd_e, nI_1]
    revert ht
    cases on (M 1) j p a (nI i) <;> cases on (M 1) j p b (nI i) <;> simp
  · simp only [fX10_meet_L1]
    rw [grd_T ib0, tc0, e, if_neg (nI_ge hi (by omega)), m_on hj hp ha _ hc0, clp_e, jn_e, b01_ite, m_on hj hp hb _ hc0, clp_e, b01_ite]
    revert ht
    cases on (M 1) j p a (nI i) <;> cases on (M 1) j p b (nI i) <;> simp
  · intro k
    simp only [fX10_meet_L1]
    rw [grd_T ib0, tc0, e, if_pos (nI_le (Nat.le_refl _) (by omega))]
