/-! trips -/
def jd (d n i : Nat) : Nat := if d = 0 then i else n - 1 - i
def ro (A : Ar) (d j : Nat) : Nat := (A (ix j (5 + d))).toNatClampNeg
def pl (A : Ar) (j : Nat) : Nat := (A (ix j 3)).toNatClampNeg
def wa (A : Ar) (d j : Nat) (t : Int32) : Int32 := uo A j (pl A j) (ro A d j) (wr (t - A (ix j 1)) (A 0))
def ab (x : Int32) : Int32 := if 0 ≤ x then x else -x
def ds (A : Ar) (d n i : Nat) : Int32 := if i = 0 then 0 else ab (A (ix (jd d n i) 0) - A (ix (jd d n (i - 1)) 0))
def tt (A : Ar) (d n i : Nat) : Int32 := ((ds A d n i + A 1) - 1) / A 1
def psb (A : Ar) (d j : Nat) : Bool := decide (0 ≤ A (ix j (5 + d))) && gr A j (pl A j) (ro A d j)
def pos (A : Ar) (d n : Nat) : Bool := al (psb A d) n && decide (0 < n)
theorem f_abs (M : Mem) (x : Int32) : fJ9_abs_0f7a4 M x = some (ab x) := by
  unfold fJ9_abs_0f7a4 ab; simp only [jn_e]; split <;> rfl
theorem pl_e {A : Ar} {j : Nat} (v : VJ A j) : pl A j < 2 ∧ A (ix j 3) = nI (pl A j) := by
  obtain ⟨q, h1, h2⟩ := plan_of v
  unfold pl; rw [h2, nI_clamp (by omega)]; exact ⟨h1, rfl⟩
theorem ro_e {A : Ar} {d j : Nat} (v : VJ A j) (hd : d < 2) (h : 0 ≤ A (ix j (5 + d))) : ro A d j < 6 ∧ A (ix j (5 + d)) = nI (ro A d j) ∧ nI (ro A d j) < A (ix j 2) := by
  have hb := v.2.2.2.2.2.1 d hd
  have hs := v.2.2.1.2
  have z0 : Int32.toInt 0 = 0 := rfl
  rw [ti_le, z0] at h
  have e := nI_clampt h
  have e2 := clamp_ti h
  unfold ro
  have h1 := hb.2
  have h6 : (A (ix j (5 + d))).toNatClampNeg < 6 := by omega
  exact ⟨h6, e.symm, by rw [ti_lt, nI_toInt (by omega)]; omega⟩
theorem jd_lt {d n i : Nat} (h : i < n) : jd d n i < n := by unfold jd; split <;> omega
section TR
variable {M : Mem} {A : Ar}
theorem lj {A : Ar} {n j : Nat} (hn : A 2 = nI n) (hn4 : n ≤ 4) (h : j < n) : nI j < A 2 := by rw [hn]; exact nI_lt h (by omega)
theorem x_possible (hR : RS M 1 A) (V : Val A) {n d : Nat} (hn : A 2 = nI n) (hn4 : n ≤ 4) (hd : d < 2) : fX7_arePossible M 1 (nI d) = some (b01 (pos A d n)) := by
  unfold fX7_arePossible
  simp only [jn_e]
  have stp : ∀ i, i < n → ∀ (k2 k6 : Unit → Option Int32) (k : Int32 → Option Int32), fX7_arePossible_L1 1 (nI d) M k2 k6 k (nI i) = if psb A d i = true then k (nI (i + 1)) else k6 () := fun i hi k2 k6 k => by
    have hl := lj hn hn4 hi
    have hJ := V.2.1 i (by omega) hl
    simp only [fX7_arePossible_L1]
    rw [if_neg (by rw [hR.w3, hn]; exact nI_ge hi (by omega)), grd_T (inb_nI (by omega) (by omega)), nI_clamp (by omega), x_hasRoad (hR.j (by omega)) hl hJ hd, clp_e, b01_ite, grd_T (inb_nI hd (by omega)), nI_clamp (by omega), (hR.j (by omega)).rd hl hd, (hR.j (by omega)).w (show 3 < 4 by omega)]
    unfold psb
    by_cases h : 0 ≤ A (ix i (5 + d))
    · obtain ⟨r1, r2, r3⟩ := ro_e hJ hd h
      obtain ⟨p1, p2⟩ := pl_e hJ
      rw [if_pos (decide_eq_true h), r2, p2, x_green (hR.j (by omega)) p1 r1, clp_e, b01_ite, ← r2, decide_eq_true h, Bool.true_and, bnd_e, nI_1]
    · rw [if_neg (by rw [decide_eq_false h]; decide), decide_eq_false h]; rfl
  have main := lp_fst (f := fX7_arePossible_L1 1 (nI d) M (fun _ => if M 1 3 ≤ 0 then grd (isb 0) (some 0) else grd (isb 1) (some 1)) (fun _ => some 0)) (s0 := (0 : Int32)) (fun i => nI i) (psb A d) (rt := if M 1 3 ≤ 0 then grd (isb 0) (some 0) else grd (isb 1) (some 1)) (rf := fun _ => some (0 : Int32)) n (by omega) rfl (fun i hi ht k => by rw [stp i hi, if_pos ht]) (fun i hi ht k => by rw [stp i hi, if_neg (by rw [ht]; decide)]) (fun k => by
    simp only [fX7_arePossible_L1]
    rw [if_pos (by rw [hR.w3, hn]; exact nI_le (Nat.le_refl _) (by omega))])
  rw [main]
  unfold pos
  cases al (psb A d) n
  · rfl
  · rw [if_pos rfl, hR.w3, hn]
    by_cases h : 0 < n
    · rw [if_neg (nI_nle h (by omega)), decide_eq_true h]; rfl
    · have : n = 0 := by omega
      subst this
      rw [if_pos (by decide)]; rfl
theorem x_numberAt (hR : RS M 1 A) {n d i : Nat} (hn : A 2 = nI n) (hn4 : n ≤ 4) (hd : d < 2) (hi : i < n) : fX7_numberAt M 1 (nI d) (nI i) = some (nI (jd d n i)) := by
  unfold fX7_numberAt jd
  rw [jn_e]
  rcases (show d = 0 ∨ d = 1 by omega) with rfl | rfl
  · rw [if_pos (show nI 0 = 0 from rfl), if_pos rfl]
  · rw [if_neg (show ¬ nI 1 = 0 by decide), if_neg (by omega), hR.w3, hn, show nI n - 1 = nI (n - 1) from nI_sub (a := n) (b := 1) (by omega), nI_sub (by omega)]
theorem x_distance (hR : RS M 1 A) {n d i : Nat} (hn : A 2 = nI n) (hn4 : n ≤ 4) (hd : d < 2) (hi : i < n) : fX7_distanceTo M 1 (nI d) (nI i) = some (ds A d n i) := by
  unfold fX7_distanceTo ds
  by_cases h : i = 0
  · subst h
    rw [if_neg (by decide), if_pos rfl]
  · rw [if_pos (show (1 : Int32) ≤ nI i from nI_le (a := 1) (by omega) (by omega)), if_neg h, show nI i - 1 = nI (i - 1) from nI_sub (a := i) (b := 1) (by omega), x_numberAt hR hn hn4 hd (by omega), clp_e, grd_T (inb_nI (Nat.lt_of_lt_of_le (jd_lt (by omega)) hn4) (by omega)), x_numberAt hR hn hn4 hd hi, clp_e, grd_T (inb_nI (Nat.lt_of_lt_of_le (jd_lt hi) hn4) (by omega)), nI_clamp (by have := jd_lt (d := d) hi; omega), nI_clamp (by have := jd_lt (d := d) (show i - 1 < n by omega); omega), (hR.j (j := jd d n i) (by have := jd_lt (d := d) hi; omega)).w (by omega), (hR.j (j := jd d n (i - 1)) (by have := jd_lt (d := d) (show i - 1 < n by omega); omega)).w (by omega), f_abs, clp_e]
theorem x_secondsTo (hR : RS M 1 A) (V : Val A) {n d i : Nat} (hn : A 2 = nI n) (hn4 : n ≤ 4) (hd : d < 2) (hi : i < n) : fX7_secondsTo M 1 (nI d) (nI i) = some (tt A d n i) := by
  have hs := V.1.2.1
  have z1 : Int32.toInt 1 = 1 := rfl
  have z0 : Int32.toInt 0 = 0 := rfl
  unfold fX7_secondsTo tt
  rw [x_distance hR hn hn4 hd hi, clp_e, jn_e, hR.w1, if_pos (by rw [ti_le, z1]; have := hs.1; omega), grd_T]
  unfold nz
  rw [decide_eq_false (by rw [ti_eq, z0]; have := hs.1; omega)]; rfl
theorem x_wait (hR : RS M 1 A) (V : Val A) {n d j : Nat} (hn : A 2 = nI n) (hn4 : n ≤ 4) (hd : d < 2) (hj : j < n) (hp : psb A d j = true) (t : Int32) : fX7_waitAt M 1 (nI j) (nI d) t = some (wa A d j t) := by
  have hl := lj hn hn4 hj
  have hJ := V.2.1 j (by omega) hl
  unfold psb at hp
  rw [Bool.and_eq_true, decide_eq_true_iff] at hp
  obtain ⟨r1, r2, r3⟩ := ro_e hJ hd hp.1
  obtain ⟨p1, p2⟩ := pl_e hJ
  unfold fX7_waitAt wa
  rw [grd_T (inb_nI (by omega) (by omega)), nI_clamp (by omega), hR.w0, x_local (hR.j (by omega)) t V.c0, clp_e, grd_T (inb_nI hd (by omega)), nI_clamp (by omega), (hR.j (by omega)).rd hl hd, (hR.j (by omega)).w (show 3 < 4 by omega), r2, p2, x_until (hR.j (by omega)) p1 r1 _ V.c0, clp_e]
end TR
/-- a trip's numbers ahead of a step: time, waits, seconds waited -/
def tp (A : Ar) (d n : Nat) (t0 : Int32) : Nat → Int32 × Nat × Int32
  | 0 => (t0, 0, 0)
  | i + 1 => let t := (tp A d n t0 i).1 + tt A d n i; let w := wa A d (jd d n i) t; (t + w, (tp A d n t0 i).2.1 + (if 0 < w then 1 else 0), (tp A d n t0 i).2.2 + w)
theorem tp_le (A : Ar) (d n : Nat) (t0 : Int32) : ∀ i, (tp A d n t0 i).2.1 ≤ i
  | 0 => Nat.le_refl 0
  | i + 1 => by have := tp_le A d n t0 i; simp only [tp]; split <;> omega
section TR2
variable {M : Mem} {A : Ar}
theorem x_numberOf (hR : RS M 1 A) (V : Val A) {n d : Nat} (hn : A 2 = nI n) (hn4 : n ≤ 4) (hd : d < 2) (hp : pos A d n = true) (t0 w : Int32) : fX7_numberOf M 1 (nI d) t0 w = some (if w = 0 then (tp A d n t0 n).1 - t0 else if w = 1 then nI (tp A d n t0 n).2.1 else (tp A d n t0 n).2.2) := by
  unfold pos at hp
  rw [Bool.and_eq_true] at hp
  unfold fX7_numberOf
  simp only [jn_e]
  refine lp_at (fun i => ((tp A d n t0 i).1, nI (tp A d n t0 i).2.1, (tp A d n t0 i).2.2, nI i)) n (by omega) rfl (fun i hi k => ?_) (fun k => ?_)
  · simp only [fX7_numberOf_L1]
    rw [if_neg (by rw [hR.w3, hn]; exact nI_ge hi (by omega)), x_secondsTo hR V hn hn4 hd hi, clp_e, bnd_e, x_numberAt hR hn hn4 hd hi, clp_e, x_wait hR V hn hn4 hd (jd_lt hi) (al_T.mp hp.1 _ (jd_lt hi)), clp_e]
    simp only [bnd_e, jn_e, nI_1, not01, tp]
    by_cases h : 0 < wa A d (jd d n i) ((tp A d n t0 i).1 + tt A d n i)
    · rw [if_pos h, if_pos h]
    · rw [if_neg h, if_neg h]; simp
  · simp only [fX7_numberOf_L1]
    rw [if_pos (by rw [hR.w3, hn]; exact nI_le (Nat.le_refl _) (by omega))]
    split
    · rfl
    · split <;> rfl
end TR2
