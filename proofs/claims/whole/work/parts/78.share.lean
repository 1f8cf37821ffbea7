/-! call: litShare : floats from 0 to 1 -/
theorem b32_min : FP.Core.b32.qmin = -149 := by decide +kernel
theorem b32_max : FP.Core.b32.qmax = 104 := by decide +kernel
theorem b32_tl : FP.Core.b32.tails = 8388608 := by decide +kernel
theorem b32_p : 2 ^ FP.Core.b32.p = 16777216 := by decide +kernel
/-- a normal number: the significand c, the exponent q of its last digit -/
def Nrm (c : Nat) (q : Int) : Prop := 8388608 ≤ c ∧ c < 16777216 ∧ -149 ≤ q ∧ q ≤ 104
def FF (c : Nat) (q : Int) : UInt32 := FP.Core.of32 (.fin false c q)
theorem Nrm.fits {c : Nat} {q : Int} (h : Nrm c q) : FP.Core.fits FP.Core.b32 (.fin false c q) := by
  obtain ⟨h1, h2, h3, h4⟩ := h
  refine ⟨?_, ?_, ?_, Or.inr ?_⟩
  · rw [b32_p]; exact h2
  · rw [b32_min]; exact h3
  · rw [b32_max]; exact h4
  · rw [b32_tl]; exact h1
theorem val_FF {c : Nat} {q : Int} (h : Nrm c q) : FP.Core.val32 (FF c q) = .fin false c q := FP.Core.val32_of32 h.fits
theorem FF_enc {c : Nat} {q : Int} (h : Nrm c q) : FF c q = UInt32.ofNat ((q + 149).toNat * 8388608 + c) := by
  unfold FF FP.Core.of32 FP.Core.encode
  dsimp only
  rw [if_neg (by rw [b32_tl]; have := h.1; omega)]
  unfold FP.Core.assemble
  rw [b32_tl, b32_min]
  have := h.1
  have e : (q - -149).toNat = (q + 149).toNat := by rw [show q - -149 = q + 149 by omega]
  rw [e]
  refine congrArg UInt32.ofNat ?_
  rw [show Bool.toNat false = 0 from rfl, Nat.zero_mul, Nat.zero_add]
  generalize (q + 149).toNat = d
  omega
theorem val_two : FP.Core.val32 FP.fconst2 = .fin false 8388608 (-22) := by decide +kernel
theorem val_one : FP.Core.val32 FP.fconst1 = .fin false 8388608 (-23) := by decide +kernel
theorem val_zero : FP.Core.val32 FP.fconst0 = .fin false 0 (-149) := by decide +kernel
theorem val_big : FP.Core.val32 (FP.i2f 8388608) = .fin false 8388608 0 := by decide +kernel
theorem FF_two {c : Nat} {q : Int} (h : Nrm c q) (hq : q < 104) : FP.fmul (FF c q) FP.fconst2 = FF c (q + 1) := by
  have h' : Nrm c (q + 1) := ⟨h.1, h.2.1, by have := h.2.2.1; omega, by omega⟩
  refine (FP.Core.val32_inj (by rw [val_FF h']; exact fun z => by cases z) ?_).symm
  rw [FP.fmul_core, FP.Core.val32_fmul, val_FF h, val_FF h', val_two]
  refine (FP.Core.roundRatio_exact FP.Core.good_b32 (by decide) h'.fits ?_).symm
  rw [show (q + -22 - (q + 1)).toNat = 0 by omega, show (q + 1 - (q + -22)).toNat = 23 by omega]
  simp
theorem FF_scale {c : Nat} (h : Nrm c (-23)) : FP.fmul (FF c (-23)) (FP.i2f 8388608) = FF c 0 := by
  have h' : Nrm c 0 := ⟨h.1, h.2.1, by decide, by decide⟩
  refine (FP.Core.val32_inj (by rw [val_FF h']; exact fun z => by cases z) ?_).symm
  rw [FP.fmul_core, FP.Core.val32_fmul, val_FF h, val_FF h', val_big]
  refine (FP.Core.roundRatio_exact FP.Core.good_b32 (by decide) h'.fits ?_).symm
  rw [show ((-23 : Int) + 0 - 0).toNat = 0 by decide, show (0 - ((-23 : Int) + 0)).toNat = 23 by decide]
  simp
theorem FF_int {c : Nat} (h : Nrm c 0) : FP.f2i (FF c 0) = nI c := by
  rw [FP.f2i_core]
  show FP.Core.toI (FP.Core.val32 (FF c 0)) = _
  rw [val_FF h]
  unfold FP.Core.toI FP.Core.toInt FP.Core.truncate FP.Core.signed
  have h1 := h.1
  have h2 := h.2.1
  have e : (c * 2 ^ (0 : Int).toNat / 2 ^ (-(0 : Int)).toNat) = c := by simp
  dsimp only
  rw [e, if_neg (by decide)]
  rw [show max (-2 ^ 31 : Int) (min (2 ^ 31 - 1) (c : Int)) = (c : Int) by omega]
  rfl
theorem FF_lt1 {c : Nat} {q : Int} (h : Nrm c q) (hq : q < -23) : FP.fcmp (FF c q) FP.fconst1 = some .lt := by
  rw [FP.fcmp_core]
  show FP.Core.order (FP.Core.val32 (FF c q)) (FP.Core.val32 FP.fconst1) = _
  rw [val_FF h, val_one]
  unfold FP.Core.order
  dsimp only
  rw [show min q (-23) = q by omega]
  unfold FP.Core.inUnits FP.Core.signed
  rw [if_neg (by decide), if_neg (by decide), show (q - q).toNat = 0 by omega]
  obtain ⟨d, hd⟩ : ∃ d, (-23 - q).toNat = d + 1 := ⟨(-23 - q).toNat - 1, by omega⟩
  rw [hd, Nat.pow_succ]
  have hp : 0 < 2 ^ d := Nat.two_pow_pos d
  have h2 := h.2.1
  congr 1
  rw [Int.compare_eq_lt]
  have e : 8388608 * (2 ^ d * 2) = 16777216 * 2 ^ d := by omega
  rw [e]
  generalize 2 ^ d = D at hp
  simp only [Nat.pow_zero, Nat.mul_one]
  omega
theorem FF_ge1 {c : Nat} (h : Nrm c (-23)) : FP.fcmp (FF c (-23)) FP.fconst1 = some .eq ∨ FP.fcmp (FF c (-23)) FP.fconst1 = some .gt := by
  rw [FP.fcmp_core]
  have e : FP.Core.fcmp (FF c (-23)) FP.fconst1 = some (compare (c : Int) (8388608 : Int)) := by
    show FP.Core.order (FP.Core.val32 (FF c (-23))) (FP.Core.val32 FP.fconst1) = _
    rw [val_FF h, val_one]
    unfold FP.Core.order FP.Core.inUnits FP.Core.signed
    simp
  rw [e]
  have := h.1
  by_cases z : c = 8388608
  · subst z; exact Or.inl rfl
  · have hc : compare (c : Int) (8388608 : Int) = .gt := by rw [Int.compare_eq_gt]; omega
    exact Or.inr (by rw [hc])
theorem FF_gt0 {c : Nat} {q : Int} (h : Nrm c q) : FP.fcmp (FF c q) FP.fconst0 = some .gt := by
  rw [FP.fcmp_core]
  show FP.Core.order (FP.Core.val32 (FF c q)) (FP.Core.val32 FP.fconst0) = _
  rw [val_FF h, val_zero]
  unfold FP.Core.order FP.Core.inUnits FP.Core.signed
  dsimp only
  rw [if_neg (by decide), if_neg (by decide)]
  refine congrArg some ?_
  rw [Int.compare_eq_gt]
  have := h.1
  have hp : 0 < c * 2 ^ (q - min q (-149)).toNat := Nat.mul_pos (by omega) (Nat.two_pow_pos _)
  rw [Nat.zero_mul]
  omega
/-- a whole number from 1 to 99999 as a float -/
theorem val_nat {n : Nat} (h0 : 0 < n) (h1 : n ≤ 99999) : ∃ L : Nat, L ≤ 16 ∧ FP.Core.val32 (FP.i2f (nI n)) = .fin false (n * 2 ^ (23 - L)) ((L : Int) - 23) := by
  have l1 : 2 ^ n.log2 ≤ n := Nat.log2_self_le (by omega)
  have l2 : n < 2 ^ (n.log2 + 1) := Nat.lt_log2_self
  have l3 : n.log2 < 17 := (Nat.pow_lt_pow_iff_right (by decide : 1 < 2)).mp (Nat.lt_of_le_of_lt l1 (by omega))
  refine ⟨n.log2, by omega, ?_⟩
  generalize n.log2 = L at l1 l2 l3
  rw [FP.i2f_core, FP.Core.val32_i2f, nI_toInt (by omega)]
  have e : FP.Core.ofInt (n : Int) = .fin false n 0 := by
    unfold FP.Core.ofInt
    rw [decide_eq_false (by omega)]
    rfl
  rw [e]
  have p1 : 2 ^ L * 2 ^ (23 - L) = 8388608 := by rw [← Nat.pow_add, show L + (23 - L) = 23 by omega]
  have p2 : 2 ^ (L + 1) * 2 ^ (23 - L) = 16777216 := by rw [← Nat.pow_add, show L + 1 + (23 - L) = 24 by omega]
  have hp := Nat.two_pow_pos (23 - L)
  refine FP.Core.roundRatio_exact FP.Core.good_b32 (by decide) (Nrm.fits ⟨?_, ?_, by omega, by omega⟩) ?_
  · rw [← p1]; exact Nat.mul_le_mul_right _ l1
  · rw [← p2]; exact Nat.mul_lt_mul_of_pos_right l2 hp
  · rw [show (0 - ((L : Int) - 23)).toNat = 23 - L by omega, show ((L : Int) - 23 - 0).toNat = 0 by omega]
    simp
theorem share_FF {a t : Nat} (h0 : 0 < a) (h1 : a ≤ t) (h2 : t ≤ 99999) : ∃ c q, Nrm c q ∧ -40 ≤ q ∧ q ≤ -23 ∧ FP.fdiv (FP.i2f (nI a)) (FP.i2f (nI t)) = FF c q := by
  obtain ⟨La, la, va⟩ := val_nat h0 (by omega)
  obtain ⟨Lt, lt, vt⟩ := val_nat (n := t) (by omega) h2
  have hp1 := Nat.two_pow_pos (23 - La)
  have hp2 := Nat.two_pow_pos (23 - Lt)
  have e1 : FP.Core.val32 (FP.fdiv (FP.i2f (nI a)) (FP.i2f (nI t))) = FP.Core.roundRatio FP.Core.b32 false a t 0 := by
    rw [FP.fdiv_core, FP.Core.val32_fdiv, va, vt]
    unfold FP.Core.quotient
    dsimp only
    rw [if_neg (by have := Nat.mul_pos (show 0 < t by omega) hp2; omega)]
    refine FP.Core.roundRatio_congr (Nat.mul_pos (by omega) hp2) (by omega) ?_
    by_cases c : Lt ≤ La
    · rw [show ((La : Int) - 23 - ((Lt : Int) - 23) - 0).toNat = La - Lt by omega, show (0 - ((La : Int) - 23 - ((Lt : Int) - 23))).toNat = 0 by omega, show 23 - Lt = (23 - La) + (La - Lt) by omega, Nat.pow_add]
      simp only [Nat.pow_zero, Nat.mul_one]
      ac_rfl
    · rw [show ((La : Int) - 23 - ((Lt : Int) - 23) - 0).toNat = 0 by omega, show (0 - ((La : Int) - 23 - ((Lt : Int) - 23))).toNat = Lt - La by omega, show 23 - La = (23 - Lt) + (Lt - La) by omega, Nat.pow_add]
      simp only [Nat.pow_zero, Nat.mul_one]
      ac_rfl
  have ht : 0 < t := by omega
  obtain ⟨k1, k2⟩ := FP.Core.leading_spec h0 ht
  have k3 : FP.Core.leading a t ≤ 0 := by
    by_cases z : FP.Core.leading a t ≤ 0
    · exact z
    · exfalso
      refine k1 (FP.Core.below_mono (a := 1) (by omega) ?_)
      show a * 2 ^ (-1 : Int).toNat < t * 2 ^ (1 : Int).toNat
      rw [show (-1 : Int).toNat = 0 by decide, show (1 : Int).toNat = 1 by decide]
      omega
  have k4 : -17 ≤ FP.Core.leading a t := by
    by_cases z : -17 ≤ FP.Core.leading a t
    · exact z
    · exfalso
      have := FP.Core.below_mono (b := -17) (by omega) k2
      have this' : a * 2 ^ (-(-17 : Int)).toNat < t * 2 ^ (-17 : Int).toNat := this
      rw [show (-(-17 : Int)).toNat = 17 by decide, show (-17 : Int).toNat = 0 by decide] at this'
      omega
  have kq : FP.Core.quantum FP.Core.b32 a t 0 = FP.Core.leading a t - 23 := by
    unfold FP.Core.quantum
    rw [b32_min, show FP.Core.b32.p = 24 from rfl]
    omega
  have hm1 := FP.Core.nearest_units_le (f := FP.Core.b32) h0 ht 0
  have hm2 : FP.Core.b32.tails ≤ FP.Core.nearest (FP.Core.unitsNum a 0 (FP.Core.quantum FP.Core.b32 a t 0)) (FP.Core.unitsDen t 0 (FP.Core.quantum FP.Core.b32 a t 0)) := by
    refine FP.Core.nearest_ge (FP.Core.unitsDen_pos ht ..) ?_
    rcases FP.Core.quantum_not_below (f := FP.Core.b32) h0 ht 0 with h3 | h3
    · rw [kq, b32_min] at h3; omega
    · rw [show (FP.Core.b32.p : Int) - 1 = ((FP.Core.b32.p - 1 : Nat) : Int) by decide, ← FP.Core.units_below] at h3
      exact Nat.le_of_not_lt h3
  rw [b32_tl] at hm2
  rw [b32_p] at hm1
  have e2 : FP.Core.roundRatio FP.Core.b32 false a t 0 = FP.Core.settle FP.Core.b32 false (FP.Core.nearest (FP.Core.unitsNum a 0 (FP.Core.quantum FP.Core.b32 a t 0)) (FP.Core.unitsDen t 0 (FP.Core.quantum FP.Core.b32 a t 0))) (FP.Core.quantum FP.Core.b32 a t 0) := by
    unfold FP.Core.roundRatio
    rw [if_neg (by omega)]; rfl
  have k0 : FP.Core.leading a t = 0 → FP.Core.nearest (FP.Core.unitsNum a 0 (FP.Core.quantum FP.Core.b32 a t 0)) (FP.Core.unitsDen t 0 (FP.Core.quantum FP.Core.b32 a t 0)) = 8388608 := fun z => by
    rw [z] at k1
    have hat : a = t := by
      have : ¬ a * 2 ^ (-(0 : Int)).toNat < t * 2 ^ (0 : Int).toNat := k1
      rw [show (-(0 : Int)).toNat = 0 by decide, show (0 : Int).toNat = 0 by decide] at this
      omega
    rw [kq, z, hat]
    unfold FP.Core.unitsNum FP.Core.unitsDen
    rw [show (0 - ((0 : Int) - 23)).toNat = 23 by decide, show ((0 : Int) - 23 - 0).toNat = 0 by decide]
    rw [Nat.mul_comm t (2 ^ 23), Nat.pow_zero, Nat.mul_one]
    exact FP.Core.nearest_exact (2 ^ 23) ht
  generalize FP.Core.nearest (FP.Core.unitsNum a 0 (FP.Core.quantum FP.Core.b32 a t 0)) (FP.Core.unitsDen t 0 (FP.Core.quantum FP.Core.b32 a t 0)) = m at hm1 hm2 e2 k0
  rw [kq] at e2
  generalize FP.Core.leading a t = k at k3 k4 e2 k0
  have fin : ∀ (c : Nat) (q : Int), Nrm c q → FP.Core.roundRatio FP.Core.b32 false a t 0 = .fin false c q → FP.fdiv (FP.i2f (nI a)) (FP.i2f (nI t)) = FF c q := fun c q hc he => by
    refine (FP.Core.val32_inj (by rw [val_FF hc]; exact fun z => by cases z) ?_).symm
    rw [val_FF hc, e1, he]
  unfold FP.Core.settle at e2
  rw [b32_p, b32_tl] at e2
  by_cases hc : m < 16777216
  · rw [if_pos hc] at e2
    unfold FP.Core.bound at e2
    rw [if_pos (by rw [b32_max]; omega)] at e2
    have hN : Nrm m (k - 23) := ⟨hm2, hc, by omega, by omega⟩
    exact ⟨m, k - 23, hN, by omega, by omega, fin _ _ hN e2⟩
  · rw [if_neg hc] at e2
    unfold FP.Core.bound at e2
    rw [if_pos (by rw [b32_max]; omega)] at e2
    have hk : k ≠ 0 := fun z => by have := k0 z; omega
    have hN : Nrm 8388608 (k - 23 + 1) := ⟨by omega, by omega, by omega, by omega⟩
    exact ⟨8388608, k - 23 + 1, hN, by omega, by omega, fin _ _ hN e2⟩
