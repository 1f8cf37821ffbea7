/-! the class: at second i the mask is mk v i, the count cn (vnw v) i -/
section P70
variable {M : Mem} {A : Ar} {J j q c : Nat} {v : Nat → Nat}
theorem x_pic_go (hv : ∀ s, v s < 64) (hs : ∀ s, s < c → fX2_onSet M J (nI q) (nI s) (nI c) = some (nI (v s))) (hc : c ≤ 120) (p : Int32) (k2 : Int32 → Option Int32) {i : Nat} (hi : i < c) (hp : vnw v i = true → ¬ nI (cn (vnw v) i) = p) (k : Int64 × Int32 × Int32 → Option Int32) : fX2_pictureAt_L1 J (nI q) p (nI c) M k2 k (mk v i, nI (cn (vnw v) i), nI i) = k (mk v (i + 1), nI (cn (vnw v) (i + 1)), nI (i + 1)) := by
  simp only [fX2_pictureAt_L1, jn_e, bnd_e]
  rw [if_neg (nI_ge hi (by omega)), hs i hi, clp_e]
  by_cases n : vnw v i = true
  · have z : mb (mk v i) (v i) = false := by
      rw [Bool.eq_false_iff]; intro z
      obtain ⟨s, a, b⟩ := (mk_bit hv i).mp z
      exact vnw_T.mp n s a b
    rw [if_pos ((mb_get _ (hv i)).mpr z), if_neg (hp n), nI_1, nI_1, cn_s n]
    conv => rhs; unfold mk
    rw [if_pos n]
  · have z : mb (mk v i) (v i) = true := (mk_bit hv i).mpr (by
      by_cases z : ∃ s, s < i ∧ v s = v i
      · exact z
      · exact absurd (vnw_T.mpr (fun s hs e => z ⟨s, hs, e⟩)) n)
    rw [if_neg (fun y => by rw [(mb_get _ (hv i)).mp y] at z; exact absurd z (by decide)), nI_1]
    have e : cn (vnw v) (i + 1) = cn (vnw v) i := by simp only [cn]; rw [if_neg n]; rfl
    conv => rhs; unfold mk
    rw [if_neg n, e]
/-- the class's answer: the count for -1, the k-th value seen, else -1 -/
theorem x_pic_end (hv : ∀ s, v s < 64) (hs : ∀ s, s < c → fX2_onSet M J (nI q) (nI s) (nI c) = some (nI (v s))) (hc : c ≤ 120) (p : Int32) (hp : ∀ i, i < c → vnw v i = true → ¬ nI (cn (vnw v) i) = p) : fX2_pictureAt M J (nI q) p (nI c) = some (if p = -1 then nI (cn (vnw v) c) else -1) := by
  unfold fX2_pictureAt
  rw [jn_e]
  refine lp_at (fun i => (mk v i, nI (cn (vnw v) i), nI i)) c (by omega) rfl (fun i hi k => x_pic_go hv hs hc p _ hi (hp i hi) k) (fun k => ?_)
  simp only [fX2_pictureAt_L1, jn_e]
  rw [if_pos (nI_le (Nat.le_refl _) (by omega))]
  split <;> rfl
theorem x_pic_at (hv : ∀ s, v s < 64) (hs : ∀ s, s < c → fX2_onSet M J (nI q) (nI s) (nI c) = some (nI (v s))) (hc : c ≤ 120) {i : Nat} (hi : i < c) (n : vnw v i = true) : fX2_pictureAt M J (nI q) (nI (cn (vnw v) i)) (nI c) = some (nI (v i)) := by
  unfold fX2_pictureAt
  rw [jn_e]
  refine lp_at (fun i => (mk v i, nI (cn (vnw v) i), nI i)) i (by omega) rfl (fun s hs' k => x_pic_go hv hs hc _ _ (by omega) (fun ns z => ?_) k) (fun k => ?_)
  · have h2 := cn_mono (vnw v) (show s + 1 ≤ i by omega)
    rw [cn_s ns] at h2
    have h3 := cn_le (vnw v) i
    have := (nI_eq (a := cn (vnw v) s) (b := cn (vnw v) i) (by omega) (by omega)).mp z
    omega
  · simp only [fX2_pictureAt_L1, jn_e, bnd_e]
    rw [if_neg (nI_ge hi (by omega)), hs i hi, clp_e, if_pos ((mb_get _ (hv i)).mpr (by rw [Bool.eq_false_iff]; intro z; obtain ⟨s, a, b⟩ := (mk_bit hv i).mp z; exact vnw_T.mp n s a b)), if_pos True.intro]
end P70
