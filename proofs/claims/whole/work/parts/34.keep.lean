/-! the reference's keeping and giving back -/
/-- now is copied to o (tried) -/
def Cpd (M M' : Mem) (o q : Nat) (n : Nat) : Prop := (∀ r, r ≠ o → M' r = M r) ∧ (∀ k, k < n → M' o k = M q k) ∧ ∀ k, n ≤ k → M' o k = M o k
theorem Cpd.step {M N : Mem} {o q i : Nat} (ho : q ≠ o) (h : Cpd M N o q i) : Cpd M (mset N o i (N q i)) o q (i + 1) := by
  obtain ⟨h1, h2, h3⟩ := h
  refine ⟨fun r hr => by rw [ms_other _ _ _ hr, h1 r hr], fun k hk => ?_, fun k hk => ?_⟩
  · rw [ms_at]
    by_cases e : k = i
    · subst e; rw [if_pos ⟨rfl, rfl⟩, h1 q ho]
    · rw [if_neg (fun z => e z.2)]; exact h2 k (by omega)
  · rw [ms_at, if_neg (by omega)]; exact h3 k (by omega)
theorem m_tries (M : Mem) : ∃ M', fX10_tries M = some ((), M') ∧ Cpd (mset M 0 0 0) M' 4 1 490 := by
  have main : ∀ Q : Option (Unit × Mem) → Prop, Q = (fun r => ∃ M', r = some ((), M') ∧ Cpd (mset M 0 0 0) M' 4 1 490) → Q (fX10_tries M) := by
    intro Q hQ
    unfold fX10_tries
    simp only [bnd_e]
    refine lp_inv (fun i (s : Int32 × Mem) => s.1 = nI i ∧ Cpd (mset M 0 0 0) s.2 4 1 i) Q 490 (by omega) (fun i hi s hs => Or.inl ?_) (fun s hs => ?_) (0, mset M 0 0 0) ⟨rfl, fun _ _ => rfl, fun k hk => absurd hk (by omega), fun _ _ => rfl⟩
    · obtain ⟨x, N⟩ := s
      obtain ⟨rfl, hc⟩ := hs
      refine ⟨(nI (i + 1), mset N 4 i (N 1 i)), ⟨rfl, hc.step (by omega)⟩, fun k => ?_⟩
      simp only [fX10_tries_L1]
      rw [if_neg (show ¬ (490 : Int32) ≤ nI i from nI_ge (b := 490) hi (by omega)), grd_T (inb_nI hi (by omega)), grd_T (inb_nI hi (by omega)), nI_clamp (by omega)]
      simp only [bnd_e, nI_1]
    · obtain ⟨x, N⟩ := s
      obtain ⟨rfl, hc⟩ := hs
      refine ⟨some ((), N), by rw [hQ]; exact ⟨N, rfl, hc⟩, fun k => ?_⟩
      simp only [fX10_tries_L1]
      rw [if_pos (show (490 : Int32) ≤ nI 490 from nI_le (a := 490) (b := 490) (by omega) (by omega))]
  exact main (fun r => ∃ M', r = some ((), M') ∧ Cpd (mset M 0 0 0) M' 4 1 490) rfl
/-- what keeps does: the tried state goes to the end of the kept ones, the oldest gives way -/
def Kpd (M M' : Mem) (n : Nat) : Prop := (∀ r, r ≠ 0 → r ≠ 2 → M' r = M r) ∧ (∀ k, k ≠ 3 → M' 0 k = M 0 k) ∧ M' 0 3 = nI (min (n + 1) 8) ∧
  (∀ i k, i < min (n + 1) 8 - 1 → k < 490 → M' 2 (490 * i + k) = M 2 (490 * (i + (n + 1 - min (n + 1) 8)) + k)) ∧ ∀ k, k < 490 → M' 2 (490 * (min (n + 1) 8 - 1) + k) = M 4 k
theorem m_keeps_tail (M : Mem) {n : Nat} (hn : M 0 3 = nI n) (h8 : n < 8) : ∃ M', lp (fX10_keeps_L1 (fun a3 => bnd (mset a3 0 3 ((a3 0 3) + 1)) (fun M5 => some ((), M5)))) FU (0, M) = some ((), M') ∧ (∀ r, r ≠ 0 → r ≠ 2 → M' r = M r) ∧ (∀ k, k ≠ 3 → M' 0 k = M 0 k) ∧ M' 0 3 = nI (n + 1) ∧ (∀ k, k < 490 * n → M' 2 k = M 2 k) ∧ ∀ k, k < 490 → M' 2 (490 * n + k) = M 4 k := by
  have main : ∀ Q : Option (Unit × Mem) → Prop, Q = (fun r => ∃ M', r = some ((), M') ∧ (∀ r, r ≠ 0 → r ≠ 2 → M' r = M r) ∧ (∀ k, k ≠ 3 → M' 0 k = M 0 k) ∧ M' 0 3 = nI (n + 1) ∧ (∀ k, k < 490 * n → M' 2 k = M 2 k) ∧ ∀ k, k < 490 → M' 2 (490 * n + k) = M 4 k) → Q (lp (fX10_keeps_L1 (fun a3 => bnd (mset a3 0 3 ((a3 0 3) + 1)) (fun M5 => some ((), M5)))) FU (0, M)) := by
    intro Q hQ
    refine lp_inv (fun i (s : Int32 × Mem) => s.1 = nI i ∧ (∀ r, r ≠ 2 → s.2 r = M r) ∧ (∀ k, k < 490 * n → s.2 2 k = M 2 k) ∧ ∀ k, k < i → s.2 2 (490 * n + k) = M 4 k) Q 490 (by omega) (fun i hi s hs => Or.inl ?_) (fun s hs => ?_) (0, M) ⟨rfl, fun _ _ => rfl, fun _ _ => rfl, fun k hk => absurd hk (by omega)⟩
    · obtain ⟨x, N⟩ := s
      obtain ⟨rfl, h1, h2, h3⟩ := hs
      dsimp only at h1 h2 h3
      refine ⟨(nI (i + 1), mset N 2 (490 * n + i) (N 4 i)), ⟨rfl, fun r hr => (ms_other _ _ _ hr).trans (h1 r hr), fun k hk => ?_, fun k hk => ?_⟩, fun k => ?_⟩
      · show mset N 2 _ _ 2 k = _
        rw [ms_at, if_neg (by omega)]; exact h2 k hk
      · show mset N 2 _ _ 2 _ = _
        rw [ms_at]
        by_cases e : k = i
        · subst e; rw [if_pos ⟨rfl, rfl⟩, h1 4 (by omega)]
        · rw [if_neg (by omega)]; exact h3 k (by omega)
      · simp only [fX10_keeps_L1]
        have ei : (490 : Int32) * N 0 3 + nI i = nI (490 * n + i) := by
          rw [h1 0 (by omega), hn]
          show nI 490 * nI n + nI i = _
          rw [nI_mul, nI_add]
        rw [if_neg (show ¬ (490 : Int32) ≤ nI i from nI_ge (b := 490) hi (by omega)), ei, grd_T (inb_nI hi (by omega)), grd_T (inb_nI (by omega) (by omega)), nI_clamp (by omega), nI_clamp (by omega)]
        simp only [bnd_e, nI_1]
    · obtain ⟨x, N⟩ := s
      obtain ⟨rfl, h1, h2, h3⟩ := hs
      dsimp only at h1 h2 h3
      refine ⟨some ((), mset N 0 3 (N 0 3 + 1)), ?_, fun k => ?_⟩
      · rw [hQ]
        refine ⟨_, rfl, fun r hr hr2 => by rw [ms_other _ _ _ hr]; exact h1 r hr2, fun k hk => ?_, ?_, fun k hk => ?_, fun k hk => ?_⟩
        · rw [ms_at, if_neg (by omega), h1 0 (by omega)]
        · rw [ms_at, if_pos ⟨rfl, rfl⟩, h1 0 (by omega), hn, nI_1]
        · rw [ms_other _ _ _ (by omega)]; exact h2 k hk
        · rw [ms_other _ _ _ (by omega)]; exact h3 k hk
      · simp only [fX10_keeps_L1, bnd_e]
        rw [if_pos (show (490 : Int32) ≤ nI 490 from nI_le (a := 490) (b := 490) (by omega) (by omega))]
  exact main (fun r => ∃ M', r = some ((), M') ∧ (∀ r, r ≠ 0 → r ≠ 2 → M' r = M r) ∧ (∀ k, k ≠ 3 → M' 0 k = M 0 k) ∧ M' 0 3 = nI (n + 1) ∧ (∀ k, k < 490 * n → M' 2 k = M 2 k) ∧ ∀ k, k < 490 → M' 2 (490 * n + k) = M 4 k) rfl
theorem m_keeps (M : Mem) {n : Nat} (hn : M 0 3 = nI n) (h8 : n ≤ 8) : ∃ M', fX10_keeps M = some ((), M') ∧ Kpd M M' n := by
  unfold fX10_keeps
  simp only [jn_e]
  by_cases e : n = 8
  · subst e
    rw [hn, if_pos (show nI 8 = 8 from rfl)]
    have main : ∀ Q : Option (Unit × Mem) → Prop, Q = (fun r => ∃ M', r = some ((), M') ∧ Kpd M M' 8) → Q (lp (fX10_keeps_L2 (fun a10 => bnd (mset a10 0 3 ((a10 0 3) - 1)) (fun M12 => lp (fX10_keeps_L1 (fun a3 => bnd (mset a3 0 3 ((a3 0 3) + 1)) (fun M5 => some ((), M5)))) FU (0, M12)))) FU (0, M)) := by
      intro Q hQ
      refine lp_inv (fun i (s : Int32 × Mem) => s.1 = nI i ∧ (∀ r, r ≠ 2 → s.2 r = M r) ∧ (∀ k, k < i → s.2 2 k = M 2 (490 + k)) ∧ ∀ k, i ≤ k → s.2 2 k = M 2 k) Q 3430 (by omega) (fun i hi s hs => Or.inl ?_) (fun s hs => ?_) (0, M) ⟨rfl, fun _ _ => rfl, fun k hk => absurd hk (by omega), fun _ _ => rfl⟩
      · obtain ⟨x, N⟩ := s
        obtain ⟨rfl, h1, h2, h3⟩ := hs
        dsimp only at h1 h2 h3
        refine ⟨(nI (i + 1), mset N 2 i (N 2 (490 + i))), ⟨rfl, fun r hr => (ms_other _ _ _ hr).trans (h1 r hr), fun k hk => ?_, fun k hk => ?_⟩, fun k => ?_⟩
        · show mset N 2 _ _ 2 k = _
          rw [ms_at]
          by_cases e : k = i
          · subst e; rw [if_pos ⟨rfl, rfl⟩]; exact h3 _ (by omega)
          · rw [if_neg (by omega)]; exact h2 k (by omega)
        · show mset N 2 _ _ 2 k = _
          rw [ms_at, if_neg (by omega)]; exact h3 k (by omega)
        · simp only [fX10_keeps_L2]
          rw [if_neg (show ¬ (3430 : Int32) ≤ nI i from nI_ge (b := 3430) hi (by omega)), show (490 : Int32) + nI i = nI (490 + i) from nI_add 490 i, grd_T (inb_nI (by omega) (by omega)), grd_T (inb_nI (by omega) (by omega)), nI_clamp (by omega), nI_clamp (by omega)]
          simp only [bnd_e, nI_1]
      · obtain ⟨x, N⟩ := s
        obtain ⟨rfl, h1, h2, h3⟩ := hs
        dsimp only at h1 h2 h3
        obtain ⟨N1, hN1⟩ : ∃ z, z = mset N 0 3 (N 0 3 - 1) := ⟨_, rfl⟩
        have hn1 : N1 0 3 = nI 7 := by rw [hN1, ms_at, if_pos ⟨rfl, rfl⟩, h1 0 (by omega), hn]; rfl
        obtain ⟨M', t1, t2, t3, t4, t5, t6⟩ := m_keeps_tail N1 hn1 (by omega)
        refine ⟨some ((), M'), ?_, fun k => ?_⟩
        · rw [hQ]
          refine ⟨M', rfl, fun r hr hr2 => ?_, fun k hk => ?_, t4, fun i k hi hk => ?_, fun k hk => ?_⟩
          · rw [t2 r hr hr2, hN1, ms_other _ _ _ hr]; exact h1 r hr2
          · rw [t3 k hk, hN1, ms_at, if_neg (by omega), h1 0 (by omega)]
          · have hi : i < 7 := hi
            rw [t5 _ (by omega), hN1, ms_other _ _ _ (by omega)]
            refine (h2 _ (by omega)).trans ?_
            congr 1; show 490 + (490 * i + k) = 490 * (i + 1) + k; omega
          · show M' 2 (490 * 7 + k) = _
            rw [t6 k hk, hN1, ms_other _ _ _ (by omega), h1 4 (by omega)]
        · simp only [fX10_keeps_L2, bnd_e]
          rw [if_pos (show (3430 : Int32) ≤ nI 3430 from nI_le (a := 3430) (b := 3430) (by omega) (by omega)), ← hN1]
          exact t1
    exact main (fun r => ∃ M', r = some ((), M') ∧ Kpd M M' 8) rfl
  · rw [hn, if_neg (show ¬ nI n = (8 : Int32) from fun z => e ((nI_eq (a := n) (b := 8) (by omega) (by omega)).mp z))]
    obtain ⟨M', t1, t2, t3, t4, t5, t6⟩ := m_keeps_tail M hn (by omega)
    have em : min (n + 1) 8 = n + 1 := by omega
    refine ⟨M', t1, t2, t3, by rw [em]; exact t4, fun i k hi hk => ?_, fun k hk => ?_⟩
    · rw [em] at hi ⊢
      rw [t5 _ (by omega)]; congr 2; omega
    · rw [em]; exact t6 k hk
theorem m_changes (M : Mem) {n : Nat} (hn : M 0 3 = nI n) (h8 : n ≤ 8) : ∃ M1 M', fX10_changes M = some ((), M') ∧ Cpd M M1 4 1 490 ∧ Kpd M1 M' n := by
  have main : ∀ Q : Option (Unit × Mem) → Prop, Q = (fun r => ∃ M1 M', r = some ((), M') ∧ Cpd M M1 4 1 490 ∧ Kpd M1 M' n) → Q (fX10_changes M) := by
    intro Q hQ
    unfold fX10_changes
    refine lp_inv (fun i (s : Int32 × Mem) => s.1 = nI i ∧ Cpd M s.2 4 1 i) Q 490 (by omega) (fun i hi s hs => Or.inl ?_) (fun s hs => ?_) (0, M) ⟨rfl, fun _ _ => rfl, fun k hk => absurd hk (by omega), fun _ _ => rfl⟩
    · obtain ⟨x, N⟩ := s
      obtain ⟨rfl, hc⟩ := hs
      refine ⟨(nI (i + 1), mset N 4 i (N 1 i)), ⟨rfl, hc.step (by omega)⟩, fun k => ?_⟩
      simp only [fX10_changes_L1]
      rw [if_neg (show ¬ (490 : Int32) ≤ nI i from nI_ge (b := 490) hi (by omega)), grd_T (inb_nI hi (by omega)), grd_T (inb_nI hi (by omega)), nI_clamp (by omega)]
      simp only [bnd_e, nI_1]
    · obtain ⟨x, N⟩ := s
      obtain ⟨rfl, hc⟩ := hs
      obtain ⟨M', t1, t2⟩ := m_keeps N (n := n) ((congrFun (hc.1 0 (by omega)) 3).trans hn) h8
      refine ⟨some ((), M'), by rw [hQ]; exact ⟨N, M', rfl, hc, t2⟩, fun k => ?_⟩
      simp only [fX10_changes_L1]
      rw [if_pos (show (490 : Int32) ≤ nI 490 from nI_le (a := 490) (b := 490) (by omega) (by omega)), t1]
      rfl
  exact main (fun r => ∃ M1 M', r = some ((), M') ∧ Cpd M M1 4 1 490 ∧ Kpd M1 M' n) rfl
/-- back to what was tried, with a code -/
theorem m_back (M : Mem) (c : Int32) (hc : ¬ c ≤ 0) : ∃ M1, fX10_ends M c = some (0, mset M1 0 0 c) ∧ Cpd M M1 1 4 490 := by
  have main : ∀ Q : Option (Int32 × Mem) → Prop, Q = (fun r => ∃ M1, r = some (0, mset M1 0 0 c) ∧ Cpd M M1 1 4 490) → Q (fX10_ends M c) := by
    intro Q hQ
    unfold fX10_ends
    rw [if_neg hc]
    simp only [jn_e]
    refine lp_inv (fun i (s : Int32 × Mem) => s.1 = nI i ∧ Cpd M s.2 1 4 i) Q 490 (by omega) (fun i hi s hs => Or.inl ?_) (fun s hs => ?_) (0, M) ⟨rfl, fun _ _ => rfl, fun k hk => absurd hk (by omega), fun _ _ => rfl⟩
    · obtain ⟨x, N⟩ := s
      obtain ⟨rfl, hc⟩ := hs
      refine ⟨(nI (i + 1), mset N 1 i (N 4 i)), ⟨rfl, hc.step (by omega)⟩, fun k => ?_⟩
      simp only [fX10_ends_L1]
      rw [if_neg (show ¬ (490 : Int32) ≤ nI i from nI_ge (b := 490) hi (by omega)), grd_T (inb_nI hi (by omega)), grd_T (inb_nI hi (by omega)), nI_clamp (by omega)]
      simp only [bnd_e, nI_1]
    · obtain ⟨x, N⟩ := s
      obtain ⟨rfl, hc⟩ := hs
      refine ⟨some (0, mset N 0 0 c), by rw [hQ]; exact ⟨N, rfl, hc⟩, fun k => ?_⟩
      simp only [fX10_ends_L1]
      rw [if_pos (show (490 : Int32) ≤ nI 490 from nI_le (a := 490) (b := 490) (by omega) (by omega))]
      rfl
  exact main (fun r => ∃ M1, r = some (0, mset M1 0 0 c) ∧ Cpd M M1 1 4 490) rfl
theorem m_done (M : Mem) {n : Nat} (hn : M 0 3 = nI n) (h8 : n ≤ 8) : ∃ M', fX10_ends M 0 = some (M 0 21, M') ∧ Kpd M M' n := by
  obtain ⟨M', t1, t2⟩ := m_keeps M hn h8
  refine ⟨M', ?_, t2⟩
  unfold fX10_ends
  rw [if_pos (by decide), t1]
  simp only [cl_e]
  rw [t2.2.1 21 (by omega)]
theorem m_raises (M : Mem) (c : Int32) : fX10_raises M c = some (0, mset M 0 0 c) := rfl
theorem m_refuses (M : Mem) (r c : Int32) : fX10_refuses M r c = some (0, mset (mset M 0 11 r) 0 0 c) := rfl
