/-! calls: restore, undo -/
section O8
variable {Mx Mm : Mem}
theorem st_restore (I : Inv Mx Mm) : ∃ rx Mx' vm Mm', fX9_restore Mx = some (rx, Mx') ∧ fX10_restore Mm = some (vm, Mm') ∧ Agr [2] rx vm Mm' ∧ Inv Mx' Mm' := by
  have I0 := I.th 0
  obtain ⟨N, hN⟩ : ∃ z, z = mset Mm 0 0 0 := ⟨_, rfl⟩
  rw [← hN] at I0
  obtain ⟨hR, hV, hH, hT⟩ := id I0
  have h00 : N 0 0 = 0 := by rw [hN, ms_at, if_pos ⟨rfl, rfl⟩]
  obtain ⟨⟨s1, s2⟩, ⟨l, t1, t2, t3, t4⟩, ⟨q, u1, u2, u3, u4⟩, w1, w2, w3, w4⟩ := id hT
  unfold fX9_restore fX10_restore
  rw [bnd_e, ← hN, s1]
  rcases s2 with s2 | ⟨s2, s3, s4⟩
  · rw [s2, if_pos rfl, need_3', clpm_l, m_raises, cl_e]
    exact ⟨_, _, _, _, rfl, rfl, fin_x I0 0 rfl _ _ rfl⟩
  · rw [s2, if_neg (by decide), need_T', clpm_r, jn_e]
    obtain ⟨M2, a1, a2, a3⟩ := x_copyRS (M := Mx) (t := 1) (t0 := 85) (A := N 3) (by omega) s3
    have main := lp_inv (f := fX10_restore_L1 (fun a2 => bnd (mset a2 0 3 0) (fun M4 => grd (inb 2 490) (some (M4 1 (2 : Int32).toNatClampNeg, M4))))) (fun i (s : Int32 × Mem) => s.1 = nI i ∧ Cpd N s.2 1 3 i) (fun r => ∃ M', r = some (N 3 2, mset M' 0 3 0) ∧ Cpd N M' 1 3 490) 490 (by omega) (fun i hi s hs => Or.inl (by
        obtain ⟨x, K⟩ := s
        obtain ⟨rfl, hc⟩ := hs
        refine ⟨(nI (i + 1), mset K 1 i (K 3 i)), ⟨rfl, hc.step (by omega)⟩, fun k => ?_⟩
        simp only [fX10_restore_L1]
        rw [if_neg (show ¬ (490 : Int32) ≤ nI i from nI_ge (b := 490) hi (by omega)), grd_T (inb_nI hi (by omega)), grd_T (inb_nI hi (by omega)), nI_clamp (by omega)]
        simp only [bnd_e, nI_1])) (fun s hs => by
        obtain ⟨x, K⟩ := s
        obtain ⟨rfl, hc⟩ := hs
        refine ⟨some (N 3 2, mset K 0 3 0), ⟨K, rfl, hc⟩, fun k => ?_⟩
        simp only [fX10_restore_L1]
        rw [if_pos (show (490 : Int32) ≤ nI 490 from nI_le (a := 490) (b := 490) (by omega) (by omega)), bnd_e, grd_T ib2, tc2, ms_other _ _ _ (by omega)]
        rw [show K 1 2 = N 3 2 from hc.2.1 2 (by omega)]) (0, N) ⟨rfl, fun _ _ => rfl, fun k hk => absurd hk (by omega), fun _ _ => rfl⟩
    obtain ⟨K, b1, b2, b3, b4⟩ := main
    rw [a1, cl_e, bnd_e, b1]
    have e3 : ∀ k, k < 490 → mset K 0 3 0 1 k = N 3 k := fun k hk => by rw [ms_other _ _ _ (by omega)]; exact b3 k hk
    refine ⟨_, _, _, _, rfl, rfl, ⟨?_, ?_⟩, ?_, Val_cong e3 s4, ?_, ?_⟩
    · rw [ms_at, if_neg (by omega), b2 0 (by omega), h00]
    · rw [ms_other _ _ _ (by omega), a3.w3]
    · exact RS_cong e3 (RS_frame (fun o h1 h2 => ms_other _ _ _ (by omega)) a3)
    · obtain ⟨n, x, c1, c2, c3, c4, c5, c6⟩ := hH
      refine ⟨0, x, by omega, c2, by rw [ms_at, if_pos ⟨rfl, rfl⟩]; rfl, ?_, by rw [ms_at, if_pos ⟨rfl, rfl⟩]; rfl, fun i hi => absurd hi (by omega)⟩
      rw [ms_at, if_neg (by omega), a2 463 (by omega), c4]
    · refine Rest_frame (fun k h8 h11 => ?_) (fun o h8 h11 => ?_) (fun o ho => ?_) (fun k hk => ?_) ?_ ?_ ?_ hT
      · rw [ms_other _ _ _ (by omega), a2 0 (by omega)]
      · rw [ms_other _ _ _ (by omega), a2 o (by omega)]
      · rw [ms_other _ _ _ (by omega), a2 o (by omega)]
      · rw [ms_at, if_neg (by omega), b2 0 (by omega)]
      · rw [ms_other _ _ _ (by omega), b2 3 (by omega)]
      · rw [ms_other _ _ _ (by omega), b2 5 (by omega)]
      · rw [ms_other _ _ _ (by omega), b2 6 (by omega)]
theorem st_undo (I : Inv Mx Mm) : ∃ rx Mx' vm Mm', fX9_undo Mx = some (rx, Mx') ∧ fX10_undo Mm = some (vm, Mm') ∧ Agr [2] rx vm Mm' ∧ Inv Mx' Mm' := by
  have I0 := I.th 0
  obtain ⟨N, hN⟩ : ∃ z, z = mset Mm 0 0 0 := ⟨_, rfl⟩
  rw [← hN] at I0
  obtain ⟨hR, hV, hH, hT⟩ := id I0
  have h00 : N 0 0 = 0 := by rw [hN, ms_at, if_pos ⟨rfl, rfl⟩]
  obtain ⟨n, x, c1, c2, c3, c4, c5, c6⟩ := id hH
  unfold fX9_undo fX10_undo
  rw [bnd_e, ← hN, c5, jn_e, c3]
  by_cases hn : n = 0
  · subst hn
    rw [if_pos (show nI 0 ≤ 0 by decide)]
    dsimp only
    rw [need_3', clpm_l, if_pos (show nI 0 = 0 by decide), m_raises, cl_e]
    exact ⟨_, _, _, _, rfl, rfl, fin_x I0 0 rfl _ _ rfl⟩
  · rw [if_neg (nI_nle (by omega) (by omega))]
    dsimp only
    rw [need_T', clpm_r, if_neg (nI_ne0 (by omega) (by omega)), bnd_e, show nI n - 1 = nI (n - 1) from nI_sub (a := n) (b := 1) (by omega)]
    obtain ⟨r1, r2⟩ := c6 (n - 1) (by omega)
    rw [show (x + 8 - n + (n - 1)) % 8 = (x + 7) % 8 by omega] at r1
    obtain ⟨M2, a1, a2, a3, a4, a5⟩ := x_pop c3 c4 (by omega) c1 c2 r1
    obtain ⟨N1, hN1⟩ : ∃ z, z = mset N 0 3 (nI (n - 1)) := ⟨_, rfl⟩
    rw [← hN1]
    have n3 : N1 0 3 = nI (n - 1) := by rw [hN1, ms_at, if_pos ⟨rfl, rfl⟩]
    have no : ∀ r, r ≠ 0 → N1 r = N r := fun r hr => by rw [hN1, ms_other _ _ _ hr]
    have n0 : ∀ k, k ≠ 3 → N1 0 k = N 0 k := fun k hk => by rw [hN1, ms_at, if_neg (by omega)]
    have main := lp_inv (f := fX10_undo_L1) (fun i (s : Int32 × Mem) => s.1 = nI i ∧ (∀ r, r ≠ 1 → s.2 r = N1 r) ∧ ∀ k, k < i → s.2 1 k = Sl N (n - 1) k) (fun r => ∃ M', r = some (nI (n - 1), M') ∧ (∀ r, r ≠ 1 → M' r = N1 r) ∧ ∀ k, k < 490 → M' 1 k = Sl N (n - 1) k) 490 (by omega) (fun i hi s hs => Or.inl (by
        obtain ⟨y, K⟩ := s
        obtain ⟨rfl, h1, h2⟩ := hs
        dsimp only at h1 h2
        refine ⟨(nI (i + 1), mset K 1 i (K 2 (490 * (n - 1) + i))), ⟨rfl, fun r hr => (ms_other _ _ _ hr).trans (h1 r hr), fun k hk => ?_⟩, fun k => ?_⟩
        · show mset K 1 _ _ 1 k = _
          rw [ms_at]
          by_cases e : k = i
          · subst e; rw [if_pos ⟨rfl, rfl⟩, h1 2 (by omega), no 2 (by omega)]; rfl
          · rw [if_neg (by omega)]; exact h2 k (by omega)
        · simp only [fX10_undo_L1]
          have ei : (490 : Int32) * K 0 3 + nI i = nI (490 * (n - 1) + i) := by
            rw [h1 0 (by omega), n3]
            show nI 490 * nI (n - 1) + nI i = _
            rw [nI_mul, nI_add]
          rw [if_neg (show ¬ (490 : Int32) ≤ nI i from nI_ge (b := 490) hi (by omega)), ei, grd_T (inb_nI (by omega) (by omega)), grd_T (inb_nI hi (by omega)), nI_clamp (by omega), nI_clamp (by omega)]
          simp only [bnd_e, nI_1])) (fun s hs => by
        obtain ⟨y, K⟩ := s
        obtain ⟨rfl, h1, h2⟩ := hs
        dsimp only at h1 h2
        refine ⟨some (nI (n - 1), K), ⟨K, rfl, h1, h2⟩, fun k => ?_⟩
        simp only [fX10_undo_L1]
        rw [if_pos (show (490 : Int32) ≤ nI 490 from nI_le (a := 490) (b := 490) (by omega) (by omega)), h1 0 (by omega), n3]) (0, N1) ⟨rfl, fun _ _ => rfl, fun k hk => absurd hk (by omega)⟩
    obtain ⟨K, b1, b2, b3⟩ := main
    rw [a1, cl_e, b1, a4]
    refine ⟨_, _, _, _, rfl, rfl, ⟨?_, rfl⟩, RS_cong b3 a3, Val_cong b3 r2, ?_, ?_⟩
    · rw [b2 0 (by omega), n0 0 (by omega), h00]
    · refine ⟨n - 1, (x + 7) % 8, by omega, by omega, a4, a5, by rw [b2 0 (by omega), n3], fun i hi => ?_⟩
      obtain ⟨d1, d2⟩ := c6 i (by omega)
      have es : Sl K i = Sl N i := by unfold Sl; rw [b2 2 (by omega), no 2 (by omega)]
      rw [show ((x + 7) % 8 + 8 - (n - 1) + i) % 8 = (x + 8 - n + i) % 8 by omega, es]
      exact ⟨RS_frame (fun o h1 h2 => a2 o (by omega) (by omega)) d1, d2⟩
    · exact Rest_frame (fun k h8 h11 => by rw [a2 0 (by omega) (by omega)]) (fun o h8 h11 => a2 o (by omega) (by omega)) (fun o ho => a2 o (by omega) (by omega)) (fun k hk => by rw [b2 0 (by omega), n0 k (by omega)]) (by rw [b2 3 (by omega), no 3 (by omega)]) (by rw [b2 5 (by omega), no 5 (by omega)]) (by rw [b2 6 (by omega), no 6 (by omega)]) hT
end O8
