/-! call: bestOffset (the reference, and both) -/
def mst (f : Nat → Nat) (i : Nat) : Int32 × Int32 := if i = 0 then (0, -1) else (nI (bst f i).1, nI (bst f i).2)
theorem m_best {N : Mem} (V : Val (N 1)) {n d j c : Nat} (hn : N 1 2 = nI n) (hn4 : n ≤ 4) (hd : d < 2) (hj : j < n) (hp : pos (N 1) d n = true) (hc : N 1 0 = nI c) (hc120 : c ≤ 120) (hc30 : 30 ≤ c) (k7 : Int32 × Mem → Option (Int32 × Mem)) : ∃ K, lp (fX10_bestOffset_L1 (nI j) (nI d) k7) FU (0, -1, 0, N) = k7 (nI (bst (bo (N 1) d n j c) c).1, K) ∧ (∀ r, r ≠ 0 → r ≠ 1 → K r = N r) ∧ (∀ k, k ≠ 19 → k ≠ 20 → K 0 k = N 0 k) ∧ ∀ k, k ≠ ix j 1 → K 1 k = N 1 k := by
  have hl := lj hn hn4 hj
  have hbo : ∀ o, bo (N 1) d n j c o ≤ 120 := fun o => Nat.le_trans (cn_le _ c) hc120
  have ec : (N 1 0).toInt = c := by rw [hc, nI_toInt (by omega)]
  have main := lp_inv (f := fX10_bestOffset_L1 (nI j) (nI d) k7) (fun i (s : Int32 × Int32 × Int32 × Mem) => s.1 = (mst (bo (N 1) d n j c) i).1 ∧ s.2.1 = (mst (bo (N 1) d n j c) i).2 ∧ s.2.2.1 = nI i ∧ (∀ r, r ≠ 0 → r ≠ 1 → s.2.2.2 r = N r) ∧ (∀ k, k ≠ 19 → k ≠ 20 → s.2.2.2 0 k = N 0 k) ∧ ∀ k, k ≠ ix j 1 → s.2.2.2 1 k = N 1 k) (fun r => ∃ K, r = k7 (nI (bst (bo (N 1) d n j c) c).1, K) ∧ (∀ r, r ≠ 0 → r ≠ 1 → K r = N r) ∧ (∀ k, k ≠ 19 → k ≠ 20 → K 0 k = N 0 k) ∧ ∀ k, k ≠ ix j 1 → K 1 k = N 1 k) c (by omega) (fun i hi s hs => Or.inl (by
      obtain ⟨x, y, z, K⟩ := s
      obtain ⟨h1, h2, h3, h4, h5, h6⟩ := hs
      dsimp only at h1 h2 h3 h4 h5 h6
      subst h1; subst h2; subst h3
      obtain ⟨K1, hK1⟩ : ∃ w, w = mset K 1 (ix j 1) (nI i) := ⟨_, rfl⟩
      have k1 : K1 1 = Ao (N 1) j (nI i) := by
        funext k
        rw [hK1, ms_same]
        unfold Ao
        by_cases e : k = ix j 1
        · subst e; rw [up_at, if_pos rfl, up_at, if_pos rfl]
        · rw [pk_un e, pk_un e]; exact h6 k e
      have ho : bt (nI i) 0 ((N 1 0).toInt - 1) := by unfold bt; rw [nI_toInt (by omega), ec]; omega
      have VA := Val_Ao V (show j < 4 by omega) hl ho
      obtain ⟨L, l1, l2⟩ := m_bands (N := K1) (by rw [k1]; exact VA) (n := n) (d := d) (c := c) (by rw [k1, Ao_k (by unfold ix; omega)]; exact hn) hn4 hd (by rw [k1, pos_Ao V j _ hn hn4 hd]; exact hp) (by rw [k1, Ao_k (by unfold ix; omega)]; exact hc) hc120
      have eb : bnds (K1 1) d n c = bo (N 1) d n j c i := by
        rw [k1]
        unfold bnds bo
        refine cn_cong c (fun t ht => ?_)
        exact frp_Ao V hn hn4 hd hj hp ho ⟨by rw [nI_toInt (by omega)]; omega, by rw [nI_toInt (by omega)]; omega⟩
      rw [eb] at l1
      have hb3 := hbo i
      have hb2 := (bst_le hbo i).1
      have nxt : (if (mst (bo (N 1) d n j c) i).2 < nI (bo (N 1) d n j c i) then (nI i, nI (bo (N 1) d n j c i)) else mst (bo (N 1) d n j c) i) = mst (bo (N 1) d n j c) (i + 1) := by
        unfold mst
        rw [if_neg (show ¬ i + 1 = 0 by omega)]
        by_cases e : i = 0
        · subst e
          rw [if_pos rfl, if_pos]
          · show _ = (nI (if bo (N 1) d n j c 0 ≤ 0 then (0, 0) else (0, bo (N 1) d n j c 0)).1, nI (if bo (N 1) d n j c 0 ≤ 0 then (0, 0) else (0, bo (N 1) d n j c 0)).2)
            by_cases q : bo (N 1) d n j c 0 ≤ 0
            · rw [if_pos q, show bo (N 1) d n j c 0 = 0 by omega]
            · rw [if_neg q]
          · show (-1 : Int32) < _
            rw [ti_lt, nI_toInt (by omega)]
            have : Int32.toInt (-1) = -1 := by decide
            omega
        · rw [if_neg e]
          have eb : bst (bo (N 1) d n j c) (i + 1) = if bo (N 1) d n j c i ≤ (bst (bo (N 1) d n j c) i).2 then bst (bo (N 1) d n j c) i else (i, bo (N 1) d n j c i) := rfl
          rw [eb]
          dsimp only
          by_cases q : bo (N 1) d n j c i ≤ (bst (bo (N 1) d n j c) i).2
          · rw [if_neg (nI_nlt q (by omega)), if_pos q]
          · rw [if_pos (nI_lt (by omega) (by omega)), if_neg q]
      refine ⟨((mst (bo (N 1) d n j c) (i + 1)).1, (mst (bo (N 1) d n j c) (i + 1)).2, nI (i + 1), L), ⟨rfl, rfl, rfl, fun r h0 h1 => ?_, fun k h0 h1 => ?_, fun k hk => ?_⟩, fun k => ?_⟩
      · show L r = N r
        rw [l2.1 r h0, hK1, ms_other _ _ _ h1]; exact h4 r h0 h1
      · show L 0 k = N 0 k
        rw [l2.2 k h0 h1, hK1, ms_other _ _ _ (by omega)]; exact h5 k h0 h1
      · show L 1 k = N 1 k
        rw [l2.1 1 (by omega), k1]; exact Ao_k hk
      · simp only [fX10_bestOffset_L1]
        unfold fX10_at
        rw [grd_T ib0, tc0, show K 1 0 = nI c by rw [h6 0 (by unfold ix; omega), hc], if_neg (nI_ge hi (by omega)), clp_e, show (6 : Int32) + 121 * nI j + 1 = nI (ix j 1) from at_ix j 1, grd_T (ib 490 (by unfold ix; omega) (by omega)), nI_clamp (by unfold ix; omega), bnd_e, ← hK1, l1, cl_e, jn_e]
        simp only [bnd_e, nI_1]
        rw [← nxt]
        by_cases q : (mst (bo (N 1) d n j c) i).2 < nI (bo (N 1) d n j c i)
        · rw [if_pos q, if_pos q]
        · rw [if_neg q, if_neg q])) (fun s hs => by
      obtain ⟨x, y, z, K⟩ := s
      obtain ⟨h1, h2, h3, h4, h5, h6⟩ := hs
      dsimp only at h1 h2 h3 h4 h5 h6
      subst h1; subst h2; subst h3
      refine ⟨k7 (nI (bst (bo (N 1) d n j c) c).1, K), ⟨K, rfl, h4, h5, h6⟩, fun k => ?_⟩
      simp only [fX10_bestOffset_L1]
      rw [grd_T ib0, tc0, show K 1 0 = nI c by rw [h6 0 (by unfold ix; omega), hc], if_pos (nI_le (Nat.le_refl _) (by omega))]
      unfold mst
      rw [if_neg (show ¬ c = 0 by omega)]) (0, -1, 0, N) ⟨rfl, rfl, rfl, fun _ _ _ => rfl, fun _ _ _ => rfl, fun _ _ => rfl⟩
  exact main
section O17
variable {Mx Mm : Mem}
theorem st_bestOffset (I : Inv Mx Mm) (p q : Int32) : ∃ rx Mx' vm Mm', fX9_bestOffset Mx p q = some (rx, Mx') ∧ fX10_bestOffset Mm p q = some (vm, Mm') ∧ Agr [0, 1, 4] rx vm Mm' ∧ Inv Mx' Mm' := by
  have I0 := I.th 0
  obtain ⟨N, hN⟩ : ∃ z, z = mset Mm 0 0 0 := ⟨_, rfl⟩
  rw [← hN] at I0
  obtain ⟨hR, hV, hH, hT⟩ := id I0
  have h00 : N 0 0 = 0 := by rw [hN, ms_at, if_pos ⟨rfl, rfl⟩]
  obtain ⟨n, hn4, hn⟩ := hV.ct
  obtain ⟨c, hc120, hc⟩ := hV.cn
  have hc30 : 30 ≤ c := by have := hV.1.1.1; rw [hc, nI_toInt (by omega)] at this; omega
  unfold fX9_bestOffset fX10_bestOffset
  rw [bnd_e, ← hN, m_ij, clp_e, b01_ite]
  by_cases hj : inJ (N 1) p = true
  · obtain ⟨j, rfl, hj4, hl⟩ := inJ_ex hV hj
    have hjn : j < n := by rw [hn] at hl; exact (nI_ltI (by omega) (by omega)).mp hl
    rw [if_pos hj, x_find hR hV hj4 hl, clpn_s, grd_T (jb hj4), need_T', clpm_r, f_isDirection, clp_e, f_in, clp_e, b01_ite]
    by_cases hp : (decide (0 ≤ q) && decide (q ≤ 1)) = true
    · obtain ⟨d, rfl, hd⟩ := plan_ex hp
      rw [if_pos hp, hp, need_T, clpm_r, x_possible hR hV hn hn4 hd, clp_e, m_possible hV hn hn4 hd, clp_e, b01_ite]
      by_cases hpos : pos (N 1) d n = true
      · obtain ⟨M', x1, x2⟩ := x_best hR hV hn hn4 hd hjn hpos hc hc120
        rw [hpos, need_T, clpm_r, x1, cl_e, if_pos rfl, m_of1 hj4, clp_e, jn_e]
        obtain ⟨K, k1, k2, k3, k4⟩ := m_best hV hn hn4 hd hjn hpos hc hc120 hc30 (fun a6 => clp (fX10_at a6.2 (nI j)) (fun x8 => grd (inb (x8 + 1) 490) (bnd (mset a6.2 1 (x8 + 1).toNatClampNeg (N 1 (ix j 1))) (fun M9 => some (a6.1, M9)))))
        rw [k1]
        dsimp only
        unfold fX10_at
        rw [clp_e, show (6 : Int32) + 121 * nI j + 1 = nI (ix j 1) from at_ix j 1, grd_T (ib 490 (by unfold ix; omega) (by omega)), nI_clamp (by unfold ix; omega), bnd_e]
        have e1 : mset K 1 (ix j 1) (N 1 (ix j 1)) 1 = N 1 := by
          funext k
          rw [ms_same]
          by_cases e : k = ix j 1
          · subst e; rw [up_at, if_pos rfl]
          · rw [pk_un e]; exact k4 k e
        refine ⟨_, _, _, _, rfl, rfl, ⟨by rw [ms_other _ _ _ (by omega), k3 0 (by omega) (by omega), h00], rfl⟩, ?_⟩
        refine (I0.num e1 ?_).scr (fun o ho => x2 o (by omega))
        exact MF.set1 ⟨fun k _ => k3 k (by omega) (by omega), k2 2 (by omega) (by omega), k2 3 (by omega) (by omega), k2 5 (by omega) (by omega), k2 6 (by omega) (by omega)⟩
      · rw [Bool.not_eq_true _ |>.mp hpos, need_5, clpm_l, if_neg (by decide), m_raises, cl_e]
        exact ⟨_, _, _, _, rfl, rfl, fin_x I0 2 rfl _ _ rfl⟩
    · rw [if_neg hp, Bool.not_eq_true _ |>.mp hp, need_2, clpm_l, m_raises, cl_e]
      exact ⟨_, _, _, _, rfl, rfl, fin_x I0 1 rfl _ _ rfl⟩
  · rw [if_neg hj, x_find_no hR (Bool.not_eq_true _ |>.mp hj), clpn_n, need_1', clpm_l, m_raises, cl_e]
    exact ⟨_, _, _, _, rfl, rfl, fin_x I0 0 rfl _ _ rfl⟩
end O17
