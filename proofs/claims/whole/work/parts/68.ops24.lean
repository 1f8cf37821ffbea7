/-! call: account, the whole -/
theorem sum4 {f : Nat → Int32} {n : Nat} (hn4 : n ≤ 4) (h : ∀ j, j < 4 → n ≤ j → f j = 0) : sI f n = f 0 + f 1 + f 2 + f 3 := by
  have e : sI f n = sI f 4 := by
    have main : ∀ d, n + d ≤ 4 → sI f (n + d) = sI f n := by
      intro d
      induction d with
      | zero => intro _; rfl
      | succ d ih =>
        intro hd
        show sI f (n + d) + f (n + d) = _
        rw [ih (by omega), h (n + d) (by omega) (by omega), Int32.add_zero]
    have := main (4 - n) (by omega)
    rw [show n + (4 - n) = 4 by omega] at this
    exact this.symm
  rw [e]
  show 0 + f 0 + f 1 + f 2 + f 3 = _
  rw [Int32.zero_add]
section O24
variable {Mx Mm : Mem}
theorem st_account (I : Inv Mx Mm) (p : Int32) : ∃ rx vm Mm', fX9_account Mx p = some rx ∧ fX10_account Mm p = some (vm, Mm') ∧ Agr [1] rx vm Mm' ∧ Inv Mx Mm' := by
  have I0 := I.th 0
  obtain ⟨N, hN⟩ : ∃ z, z = mset Mm 0 0 0 := ⟨_, rfl⟩
  rw [← hN] at I0
  obtain ⟨hR, hV, hH, hT⟩ := id I0
  have h00 : N 0 0 = 0 := by rw [hN, ms_at, if_pos ⟨rfl, rfl⟩]
  obtain ⟨n, hn4, hn⟩ := hV.ct
  have lt : ∀ j, j < n → nI j < N 1 2 := fun j hj => by rw [hn]; exact nI_lt hj (by omega)
  have jj : ∀ j, j < n → RJ Mx (1 + 2 + 10 * j) (N 1) j := fun j hj => hR.j (by omega)
  have vv : ∀ j, j < n → VJ (N 1) j := fun j hj => hV.2.1 j (by omega) (lt j hj)
  have fin : ∀ v, ∃ rx vm Mm', (some (.inr v) : Option (Nat ⊕ Int32)) = some rx ∧ some (v, N) = some (vm, Mm') ∧ Agr [1] rx vm Mm' ∧ Inv Mx Mm' := fun v => ⟨_, _, _, rfl, rfl, ⟨h00, rfl⟩, I0⟩
  unfold fX9_account fX10_account
  simp only [bnd_e, ← hN, jn_e]
  rw [f_isWithin, clp_e, f_in, clp_e, b01_ite]
  by_cases hp : (decide (0 ≤ p) && decide (p ≤ 14)) = true
  · rw [if_pos hp, hp, b01_T, need_T', clpx_r]
    obtain ⟨k, rfl, h1, h2⟩ := bt_nI (x := p) (hi := 14) (dec_ct hp)
    have hk : k = 0 ∨ k = 1 ∨ k = 2 ∨ k = 3 ∨ k = 4 ∨ k = 5 ∨ k = 6 ∨ k = 7 ∨ k = 8 ∨ k = 9 ∨ k = 10 ∨ k = 11 ∨ k = 12 ∨ k = 13 ∨ k = 14 := by omega
    rcases hk with rfl | rfl | rfl | rfl | rfl | rfl | rfl | rfl | rfl | rfl | rfl | rfl | rfl | rfl | rfl
    · simp only [if_pos (show nI 0 = 0 from rfl)]
      rw [grd_T ib2, tc2, hR.w3]; exact fin _
    · simp only [if_neg (show ¬ nI 1 = 0 by decide), if_pos (show nI 1 = 1 from rfl)]
      rw [show nI 1 = 1 from rfl, x_sumOf hR hn hn4 (f := am1 (N 1)) (fun j hj => x_am1 (jj j hj)), clp_e, m_acc1 hV hn hn4]; exact fin _
    · simp only [if_neg (show ¬ nI 2 = 0 by decide), if_neg (show ¬ nI 2 = 1 by decide), if_pos (show nI 2 = 2 from rfl)]
      rw [show nI 2 = 2 from rfl, x_sumOf hR hn hn4 (f := am2 (N 1)) (fun j hj => x_am2 (jj j hj) (vv j hj) (lt j hj)), clp_e, m_acc2 hV hn hn4]; exact fin _
    · simp only [if_neg (show ¬ nI 3 = 0 by decide), if_neg (show ¬ nI 3 = 1 by decide), if_neg (show ¬ nI 3 = 2 by decide), if_pos (show nI 3 = 3 from rfl)]
      rw [show nI 3 = 3 from rfl, x_sumOf hR hn hn4 (f := am3 (N 1)) (fun j hj => x_am3 (jj j hj) (vv j hj)), clp_e, m_acc3 hV hn hn4]; exact fin _
    · simp only [if_neg (show ¬ nI 4 = 0 by decide), if_neg (show ¬ nI 4 = 1 by decide), if_neg (show ¬ nI 4 = 2 by decide), if_neg (show ¬ nI 4 = 3 by decide), if_pos (show nI 4 = 4 from rfl)]
      rw [grd_T ib3, tc3, hR.w2]; exact fin _
    · simp only [if_neg (show ¬ nI 5 = 0 by decide), if_neg (show ¬ nI 5 = 1 by decide), if_neg (show ¬ nI 5 = 2 by decide), if_neg (show ¬ nI 5 = 3 by decide), if_neg (show ¬ nI 5 = 4 by decide), if_pos (show nI 5 = 5 from rfl)]
      rw [show nI 5 = 5 from rfl, x_sumOf hR hn hn4 (f := am5 (N 1)) (fun j hj => x_am5 (jj j hj) (vv j hj)), clp_e, m_acc5 hV hn hn4]; exact fin _
    · simp only [if_neg (show ¬ nI 6 = 0 by decide), if_neg (show ¬ nI 6 = 1 by decide), if_neg (show ¬ nI 6 = 2 by decide), if_neg (show ¬ nI 6 = 3 by decide), if_neg (show ¬ nI 6 = 4 by decide), if_neg (show ¬ nI 6 = 5 by decide), if_pos (show nI 6 = 6 from rfl)]
      have e := x_sumOf (w := 6) hR hn hn4 (f := fun j => Mx (1 + 2 + 10 * j) 5) (fun j _ => x_am6)
      rw [sum4 hn4 (fun j hj hl => (hR.2.2.2.2.2.2.2 j hj (by rw [hn]; exact nI_nlt hl (by omega))).1)] at e
      have e2 : Mx (1 + 2 + 10 * 0) 5 + Mx (1 + 2 + 10 * 1) 5 + Mx (1 + 2 + 10 * 2) 5 + Mx (1 + 2 + 10 * 3) 5 = N 1 4 := hR.2.2.2.2.2.1
      rw [e2] at e
      rw [show nI 6 = 6 from rfl, e, clp_e, grd_T ib4, tc4]; exact fin _
    · simp only [if_neg (show ¬ nI 7 = 0 by decide), if_neg (show ¬ nI 7 = 1 by decide), if_neg (show ¬ nI 7 = 2 by decide), if_neg (show ¬ nI 7 = 3 by decide), if_neg (show ¬ nI 7 = 4 by decide), if_neg (show ¬ nI 7 = 5 by decide), if_neg (show ¬ nI 7 = 6 by decide), if_pos (show nI 7 = 7 from rfl)]
      rw [show nI 7 = 7 from rfl, x_sumOf hR hn hn4 (f := am7 (N 1)) (fun j hj => x_am7 (jj j hj) (vv j hj)), clp_e, m_acc7 hV hn hn4]; exact fin _
    · simp only [if_neg (show ¬ nI 8 = 0 by decide), if_neg (show ¬ nI 8 = 1 by decide), if_neg (show ¬ nI 8 = 2 by decide), if_neg (show ¬ nI 8 = 3 by decide), if_neg (show ¬ nI 8 = 4 by decide), if_neg (show ¬ nI 8 = 5 by decide), if_neg (show ¬ nI 8 = 6 by decide), if_neg (show ¬ nI 8 = 7 by decide), if_pos (show nI 8 = 8 from rfl)]
      have e := x_sumOf (w := 8) hR hn hn4 (f := fun j => Mx (1 + 2 + 10 * j) 6) (fun j _ => x_am8)
      rw [sum4 hn4 (fun j hj hl => (hR.2.2.2.2.2.2.2 j hj (by rw [hn]; exact nI_nlt hl (by omega))).2)] at e
      have e2 : Mx (1 + 2 + 10 * 0) 6 + Mx (1 + 2 + 10 * 1) 6 + Mx (1 + 2 + 10 * 2) 6 + Mx (1 + 2 + 10 * 3) 6 = N 1 5 := hR.2.2.2.2.2.2.1
      rw [e2] at e
      rw [show nI 8 = 8 from rfl, e, clp_e, grd_T ib5, tc5]; exact fin _
    · simp only [if_neg (show ¬ nI 9 = 0 by decide), if_neg (show ¬ nI 9 = 1 by decide), if_neg (show ¬ nI 9 = 2 by decide), if_neg (show ¬ nI 9 = 3 by decide), if_neg (show ¬ nI 9 = 4 by decide), if_neg (show ¬ nI 9 = 5 by decide), if_neg (show ¬ nI 9 = 6 by decide), if_neg (show ¬ nI 9 = 7 by decide), if_neg (show ¬ nI 9 = 8 by decide), if_pos (show nI 9 = 9 from rfl)]
      rw [show nI 9 = 9 from rfl, x_sumOf hR hn hn4 (f := am9 (N 1)) (fun j hj => x_am9 (jj j hj) (vv j hj) (lt j hj)), clp_e, m_acc9 hV hn hn4]; exact fin _
    · simp only [if_neg (show ¬ nI 10 = 0 by decide), if_neg (show ¬ nI 10 = 1 by decide), if_neg (show ¬ nI 10 = 2 by decide), if_neg (show ¬ nI 10 = 3 by decide), if_neg (show ¬ nI 10 = 4 by decide), if_neg (show ¬ nI 10 = 5 by decide), if_neg (show ¬ nI 10 = 6 by decide), if_neg (show ¬ nI 10 = 7 by decide), if_neg (show ¬ nI 10 = 8 by decide), if_neg (show ¬ nI 10 = 9 by decide), if_pos (show nI 10 = 10 from rfl)]
      rw [show nI 10 = 10 from rfl, x_sumOf hR hn hn4 (f := am10 (N 1)) (fun j hj => x_am10 (jj j hj) (vv j hj)), clp_e, m_acc10 hV hn hn4]; exact fin _
    · simp only [if_neg (show ¬ nI 11 = 0 by decide), if_neg (show ¬ nI 11 = 1 by decide), if_neg (show ¬ nI 11 = 2 by decide), if_neg (show ¬ nI 11 = 3 by decide), if_neg (show ¬ nI 11 = 4 by decide), if_neg (show ¬ nI 11 = 5 by decide), if_neg (show ¬ nI 11 = 6 by decide), if_neg (show ¬ nI 11 = 7 by decide), if_neg (show ¬ nI 11 = 8 by decide), if_neg (show ¬ nI 11 = 9 by decide), if_neg (show ¬ nI 11 = 10 by decide), if_pos (show nI 11 = 11 from rfl)]
      rw [grd_T ib0, tc0, hR.w0]; exact fin _
    · simp only [if_neg (show ¬ nI 12 = 0 by decide), if_neg (show ¬ nI 12 = 1 by decide), if_neg (show ¬ nI 12 = 2 by decide), if_neg (show ¬ nI 12 = 3 by decide), if_neg (show ¬ nI 12 = 4 by decide), if_neg (show ¬ nI 12 = 5 by decide), if_neg (show ¬ nI 12 = 6 by decide), if_neg (show ¬ nI 12 = 7 by decide), if_neg (show ¬ nI 12 = 8 by decide), if_neg (show ¬ nI 12 = 9 by decide), if_neg (show ¬ nI 12 = 10 by decide), if_neg (show ¬ nI 12 = 11 by decide), if_pos (show nI 12 = 12 from rfl)]
      rw [grd_T ib1, tc1, hR.w1]; exact fin _
    · simp only [if_neg (show ¬ nI 13 = 0 by decide), if_neg (show ¬ nI 13 = 1 by decide), if_neg (show ¬ nI 13 = 2 by decide), if_neg (show ¬ nI 13 = 3 by decide), if_neg (show ¬ nI 13 = 4 by decide), if_neg (show ¬ nI 13 = 5 by decide), if_neg (show ¬ nI 13 = 6 by decide), if_neg (show ¬ nI 13 = 7 by decide), if_neg (show ¬ nI 13 = 8 by decide), if_neg (show ¬ nI 13 = 9 by decide), if_neg (show ¬ nI 13 = 10 by decide), if_neg (show ¬ nI 13 = 11 by decide), if_neg (show ¬ nI 13 = 12 by decide), if_pos (show nI 13 = 13 from rfl)]
      obtain ⟨q, x, _, _, e1, _, e2, _⟩ := hH
      rw [e1, e2]; exact fin _
    · simp only [if_neg (show ¬ nI 14 = 0 by decide), if_neg (show ¬ nI 14 = 1 by decide), if_neg (show ¬ nI 14 = 2 by decide), if_neg (show ¬ nI 14 = 3 by decide), if_neg (show ¬ nI 14 = 4 by decide), if_neg (show ¬ nI 14 = 5 by decide), if_neg (show ¬ nI 14 = 6 by decide), if_neg (show ¬ nI 14 = 7 by decide), if_neg (show ¬ nI 14 = 8 by decide), if_neg (show ¬ nI 14 = 9 by decide), if_neg (show ¬ nI 14 = 10 by decide), if_neg (show ¬ nI 14 = 11 by decide), if_neg (show ¬ nI 14 = 12 by decide), if_neg (show ¬ nI 14 = 13 by decide), if_pos (show nI 14 = 14 from rfl)]
      obtain ⟨l, _, e1, e2, _⟩ := hT.2.1
      rw [e1, e2]; exact fin _
  · rw [if_neg hp, Bool.not_eq_true _ |>.mp hp, b01_F, need_2', clpx_l, m_raises, cl_e]
    exact ⟨_, _, _, rfl, rfl, fin_x I0 0 rfl _ _ rfl⟩
end O24
