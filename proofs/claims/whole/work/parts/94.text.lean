/-! call: text : the reference reads items and words -/
section P94
variable {s : Nat → Int32} {l : Nat} {N : Mem} {p : Nat}
theorem m_comma2 (h : RP s l N p) {i : Nat} (hi : i < 5) : ∃ N', RK N N' ∧ N' 7 = N 7 ∧ ((∃ p', (if i = 0 then ((p, none) : Sg) else sgn s l 44 (p, none)) = (p', none) ∧ RP s l N' p' ∧ ∀ (k8 k12 : Mem → Option (Int32 × Mem)), (if nI i ≤ 0 then k12 N else cl (fX10_takes N 44) (fun x16 M17 => if x16 = 0 then k8 M17 else k12 M17)) = k12 N') ∨ ((if i = 0 then ((p, none) : Sg) else sgn s l 44 (p, none)) = (p, some p) ∧ RP s l N' p ∧ ∀ (k8 k12 : Mem → Option (Int32 × Mem)), (if nI i ≤ 0 then k12 N else cl (fX10_takes N 44) (fun x16 M17 => if x16 = 0 then k8 M17 else k12 M17)) = k8 N')) := by
  by_cases e : i = 0
  · subst e
    exact ⟨N, RK.rf N, rfl, Or.inl ⟨p, rfl, h, fun k8 k12 => if_pos (show nI 0 ≤ 0 by decide)⟩⟩
  · rw [if_neg e]
    by_cases z : (decide (p < l) && decide (s p = 44)) = true
    · have hlt : p < l := by rw [Bool.and_eq_true, decide_eq_true_iff] at z; exact z.1
      exact ⟨mset N 0 9 (nI (p + 1)), RK.pl N _, ms_other _ _ _ (by omega), Or.inl ⟨p + 1, by unfold sgn; rw [if_pos rfl, if_pos z], h.pl (by have := h.1; omega), fun k8 k12 => by rw [if_neg (nI_nle (by omega) (by omega)), m_takes h (by decide), if_pos z, cl_e, if_neg (by decide)]⟩⟩
    · exact ⟨N, RK.rf N, rfl, Or.inr ⟨by unfold sgn; rw [if_pos rfl, if_neg z], h, fun k8 k12 => by rw [if_neg (nI_nle (by omega) (by omega)), m_takes h (by decide), if_neg z, cl_e, if_pos rfl]⟩⟩
theorem many_e {o : Nat} (ho : o < 6) {β : Type} (F : Int32 → β) : (if nI o = 0 then F 5 else (if 3 ≤ nI o then (if 5 ≤ nI o then F 3 else F 1) else F 2)) = F (nI (nwn o)) := by
  rcases (show o = 0 ∨ o = 1 ∨ o = 2 ∨ o = 3 ∨ o = 4 ∨ o = 5 by omega) with rfl | rfl | rfl | rfl | rfl | rfl
  · rw [if_pos (by decide)]; rfl
  · rw [if_neg (by decide), if_neg (by decide)]; rfl
  · rw [if_neg (by decide), if_neg (by decide)]; rfl
  · rw [if_neg (by decide), if_pos (by decide), if_neg (by decide)]; rfl
  · rw [if_neg (by decide), if_pos (by decide), if_neg (by decide)]; rfl
  · rw [if_neg (by decide), if_pos (by decide), if_pos (by decide)]; rfl
theorem m_items (h : RP s l N p) {o : Nat} (ho : o < 6) : ∃ N', RK N N' ∧ ((∃ e, (sgn s l 59 (itl s l (p, none) (nwn o)).1).2 = some e ∧ RP s l N' e ∧ fX10_items N (nI o) = some (0, N')) ∨ ((sgn s l 59 (itl s l (p, none) (nwn o)).1).2 = none ∧ RP s l N' (sgn s l 59 (itl s l (p, none) (nwn o)).1).1 ∧ (∀ q, q < nwn o → N' 7 q = (itl s l (p, none) (nwn o)).2 q) ∧ fX10_items N (nI o) = some (1, N'))) := by
  obtain ⟨n1, n2, n3⟩ := nw_e ho
  unfold fX10_items
  simp only [jn_e]
  rw [many_e ho (fun a1 => lp (fX10_items_L1 a1 (fun a3 => cl (fX10_takes a3 59) (fun x5 M6 => grd (isb x5) (some (x5, M6)))) (fun a7 => some (0, a7))) FU (0, N))]
  refine lp_inv (f := fX10_items_L1 (nI (nwn o)) (fun a3 => cl (fX10_takes a3 59) (fun x5 M6 => grd (isb x5) (some (x5, M6)))) (fun a7 => some (0, a7))) (fun i (r : Int32 × Mem) => r.1 = nI i ∧ (itl s l (p, none) i).1.2 = none ∧ RP s l r.2 (itl s l (p, none) i).1.1 ∧ RK N r.2 ∧ ∀ q, q < i → r.2 7 q = (itl s l (p, none) i).2 q) (fun r => ∃ N', RK N N' ∧ ((∃ e, (sgn s l 59 (itl s l (p, none) (nwn o)).1).2 = some e ∧ RP s l N' e ∧ r = some (0, N')) ∨ ((sgn s l 59 (itl s l (p, none) (nwn o)).1).2 = none ∧ RP s l N' (sgn s l 59 (itl s l (p, none) (nwn o)).1).1 ∧ (∀ q, q < nwn o → N' 7 q = (itl s l (p, none) (nwn o)).2 q) ∧ r = some (1, N')))) (nwn o) (by omega) (fun i hi r hr => ?_) (fun r hr => ?_) (0, N) ⟨rfl, rfl, h, RK.rf N, fun q hq => absurd hq (by omega)⟩
  · obtain ⟨x, K⟩ := r
    obtain ⟨r1, r2, r3, r4, r5⟩ := hr
    dsimp only at r1 r2 r3 r4 r5
    subst r1
    have hσ : (itl s l (p, none) i).1 = ((itl s l (p, none) i).1.1, none) := Prod.ext rfl r2
    -- an error here is the error of all
    have bad : ∀ x, itc s l i (itl s l (p, none) i).1 = ((x, some x), 0) → (sgn s l 59 (itl s l (p, none) (nwn o)).1).2 = some x := fun x hx => by
      have e1 : (itl s l (p, none) (i + 1)).1 = (x, some x) := by
        show (itc s l i (itl s l (p, none) i).1).1 = _
        rw [hx]
      have e2 := itl_err (s := s) (l := l) (σ := (p, none)) (i := i + 1) (x := x) (by rw [e1]) (nwn o) (by omega)
      rw [e2, e1, sgn_err (x := x) rfl]
    obtain ⟨K1, c1, c2, c3⟩ := m_comma2 r3 (i := i) (by omega)
    rcases c3 with ⟨p', c3, c4, c5⟩ | ⟨c3, c4, c5⟩
    · obtain ⟨K2, d1, d2, d3, d4, d5⟩ := m_number c4 (i := i) (by omega)
      have ei : itc s l i (itl s l (p, none) i).1 = nmb s l (p', none) := by
        unfold itc
        rw [hσ, c3]
      by_cases z : (dst s l p' 4).1 = 0
      · have en : nmb s l (p', none) = ((p', some p'), 0) := by unfold nmb; rw [if_pos rfl, if_pos z]
        refine Or.inr ⟨some (0, K2), ⟨K2, (r4.tr c1).tr d2, Or.inl ⟨p', bad p' (ei.trans en), by rw [z] at d3; exact d3, rfl⟩⟩, fun k => ?_⟩
        simp only [fX10_items_L1]
        rw [if_neg (nI_ge hi (by omega)), jn_e]
        refine (c5 (fun a7 => some (0, a7)) (fun a11 => cl (fX10_number a11 (nI i)) (fun x13 M14 => if x13 = 0 then some (0, M14) else bnd (nI i + 1) (fun x15 => k (x15, M14))))).trans ?_
        rw [d1, cl_e, decide_eq_true z, if_pos (by decide)]
      · have en : nmb s l (p', none) = ((p' + (dst s l p' 4).1, none), (dst s l p' 4).2) := by unfold nmb; rw [if_pos rfl, if_neg z]
        have e1 : (itl s l (p, none) (i + 1)).1 = (p' + (dst s l p' 4).1, none) := by
          show (itc s l i (itl s l (p, none) i).1).1 = _
          rw [ei, en]
        refine Or.inl ⟨(nI (i + 1), K2), ⟨rfl, by rw [e1], by rw [e1]; exact d3, (r4.tr c1).tr d2, fun q hq => ?_⟩, fun k => ?_⟩
        · show K2 7 q = if q = i then (itc s l i (itl s l (p, none) i).1).2 else (itl s l (p, none) i).2 q
          by_cases y : q = i
          · subst y; rw [if_pos rfl, ei, en, d5 z]
          · rw [if_neg y, d4 q y, c2]; exact r5 q (by omega)
        · simp only [fX10_items_L1]
          rw [if_neg (nI_ge hi (by omega)), jn_e]
          refine (c5 (fun a7 => some (0, a7)) (fun a11 => cl (fX10_number a11 (nI i)) (fun x13 M14 => if x13 = 0 then some (0, M14) else bnd (nI i + 1) (fun x15 => k (x15, M14))))).trans ?_
          rw [d1, cl_e, decide_eq_false z, if_neg (by decide), bnd_e, nI_1]
    · have ei : itc s l i (itl s l (p, none) i).1 = (((itl s l (p, none) i).1.1, some (itl s l (p, none) i).1.1), 0) := by
        unfold itc
        rw [hσ, c3]
        unfold nmb
        rw [if_neg (fun z => by cases z)]
      refine Or.inr ⟨some (0, K1), ⟨K1, r4.tr c1, Or.inl ⟨_, bad _ ei, c4, rfl⟩⟩, fun k => ?_⟩
      simp only [fX10_items_L1]
      rw [if_neg (nI_ge hi (by omega)), jn_e]
      exact c5 (fun a7 => some (0, a7)) (fun a11 => cl (fX10_number a11 (nI i)) (fun x13 M14 => if x13 = 0 then some (0, M14) else bnd (nI i + 1) (fun x15 => k (x15, M14))))
  · obtain ⟨x, K⟩ := r
    obtain ⟨r1, r2, r3, r4, r5⟩ := hr
    dsimp only at r1 r2 r3 r4 r5
    subst r1
    have hσ : (itl s l (p, none) (nwn o)).1 = ((itl s l (p, none) (nwn o)).1.1, none) := Prod.ext rfl r2
    have st : ∀ k, fX10_items_L1 (nI (nwn o)) (fun a3 => cl (fX10_takes a3 59) (fun x5 M6 => grd (isb x5) (some (x5, M6)))) (fun a7 => some (0, a7)) k (nI (nwn o), K) = cl (fX10_takes K 59) (fun x5 M6 => grd (isb x5) (some (x5, M6))) := fun k => by
      simp only [fX10_items_L1]
      rw [if_pos (nI_le (Nat.le_refl _) (by omega))]
    by_cases z : (decide ((itl s l (p, none) (nwn o)).1.1 < l) && decide (s (itl s l (p, none) (nwn o)).1.1 = 59)) = true
    · have hlt : (itl s l (p, none) (nwn o)).1.1 < l := by rw [Bool.and_eq_true, decide_eq_true_iff] at z; exact z.1
      have es : sgn s l 59 (itl s l (p, none) (nwn o)).1 = ((itl s l (p, none) (nwn o)).1.1 + 1, none) := by unfold sgn; rw [if_pos r2, if_pos z]
      refine ⟨_, ⟨mset K 0 9 (nI ((itl s l (p, none) (nwn o)).1.1 + 1)), r4.tr (RK.pl K _), Or.inr ⟨by rw [es], by rw [es]; exact r3.pl (by have := h.1; omega), fun q hq => by rw [ms_other _ _ _ (by omega)]; exact r5 q hq, rfl⟩⟩, fun k => ?_⟩
      rw [st, m_takes r3 (by decide), if_pos z, cl_e, grd_T (by decide)]
    · have es : sgn s l 59 (itl s l (p, none) (nwn o)).1 = ((itl s l (p, none) (nwn o)).1.1, some (itl s l (p, none) (nwn o)).1.1) := by unfold sgn; rw [if_pos r2, if_neg z]
      refine ⟨_, ⟨K, r4, Or.inl ⟨_, by rw [es], r3, rfl⟩⟩, fun k => ?_⟩
      rw [st, m_takes r3 (by decide), if_neg z, cl_e, grd_T (by decide)]
/-! the word -/
def kof (o : Nat) : Nat := [0, 6, 13, 19, 23, 30, 35].getD o 0
theorem kof_ok : ∀ o : Fin 6, kof (o.val + 1) = kof o.val + sl (29 + o.val) + 1 ∧ 3 ≤ sl (29 + o.val) ∧ sl (29 + o.val) ≤ 6 ∧ kof (o.val + 1) ≤ 35 ∧ (TX 19).getD (kof o.val + sl (29 + o.val)) 0 = 58 := by decide +kernel
theorem kof_ch : ∀ o : Fin 6, ∀ t : Fin (sl (29 + o.val)), (TX 19).getD (kof o.val + t.val) 0 = (TX (29 + o.val)).getD t.val 0 ∧ (TX (29 + o.val)).getD t.val 0 ≠ 58 := by decide +kernel
theorem ch19 {k : Nat} (hk : k < 35) : fJ0_charAt 19 (nI k) = some ((TX 19).getD k 0) := (char_ok (i := 19) (by omega) (show k < sl 19 from hk)).1
theorem m_letters (h : RP s l N p) (k3 : Mem → Option (Int32 × Mem)) : lp (fX10_word_L4 k3) FU N = k3 (if wlen s l p = 0 then N else mset N 0 9 (nI (p + wlen s l p))) := by
  have hm : ∀ i, RP s l (if i = 0 then N else mset N 0 9 (nI (p + i))) (p + i) ∨ 60 < p + i := fun i => by
    by_cases e : i = 0
    · subst e; rw [if_pos rfl]; exact Or.inl h
    · rw [if_neg e]
      by_cases z : p + i ≤ 60
      · exact Or.inl (h.pl z)
      · exact Or.inr (by omega)
  have hw60 : wlen s l p ≤ 60 := rl_le _ 60
  have hb := wlen_b s l p
  have hp := h.2.2.2.2
  have hl := h.1
  refine lp_at (fun i => if i = 0 then N else mset N 0 9 (nI (p + i))) (wlen s l p) (by omega) rfl (fun i hi k => ?_) (fun k => ?_)
  · obtain ⟨q1, q2⟩ := wlen_in s l p hi
    have hK : RP s l (if i = 0 then N else mset N 0 9 (nI (p + i))) (p + i) := by
      rcases hm i with z | z
      · exact z
      · omega
    have hin := m_in hK (a := 97) (b := 122) (by decide)
    rw [m_here hK, clp_e] at hin
    simp only [fX10_word_L4]
    rw [m_here hK, clp_e, hin, clp_e, b01_ite, if_pos (by rw [decide_eq_true q1, Bool.true_and]; exact q2), hK.2.2.2.1, bnd_e, nI_1]
    refine congrArg k ?_
    rw [if_neg (show ¬ i + 1 = 0 by omega)]
    by_cases e : i = 0
    · rw [if_pos e, e]
    · rw [if_neg e]
      funext o q
      rw [ms_at, ms_at, ms_at]
      by_cases y : o = 0 ∧ q = 9
      · rw [if_pos y, if_pos y, Nat.add_assoc]
      · rw [if_neg y, if_neg y, if_neg y]
  · have hK : RP s l (if wlen s l p = 0 then N else mset N 0 9 (nI (p + wlen s l p))) (p + wlen s l p) := by
      rcases hm (wlen s l p) with z | z
      · exact z
      · omega
    have hin := m_in hK (a := 97) (b := 122) (by decide)
    rw [m_here hK, clp_e] at hin
    have hend : (decide (p + wlen s l p < l) && (decide ((97 : Int32) ≤ s (p + wlen s l p)) && decide (s (p + wlen s l p) ≤ 122))) = false := by
      by_cases z : wlen s l p < 60
      · exact rl_end (lcond s l p) 60 z
      · rw [decide_eq_false (show ¬ p + wlen s l p < l by omega)]; rfl
    simp only [fX10_word_L4]
    rw [m_here hK, clp_e, hin, clp_e, b01_ite, hend, if_neg (by decide)]
theorem m_w2 {K : Mem} (h : RP s l K (p + wlen s l p)) {o : Nat} (ho : o < 6) (k16 : Int32 × Int32 → Option (Int32 × Mem)) : ∃ t, t ≤ sl (29 + o) ∧ lp (fX10_word_L2 K k16) FU (nI (kof o), nI p) = k16 (nI (kof o + t), nI (p + t)) ∧ p + t ≤ p + wlen s l p ∧ ((t = sl (29 + o) ∧ t = wlen s l p) ↔ weq s p (wlen s l p) o = true) := by
  obtain ⟨k1, k2, k3, k4, k5⟩ := kof_ok ⟨o, ho⟩
  dsimp only at k1 k2 k3 k4 k5
  have kc : ∀ t, t < sl (29 + o) → (TX 19).getD (kof o + t) 0 = (TX (29 + o)).getD t 0 ∧ (TX (29 + o)).getD t 0 ≠ 58 := fun t ht => kof_ch ⟨o, ho⟩ ⟨t, ht⟩
  obtain ⟨hl, h8, h5, h9, hp⟩ := h
  obtain ⟨C, hC⟩ : ∃ C : Nat → Bool, C = fun t => decide (t < wlen s l p) && decide ((TX (29 + o)).getD t 0 = s (p + t)) := ⟨_, rfl⟩
  have t1 := rl_le C (sl (29 + o))
  have t2 := rl_all C (sl (29 + o))
  have t3 := rl_end C (sl (29 + o))
  generalize rl C (sl (29 + o)) = t at t1 t2 t3
  have t2' : ∀ i, i < t → i < wlen s l p ∧ (TX (29 + o)).getD i 0 = s (p + i) := fun i hi => by
    have := t2 i hi
    rw [hC, Bool.and_eq_true, decide_eq_true_iff, decide_eq_true_iff] at this
    exact this
  have tw : t ≤ wlen s l p := by
    by_cases z : t = 0
    · omega
    · have := (t2' (t - 1) (by omega)).1; omega
  refine ⟨t, t1, ?_, by omega, ?_⟩
  · refine lp_at (fun i => (nI (kof o + i), nI (p + i))) t (by omega) rfl (fun i hi k => ?_) (fun k => ?_)
    · obtain ⟨q1, q2⟩ := t2' i hi
      obtain ⟨c1, c2⟩ := kc i (by omega)
      have hlt := (wlen_in s l p q1).1
      simp only [fX10_word_L2]
      rw [ch19 (by omega), clp_e, if_neg (by rw [c1]; exact c2), h9, if_neg (nI_ge (by omega) (by omega)), grd_T (inb_nI (by omega) (by omega)), clp_e, nI_clamp (by omega), h5 _ hlt, c1, if_pos q2.symm, bnd_e, bnd_e, nI_1, nI_1]
      rfl
    · simp only [fX10_word_L2]
      rw [ch19 (by omega), clp_e]
      by_cases e : t = sl (29 + o)
      · rw [if_pos (by rw [e]; exact k5)]
      · obtain ⟨c1, c2⟩ := kc t (by omega)
        rw [if_neg (by rw [c1]; exact c2), h9]
        have t4 := t3 (by omega)
        rw [hC, Bool.and_eq_false_iff, decide_eq_false_iff_not, decide_eq_false_iff_not] at t4
        by_cases z : t < wlen s l p
        · have hlt := (wlen_in s l p z).1
          have t5 : ¬ (TX (29 + o)).getD t 0 = s (p + t) := by
            rcases t4 with t4 | t4
            · exact absurd z t4
            · exact t4
          rw [if_neg (nI_ge (by omega) (by omega)), grd_T (inb_nI (by omega) (by omega)), clp_e, nI_clamp (by omega), h5 _ hlt, c1, if_neg (fun y => t5 y.symm)]
        · rw [if_pos (nI_le (by omega) (by omega))]
  · unfold weq
    rw [Bool.and_eq_true, decide_eq_true_iff, al_T]
    constructor
    · rintro ⟨y1, y2⟩
      exact ⟨by omega, fun i hi => decide_eq_true (t2' i (by omega)).2⟩
    · rintro ⟨y1, y2⟩
      have : t = sl (29 + o) := by
        by_cases e : t = sl (29 + o)
        · exact e
        · have t4' := t3 (by omega)
          have y3 := of_decide_eq_true (y2 t (by omega))
          rw [hC] at t4'
          have t4 : (decide (t < wlen s l p) && decide ((TX (29 + o)).getD t 0 = s (p + t))) = false := t4'
          rw [decide_eq_true (show t < wlen s l p by omega), decide_eq_true y3] at t4
          cases t4
      exact ⟨this, by omega⟩
theorem m_w1 {o t : Nat} (ho : o < 6) (ht : t ≤ sl (29 + o)) (k21 : Int32 → Option (Int32 × Mem)) : lp (fX10_word_L1 k21) FU (nI (kof o + t)) = k21 (nI (kof o + sl (29 + o))) := by
  obtain ⟨k1, k2, k3, k4, k5⟩ := kof_ok ⟨o, ho⟩
  dsimp only at k1 k2 k3 k4 k5
  refine lp_at (fun i => nI (kof o + t + i)) (sl (29 + o) - t) (by omega) rfl (fun i hi k => ?_) (fun k => ?_)
  · obtain ⟨c1, c2⟩ := kof_ch ⟨o, ho⟩ ⟨t + i, by show t + i < sl (29 + o); omega⟩
    dsimp only at c1 c2
    simp only [fX10_word_L1]
    rw [ch19 (by omega), clp_e, show kof o + t + i = kof o + (t + i) by omega, c1, if_neg c2, bnd_e, nI_1, show kof o + (t + i) + 1 = kof o + t + (i + 1) by omega]
  · simp only [fX10_word_L1]
    rw [show kof o + t + (sl (29 + o) - t) = kof o + sl (29 + o) by omega, ch19 (by omega), clp_e, if_pos k5]
theorem m_word (h : RP s l N p) : ∃ N', RK N N' ∧ N' 7 = N 7 ∧ ((widx s p (wlen s l p) = none ∧ fX10_word N = some (-1, N') ∧ RP s l N' p) ∨ ∃ o, widx s p (wlen s l p) = some o ∧ (((sgn s l 58 (p + wlen s l p, none)).2 = none ∧ fX10_word N = some (nI o, N') ∧ RP s l N' (sgn s l 58 (p + wlen s l p, none)).1) ∨ (sgn s l 58 (p + wlen s l p, none) = (p + wlen s l p, some (p + wlen s l p)) ∧ fX10_word N = some (-1, N') ∧ RP s l N' (p + wlen s l p)))) := by
  have hp := h.2.2.2.2
  have hl := h.1
  have hb := wlen_b s l p
  unfold fX10_word
  rw [h.2.2.2.1, bnd_e, jn_e, m_letters h]
  obtain ⟨K, hK⟩ : ∃ K, K = (if wlen s l p = 0 then N else mset N 0 9 (nI (p + wlen s l p))) := ⟨_, rfl⟩
  rw [← hK]
  have rK : RK N K := by
    rw [hK]; split
    · exact RK.rf N
    · exact RK.pl N _
  have k7 : K 7 = N 7 := by
    rw [hK]; split
    · rfl
    · exact ms_other _ _ _ (by omega)
  have pK : RP s l K (p + wlen s l p) := by
    rw [hK]; split
    · rename_i z; rw [z]; exact h
    · exact h.pl (by omega)
  rw [jn_e, jn_e]
  have step : ∀ o, o < 6 → ∀ (k5 : Unit → Option (Int32 × Mem)) (k8 : Int32 → Option (Int32 × Mem)) (k : Int32 × Int32 → Option (Int32 × Mem)), fX10_word_L3 (nI p) K k5 k8 k (nI (kof o), nI o) = if weq s p (wlen s l p) o = true then k8 (nI o) else k (nI (kof (o + 1)), nI (o + 1)) := fun o ho k5 k8 k => by
    obtain ⟨k1, k2, k3, k4, k5'⟩ := kof_ok ⟨o, ho⟩
    dsimp only at k1 k2 k3 k4 k5'
    simp only [fX10_word_L3]
    rw [if_neg (show ¬ (6 : Int32) ≤ nI o from nI_ge (b := 6) ho (by omega)), jn_e]
    obtain ⟨t, u1, u2, u3, u4⟩ := m_w2 pK ho (fun a15 => clp (fJ0_charAt 19 a15.1) (fun x17 => jn (fun (a18 : Unit) => jn (fun (a20 : Int32) => bnd (a20 + 1) (fun x22 => bnd (nI o + 1) (fun x23 => k (x22, x23)))) (fun k21 => lp (fX10_word_L1 k21) FU a15.1)) (fun k19 => if x17 = 58 then (if a15.2 = K 0 9 then (if K 0 9 ≤ nI p then (k19 ()) else (k8 (nI o))) else (k19 ())) else (k19 ()))))
    refine Eq.trans u2 ?_
    dsimp only
    have hgo : jn (fun (a20 : Int32) => bnd (a20 + 1) (fun x22 => bnd (nI o + 1) (fun x23 => k (x22, x23)))) (fun k21 => lp (fX10_word_L1 k21) FU (nI (kof o + t))) = k (nI (kof (o + 1)), nI (o + 1)) := by
      rw [jn_e, m_w1 ho u1, bnd_e, bnd_e, nI_1, nI_1, k1]
    rw [ch19 (by omega), clp_e, jn_e, hgo, pK.2.2.2.1]
    by_cases e : t = sl (29 + o)
    · rw [if_pos (show (TX 19).getD (kof o + t) 0 = 58 by rw [e]; exact k5')]
      by_cases z : t = wlen s l p
      · rw [if_pos (show nI (p + t) = nI (p + wlen s l p) by rw [z]), if_neg (nI_ge (by omega) (by omega)), if_pos (u4.mp ⟨e, z⟩)]
      · rw [if_neg (fun y => z (by have := (nI_eq (by omega) (by omega)).mp y; omega)), if_neg (fun y => z (u4.mpr y).2)]
    · obtain ⟨c1, c2⟩ := kof_ch ⟨o, ho⟩ ⟨t, by show t < sl (29 + o); omega⟩
      dsimp only at c1 c2
      rw [if_neg (by rw [c1]; exact c2), if_neg (fun y => e (u4.mpr y).1)]
  have main := lp_srch (f := fX10_word_L3 (nI p) K (fun a4 => bnd (mset K 0 9 (nI p)) (fun M6 => some ((-1), M6))) (fun a7 => cl (fX10_takes K 58) (fun x9 M10 => jn (fun (a11 : Int32) => some (a11, M10)) (fun k12 => if x9 = 0 then (k12 (-1)) else (k12 a7))))) (s0 := ((0 : Int32), (0 : Int32))) (fun o => (nI (kof o), nI o)) (fun o => !weq s p (wlen s l p) o) (rt := some (-1, mset K 0 9 (nI p))) (rf := fun o => cl (fX10_takes K 58) (fun x9 M10 => jn (fun (a11 : Int32) => some (a11, M10)) (fun k12 => if x9 = 0 then (k12 (-1)) else (k12 (nI o))))) 6 (by omega) rfl
    (fun i hi ht k => by
      have ht' : weq s p (wlen s l p) i = false := by simpa using ht
      rw [step i hi, if_neg (by rw [ht']; decide)])
    (fun i hi ht k => by
      have ht' : weq s p (wlen s l p) i = true := by simpa using ht
      rw [step i hi, if_pos ht'])
    (fun k => by
      simp only [fX10_word_L3]
      rw [if_pos (show (6 : Int32) ≤ nI 6 from nI_le (a := 6) (b := 6) (by omega) (by omega)), bnd_e])
  rcases main with ⟨m1, m2⟩ | ⟨o, m1, m2, m3, m4⟩
  · exact ⟨mset K 0 9 (nI p), rK.tr (RK.pl K _), (ms_other _ _ _ (by omega)).trans k7, Or.inl ⟨widx_n (fun q hq => by have := al_T.mp m1 q hq; simpa using this), m2, pK.pl hp⟩⟩
  · have hw := widx_s (s := s) (p := p) (n := wlen s l p) m1 (by simpa using m2) (fun q hq => by have := m3 q hq; simpa using this)
    have jk : ∀ (x : Int32) (M10 : Mem), jn (fun (a11 : Int32) => some (a11, M10)) (fun k12 => if x = 0 then (k12 (-1)) else (k12 (nI o))) = (if x = 0 then some ((-1 : Int32), M10) else some (nI o, M10)) := fun x M10 => jn_e _ _
    by_cases z : (decide (p + wlen s l p < l) && decide (s (p + wlen s l p) = 58)) = true
    · have hlt : p + wlen s l p < l := by rw [Bool.and_eq_true, decide_eq_true_iff] at z; exact z.1
      have es : sgn s l 58 (p + wlen s l p, none) = (p + wlen s l p + 1, none) := by unfold sgn; rw [if_pos rfl, if_pos z]
      have e4 : cl (fX10_takes K 58) (fun x9 M10 => jn (fun (a11 : Int32) => some (a11, M10)) (fun k12 => if x9 = 0 then (k12 (-1)) else (k12 (nI o)))) = some (nI o, mset K 0 9 (nI (p + wlen s l p + 1))) := by
        rw [m_takes pK (by decide), if_pos z, cl_e, jk, if_neg (by decide)]
      have r1 : (sgn s l 58 (p + wlen s l p, none)).2 = none := by rw [es]
      have r2 : RP s l (mset K 0 9 (nI (p + wlen s l p + 1))) (sgn s l 58 (p + wlen s l p, none)).1 := by rw [es]; exact pK.pl (by omega)
      refine ⟨mset K 0 9 (nI (p + wlen s l p + 1)), rK.tr (RK.pl K _), ?_, Or.inr ⟨o, hw, Or.inl ⟨r1, m4.trans e4, r2⟩⟩⟩
      rw [ms_other _ _ _ (by omega)]; exact k7
    · have es : sgn s l 58 (p + wlen s l p, none) = (p + wlen s l p, some (p + wlen s l p)) := by unfold sgn; rw [if_pos rfl, if_neg z]
      have e4 : cl (fX10_takes K 58) (fun x9 M10 => jn (fun (a11 : Int32) => some (a11, M10)) (fun k12 => if x9 = 0 then (k12 (-1)) else (k12 (nI o)))) = some (-1, K) := by
        rw [m_takes pK (by decide), if_neg z, cl_e, jk, if_pos rfl]
      exact ⟨K, rK, k7, Or.inr ⟨o, hw, Or.inr ⟨es, m4.trans e4, pK⟩⟩⟩
end P94
