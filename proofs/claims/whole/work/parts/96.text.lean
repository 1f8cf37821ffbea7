/-! call: text : the reference's loop, and the call -/
/-- the class carries commands out one by one -/
def Tr (k11 : Mem → Option ((Nat ⊕ Int32) × Mem)) (k15 : Int32 × Mem → Option ((Nat ⊕ Int32) × Mem)) (M9 : Mem) : Nat → Mem → Prop
  | 0, M => M = M9
  | k + 1, M => ∃ M0, Tr k11 k15 M9 k M0 ∧ ∀ c, fX9_text_L1 k11 k15 c (nI k, M0) = c (nI (k + 1), M)
theorem Tr.go {k11 : Mem → Option ((Nat ⊕ Int32) × Mem)} {k15 : Int32 × Mem → Option ((Nat ⊕ Int32) × Mem)} {M9 : Mem} : ∀ (k : Nat) (M : Mem), Tr k11 k15 M9 k M → ∀ d, lp (fX9_text_L1 k11 k15) (d + k) (0, M9) = lp (fX9_text_L1 k11 k15) d (nI k, M)
  | 0, M, h, d => by
    have e : M = M9 := h
    rw [e]; rfl
  | k + 1, M, ⟨M0, h1, h2⟩, d => by
    rw [show d + (k + 1) = (d + 1) + k by omega, Tr.go k M0 h1 (d + 1)]
    show fX9_text_L1 k11 k15 (lp (fX9_text_L1 k11 k15) d) (nI k, M0) = _
    rw [h2]
theorem Tr.fin {k11 : Mem → Option ((Nat ⊕ Int32) × Mem)} {k15 : Int32 × Mem → Option ((Nat ⊕ Int32) × Mem)} {M9 M : Mem} {k : Nat} (h : Tr k11 k15 M9 k M) (hk : k ≤ 10) {r : Option ((Nat ⊕ Int32) × Mem)} (hr : ∀ c, fX9_text_L1 k11 k15 c (nI k, M) = r) : lp (fX9_text_L1 k11 k15) FU (0, M9) = r := by
  have key : ∀ F, 10 < F → lp (fX9_text_L1 k11 k15) F (0, M9) = r := fun F hF => by
    rw [show F = (F - k - 1 + 1) + k by omega, Tr.go k M h]
    exact hr _
  exact key FU (Nat.lt_of_lt_of_le (show 10 < 11 by omega) (Nat.le_of_ble_eq_true rfl))
/-- what stays in the reference while a text is carried out -/
def TF (N0 N : Mem) : Prop := (∀ k, k = 0 ∨ k = 3 ∨ k = 5 ∨ k = 8 ∨ k = 10 ∨ k = 13 → N 0 k = N0 0 k) ∧ N 2 = N0 2 ∧ N 3 = N0 3 ∧ N 4 = N0 4 ∧ N 5 = N0 5 ∧ N 6 = N0 6
theorem TF.rf (N : Mem) : TF N N := ⟨fun _ _ => rfl, rfl, rfl, rfl, rfl, rfl⟩
theorem TF.rk {N0 N K : Mem} (h : TF N0 N) (r : RK N K) : TF N0 K := ⟨fun k hk => (r.2 k (by omega)).trans (h.1 k hk), (r.1 2 (by omega) (by omega)).trans h.2.1, (r.1 3 (by omega) (by omega)).trans h.2.2.1, (r.1 4 (by omega) (by omega)).trans h.2.2.2.1, (r.1 5 (by omega) (by omega)).trans h.2.2.2.2.1, (r.1 6 (by omega) (by omega)).trans h.2.2.2.2.2⟩
theorem TF.mfw {N0 N K : Mem} (h : TF N0 N) (r : MFw N K) : TF N0 K := ⟨fun k hk => by
  by_cases e : k = 0
  · subst e; exact r.2.2.2.2.2.2.trans (h.1 0 hk)
  · exact (r.1 k (by omega)).trans (h.1 k hk), r.2.1.trans h.2.1, r.2.2.1.trans h.2.2.1, r.2.2.2.2.2.1.trans h.2.2.2.1, r.2.2.2.1.trans h.2.2.2.2.1, r.2.2.2.2.1.trans h.2.2.2.2.2⟩
theorem RP.mfw {s : Nat → Int32} {l p : Nat} {N K : Mem} (h : RP s l N p) (r : MFw N K) : RP s l K p := ⟨h.1, (r.1 8 (by omega)).trans h.2.1, fun k hk => (congrFun r.2.2.2.1 k).trans (h.2.2.1 k hk), (r.1 9 (by omega)).trans h.2.2.2.1, h.2.2.2.2⟩
section P96
variable {s : Nat → Int32} {l m : Nat} {pos ws : Nat → Nat} {nu : Nat → Nat → Int32}
/-- so far nothing failed -/
def StA (k11 : Mem → Option ((Nat ⊕ Int32) × Mem)) (k15 : Int32 × Mem → Option ((Nat ⊕ Int32) × Mem)) (N0 M9 : Mem) (k : Nat) (wrong : Int32) (N : Mem) : Prop := wrong = -1 ∧ Val (N 1) ∧ N 0 11 = N0 0 11 ∧ ∃ M, Tr k11 k15 M9 k M ∧ RS M 1 (N 1) ∧ XF M9 M
def StB (k11 : Mem → Option ((Nat ⊕ Int32) × Mem)) (k15 : Int32 × Mem → Option ((Nat ⊕ Int32) × Mem)) (M9 : Mem) (pos : Nat → Nat) (k : Nat) (wrong : Int32) (N : Mem) : Prop := ∃ f, f < k ∧ wrong = nI (pos f) ∧ bt (N 0 11) 0 8 ∧ ∃ M0 Mf ff, Tr k11 k15 M9 f M0 ∧ XF M9 M0 ∧ fX9_commandFault M0 (nI f) = some (ff, Mf) ∧ ff ≠ 0 ∧ (∀ o, o ≠ 0 → Mf o = M0 o) ∧ (∀ k, k ≠ 9 → Mf 0 k = M0 0 k) ∧ Mf 0 9 = N 0 11
theorem m_loop {N0 M9 : Mem} (k11 : Mem → Option ((Nat ⊕ Int32) × Mem)) (k15 : Int32 × Mem → Option ((Nat ⊕ Int32) × Mem)) (hC : Chn s l m pos ws nu) (hm : m ≤ 10) (h0 : RP s l N0 0) (V : Val (N0 1)) (hR : RS M9 1 (N0 1)) (h9 : M9 0 9 = N0 0 11) (hb : bt (N0 0 11) 0 8) (hL : Lst M9 m pos ws nu) (hn : M9 472 1 = nI m) : ∃ (wrong : Int32) (N : Mem), RP s l N (pos m) ∧ TF N0 N ∧ (StA k11 k15 N0 M9 m wrong N ∨ StB k11 k15 M9 pos m wrong N) ∧ ∀ (q6 : Int32 × Int32 × Mem → Option (Int32 × Mem)) (q15 : Mem → Option (Int32 × Mem)) (r : Option (Int32 × Mem)), (∀ k, fX10_text_L1 q6 q15 k (nI m, wrong, b01 (decide (m = 0) || decide (pos m < l)), N) = r) → lp (fX10_text_L1 q6 q15) FU (0, (-1), 1, N0) = r := by
  have step : ∀ i, i < m → ∀ t : Int32 × Int32 × Int32 × Mem, (fun i (t : Int32 × Int32 × Int32 × Mem) => t.1 = nI i ∧ t.2.2.1 = b01 (decide (i = 0) || decide (pos i < l)) ∧ RP s l t.2.2.2 (pos i) ∧ TF N0 t.2.2.2 ∧ (StA k11 k15 N0 M9 i t.2.1 t.2.2.2 ∨ StB k11 k15 M9 pos i t.2.1 t.2.2.2)) i t → ∃ t', (fun i (t : Int32 × Int32 × Int32 × Mem) => t.1 = nI i ∧ t.2.2.1 = b01 (decide (i = 0) || decide (pos i < l)) ∧ RP s l t.2.2.2 (pos i) ∧ TF N0 t.2.2.2 ∧ (StA k11 k15 N0 M9 i t.2.1 t.2.2.2 ∨ StB k11 k15 M9 pos i t.2.1 t.2.2.2)) (i + 1) t' ∧ ∀ (g : (Int32 × Int32 × Mem → Option (Int32 × Mem)) × (Mem → Option (Int32 × Mem))) k, fX10_text_L1 g.1 g.2 k t = k t' := fun i hi t ht => by
    obtain ⟨many, wrong, goes, N⟩ := t
    obtain ⟨t1, t2, t3, t4, t5⟩ := ht
    dsimp only at t1 t2 t3 t4 t5
    subst t1
    obtain ⟨c1, c2, c3⟩ := hC.2 i hi
    obtain ⟨o6, _⟩ := widx_o c2
    have hgo : goes = b01 true := by
      rw [t2]
      rcases c1 with c1 | c1
      · rw [decide_eq_true c1]; rfl
      · rw [decide_eq_true c1, Bool.or_true]
    -- the word and its items are there
    obtain ⟨N1, w1, w2, w3⟩ := m_word t3
    have hσ1 : (sgn s l 58 (pos i + wlen s l (pos i), none)).2 = none ∧ sgn s l 58 (pos i + wlen s l (pos i), none) = ((sgn s l 58 (pos i + wlen s l (pos i), none)).1, none) := by
      have e1 : (sgn s l 58 (pos i + wlen s l (pos i), none)).2 = none := by
        cases e : (sgn s l 58 (pos i + wlen s l (pos i), none)).2 with
        | none => rfl
        | some x =>
          have h1 : sgn s l 59 (itl s l (sgn s l 58 (pos i + wlen s l (pos i), none)) (nwn (ws i))).1 = (pos (i + 1), none) := congrArg Prod.fst c3
          have := itl_err (s := s) (l := l) (σ := sgn s l 58 (pos i + wlen s l (pos i), none)) (i := 0) (x := x) e (nwn (ws i)) (by omega)
          rw [this] at h1
          have h2 : sgn s l 59 (sgn s l 58 (pos i + wlen s l (pos i), none)) = sgn s l 58 (pos i + wlen s l (pos i), none) := sgn_err e
          have h3 := h2.symm.trans h1
          rw [h3] at e; cases e
      exact ⟨e1, Prod.ext rfl e1⟩
    have wd : fX10_word N = some (nI (ws i), N1) ∧ RP s l N1 (sgn s l 58 (pos i + wlen s l (pos i), none)).1 := by
      rcases w3 with ⟨w3, _⟩ | ⟨o, w3, w4⟩
      · rw [c2] at w3; cases w3
      · rw [c2] at w3; cases w3
        rcases w4 with ⟨_, w5, w6⟩ | ⟨w5, _⟩
        · exact ⟨w5, w6⟩
        · rw [w5] at hσ1; cases hσ1.1
    obtain ⟨N2, i1, i2⟩ := m_items wd.2 o6
    have c3' : (sgn s l 59 (itl s l ((sgn s l 58 (pos i + wlen s l (pos i), none)).1, none) (nwn (ws i))).1, (itl s l ((sgn s l 58 (pos i + wlen s l (pos i), none)).1, none) (nwn (ws i))).2) = ((pos (i + 1), none), nu i) := by
      rw [← hσ1.2]; exact c3
    have it : fX10_items N1 (nI (ws i)) = some (1, N2) ∧ RP s l N2 (pos (i + 1)) ∧ ∀ q, q < nwn (ws i) → N2 7 q = nu i q := by
      have e1 := congrArg Prod.fst c3'
      have e2 := congrArg Prod.snd c3'
      dsimp only at e1 e2
      rcases i2 with ⟨e, i2, _⟩ | ⟨i2, i3, i4, i5⟩
      · rw [e1] at i2; cases i2
      · rw [e1] at i3
        rw [e2] at i4
        exact ⟨i5, i3, i4⟩
    obtain ⟨it1, it2, it3⟩ := it
    have rk : RK N N2 := w1.tr i1
    have tf2 : TF N0 N2 := t4.rk rk
    have e11 : N2 0 11 = N 0 11 := rk.2 11 (by omega)
    have e21 : N2 1 = N 1 := rk.1 1 (by omega) (by omega)
    have hgn : ∀ (K : Mem) (k' : Int32 → Option (Int32 × Mem)), RP s l K (pos (i + 1)) → (if K 0 8 ≤ K 0 9 then k' 0 else k' 1) = k' (b01 (decide (i + 1 = 0) || decide (pos (i + 1) < l))) := fun K k' hK => by
      have hl60 := hK.1
      have hp60 := hK.2.2.2.2
      rw [hK.2.1, hK.2.2.2.1, decide_eq_false (show ¬ i + 1 = 0 by omega), Bool.false_or]
      by_cases z : pos (i + 1) < l
      · rw [if_neg (nI_ge z (by omega)), decide_eq_true z]; rfl
      · rw [if_pos (nI_le (by omega) (by omega)), decide_eq_false z]; rfl
    have head : ∀ (g : (Int32 × Int32 × Mem → Option (Int32 × Mem)) × (Mem → Option (Int32 × Mem))) k, fX10_text_L1 g.1 g.2 k (nI i, wrong, goes, N) = (if 0 ≤ wrong then (bnd (nI i + 1) (fun x30 => jn (fun (a31 : Int32) => k (x30, wrong, a31, N2)) (fun k32 => if N2 0 8 ≤ N2 0 9 then (k32 0) else (k32 1)))) else (cl (mfw (ws i) (nu i) N2) (fun x33 M34 => if x33 ≤ 0 then (bnd (nI i + 1) (fun x30 => jn (fun (a31 : Int32) => k (x30, wrong, a31, M34)) (fun k32 => if M34 0 8 ≤ M34 0 9 then (k32 0) else (k32 1)))) else (bnd (nI i + 1) (fun x30 => jn (fun (a31 : Int32) => k (x30, nI (pos i), a31, M34)) (fun k32 => if M34 0 8 ≤ M34 0 9 then (k32 0) else (k32 1))))))) := fun g k => by
      simp only [fX10_text_L1]
      rw [hgo, if_neg (show ¬ b01 true = 0 by decide), t3.2.2.2.1, bnd_e, wd.1, cl_e, if_neg (nI_pos (by omega)), it1, cl_e, if_neg (by decide), jn_e, m_does o6 it3]
    rcases t5 with ⟨a1, a2, a3, M, a4, a5, a6⟩ | ⟨f, b1, b2, b3, M0, Mf, ff, b4⟩
    · -- nothing failed so far
      subst a1
      obtain ⟨l1, l2, l3⟩ := hL i hi
      have m5 : M 475 i = nI (ws i) := by rw [a6 475 (by omega)]; exact l2
      have m6 : ∀ q, q < nwn (ws i) → M 476 (5 * i + q) = nu i q := fun q hq => by rw [a6 476 (by omega)]; exact l3 q hq
      have m1' : M 472 1 = nI m := by rw [a6 472 (by omega)]; exact hn
      have hfl : fX9_commandFault M (nI i) = flt (ws i) (nu i) M := x_fault (by omega) o6 m5 m6
      have hM9 : M 0 9 = N2 0 11 := by rw [a6 0 (by omega), h9, e11, a3]
      obtain ⟨xs, hcmd⟩ := cmd_all (N := N2) (by rw [e21]; exact a2) (ws i) (nu i)
      rcases hcmd with ⟨fc, c, e, N', g1, g2, g3, g4, g5, g6, g7, g8⟩ | ⟨v, N', g1, g2, g3, g4, g5, g6⟩
      · obtain ⟨Mf, y1, y2, y3, y4⟩ := g8 M (by rw [e21]; exact a5) hM9
        refine ⟨(nI (i + 1), nI (pos i), b01 (decide (i + 1 = 0) || decide (pos (i + 1) < l)), N'), ⟨rfl, rfl, it2.mfw g6, tf2.mfw g6, Or.inr ⟨i, by omega, rfl, g7 (by rw [e11, a3]; exact hb), M, Mf, fc, a4, a6, hfl.trans y1, g1, y2, y3, y4⟩⟩, fun g k => ?_⟩
        rw [head, if_neg (by decide), g5, cl_e, if_neg (nI_nle (by omega) (by omega)), bnd_e, nI_1, jn_e, hgn N' (fun a31 => k (nI (i + 1), nI (pos i), a31, N')) (it2.mfw g6)]
      · obtain ⟨y1, M', y2, y3, y4⟩ := g6 M (by rw [e21]; exact a5)
        have hcar := x_carry (by omega) o6 m5 m6 y2
        refine ⟨(nI (i + 1), -1, b01 (decide (i + 1 = 0) || decide (pos (i + 1) < l)), N'), ⟨rfl, rfl, it2.mfw g3, tf2.mfw g3, Or.inl ⟨rfl, g5, g4.trans (e11.trans a3), M', ⟨M, a4, fun c => ?_⟩, y4, fun o ho => (y3 o ho).trans (a6 o ho)⟩⟩, fun g k => ?_⟩
        · simp only [fX9_text_L1]
          rw [m1', if_neg (nI_ge hi (by omega)), hfl, y1, cl_e, if_pos rfl, hcar, clx_r, bnd_e, nI_1]
        · rw [head, if_neg (by decide), g1, cl_e, if_pos (by decide), bnd_e, nI_1, jn_e, hgn N' (fun a31 => k (nI (i + 1), -1, a31, N')) (it2.mfw g3)]
    · -- one failed already
      have hp60 : pos f ≤ 60 := by
        have := (hC.pos f (by omega))
        by_cases z : f = 0
        · rw [z, hC.1]; omega
        · have := this.2 (by omega); have := h0.1; omega
      have hw : (0 : Int32) ≤ wrong := by rw [b2]; exact nI_pos' (by omega)
      refine ⟨(nI (i + 1), wrong, b01 (decide (i + 1 = 0) || decide (pos (i + 1) < l)), N2), ⟨rfl, rfl, it2, tf2, Or.inr ⟨f, by omega, b2, by show bt (N2 0 11) 0 8; rw [e11]; exact b3, M0, Mf, ff, b4.1, b4.2.1, b4.2.2.1, b4.2.2.2.1, b4.2.2.2.2.1, b4.2.2.2.2.2.1, b4.2.2.2.2.2.2.trans e11.symm⟩⟩, fun g k => ?_⟩
      rw [head, if_pos hw, bnd_e, nI_1, jn_e, hgn N2 (fun a31 => k (nI (i + 1), wrong, a31, N2)) it2]
  have key := lp_traj (f := fun (g : (Int32 × Int32 × Mem → Option (Int32 × Mem)) × (Mem → Option (Int32 × Mem))) => fX10_text_L1 g.1 g.2) (fun i (t : Int32 × Int32 × Int32 × Mem) => t.1 = nI i ∧ t.2.2.1 = b01 (decide (i = 0) || decide (pos i < l)) ∧ RP s l t.2.2.2 (pos i) ∧ TF N0 t.2.2.2 ∧ (StA k11 k15 N0 M9 i t.2.1 t.2.2.2 ∨ StB k11 k15 M9 pos i t.2.1 t.2.2.2)) m (by omega) step (0, (-1), 1, N0) ⟨rfl, rfl, by rw [hC.1]; exact h0, TF.rf N0, Or.inl ⟨rfl, V, rfl, M9, rfl, hR, XF.rf M9⟩⟩
  obtain ⟨⟨many, wrong, goes, N⟩, ⟨t1, t2, t3, t4, t5⟩, hk⟩ := key
  dsimp only at t1 t2 t3 t4 t5
  subst t1 t2
  exact ⟨wrong, N, t3, t4, t5, fun q6 q15 r hr => hk (q6, q15) r hr⟩
end P96
theorem RS_cp {M M' : Mem} {t t0 : Nat} {A : Ar} (h : SPr M M' t t0 4) (hR : RS M t0 A) : RS M' t A := RS_copy h.2.1 (fun j hj c k hc hk => h.2.2 j hj c k hc hk) hR
theorem st_text {Mx Mm : Mem} (I : Inv Mx Mm) : ∃ rx Mx' vm Mm', fX9_text Mx = some (rx, Mx') ∧ fX10_text Mm = some (vm, Mm') ∧ Agr [1, 2] rx vm Mm' ∧ Inv Mx' Mm' := by
  obtain ⟨N2, a1, a2, a3, a4, a5, a6, a7⟩ := tries_ok I
  obtain ⟨hR, hV, hH, hT⟩ := id I
  obtain ⟨⟨s1, s2⟩, ⟨l, l1, l2, l3, l4⟩, ⟨r, u1, u2, u3, u4⟩, w1, w2, w3, w4⟩ := id a7
  obtain ⟨N0, hN0⟩ : ∃ z, z = mset N2 0 9 0 := ⟨_, rfl⟩
  have n0 : ∀ k, k ≠ 9 → N0 0 k = N2 0 k := fun k hk => by rw [hN0, ms_at, if_neg (fun z => hk z.2)]
  have no : ∀ o, o ≠ 0 → N0 o = N2 o := fun o ho => by rw [hN0, ms_other _ _ _ ho]
  have h0 : RP (fun k => N2 5 k) l N0 0 := ⟨l1, by rw [n0 8 (by omega)]; exact l3, fun k _ => by rw [no 5 (by omega)], by rw [hN0, ms_at, if_pos ⟨rfl, rfl⟩]; rfl, by omega⟩
  have h01 : N0 1 = Mm 1 := (no 1 (by omega)).trans a3
  obtain ⟨m, pos, ws, nu, hC, hm, hf⟩ := chn_ex (fun k => N2 5 k) l1
  obtain ⟨e, hfe⟩ : ∃ e, FinO l m pos ∨ FinE (fun k => N2 5 k) l m pos e := by
    rcases hf with hf | ⟨e, hf⟩
    · exact ⟨0, Or.inl hf⟩
    · exact ⟨e, Or.inr hf⟩
  obtain ⟨M2, r2, x1, x2, x3, x4⟩ := x_read (M := Mx) l1 l2 (fun k hk => (l4 k hk).1) hC hm hfe
  unfold fX9_text fX10_text
  rw [x1, cl_e, bnd_e, bnd_e, jn_e, a1, cl_e, bnd_e, bnd_e, jn_e, jn_e, ← hN0]
  obtain ⟨M4, hM4⟩ : ∃ z, z = mset (mset M2 0 10 r2) 472 0 0 := ⟨_, rfl⟩
  rw [← hM4]
  have f4 : ∀ o, o ≠ 0 → o < 472 ∨ 477 ≤ o → M4 o = Mx o := fun o o0 ho => by rw [hM4, ms_other _ _ _ (by omega), ms_other _ _ _ o0]; exact x2 o ho
  have f40 : ∀ k, k ≠ 10 → M4 0 k = Mx 0 k := fun k hk => by rw [hM4, ms_other _ _ _ (by omega), ms_at, if_neg (fun z => hk z.2), x2 0 (by omega)]
  have f410 : M4 0 10 = r2 := by rw [hM4, ms_other _ _ _ (by omega), ms_at, if_pos ⟨rfl, rfl⟩]
  have f4l : Lst M4 m pos ws nu := fun k hk => by
    obtain ⟨y1, y2, y3⟩ := x3 k hk
    exact ⟨by rw [hM4, ms_other _ _ _ (by omega), ms_other _ _ _ (by omega)]; exact y1, by rw [hM4, ms_other _ _ _ (by omega), ms_other _ _ _ (by omega)]; exact y2, fun q hq => by rw [hM4, ms_other _ _ _ (by omega), ms_other _ _ _ (by omega)]; exact y3 q hq⟩
  have hpm : pos m ≤ 60 := by
    by_cases z : m = 0
    · rw [z, hC.1]; omega
    · have := (hC.pos m (Nat.le_refl _)).2 (by omega); omega
  have hpk : ∀ k, k ≤ m → pos k ≤ 60 := fun k hk => by
    by_cases z : k = 0
    · rw [z, hC.1]; omega
    · have := (hC.pos k hk).2 (by omega); omega
  -- what the rest of the invariant wants at the end
  have rest : ∀ (Mz Nz : Mem) (er : Int32), (∀ o, (85 ≤ o ∧ o < 127) ∨ 477 ≤ o → Mz o = Mx o) → Mz 0 8 = Mx 0 8 → Mz 472 0 = 0 → Mz 0 9 = Nz 0 11 → Mz 0 10 = er → Nz 0 10 = er → bt (Nz 0 11) 0 8 → bt er (-1) 60 → Nz 0 5 = N2 0 5 → Nz 0 8 = 0 → Nz 0 13 = N2 0 13 → Nz 3 = N2 3 → Nz 6 = N2 6 → Rest Mz Nz := fun Mz Nz er g1 g2 g3 g4 g5 g6 g7 g8 g9 g10 g11 g12 g13 => by
    refine ⟨⟨by rw [g2, g9]; exact s1, ?_⟩, ⟨0, by omega, g3, g10, fun k hk => absurd hk (by omega)⟩, ⟨r, u1, by rw [g1 477 (by omega)]; exact u2, by rw [g11]; exact u3, fun k hk => by rw [g1 478 (by omega), g13]; exact u4 k hk⟩, g4, by rw [g5, g6], g7, by rw [g6]; exact g8⟩
    rw [g9, g12]
    rcases s2 with s2 | ⟨s2, s3, s4⟩
    · exact Or.inl s2
    · exact Or.inr ⟨s2, RS_frame (fun o _ _ => g1 o (by omega)) s3, s4⟩
  have b10 : ∀ x : Nat, x ≤ 60 → bt (nI x) (-1) 60 := fun x hx => by unfold bt; rw [nI_toInt (by omega)]; omega
  have d1 : Int32.toInt (-1) = -1 := by decide
  rcases x4 with ⟨ok, rfl, x5⟩ | ⟨er, rfl⟩
  · -- the whole text is a text
    rw [f410, if_pos rfl]
    dsimp only
    rw [need_T', clpm_r]
    obtain ⟨M9, c1, c2⟩ := x_copyS M4 (t := 43) (t0 := 1) (by omega)
    rw [c1, cl_e, jn_e, jn_e]
    have g9 : ∀ o, o < 43 ∨ 85 ≤ o → M9 o = M4 o := fun o ho => c2.1 o (by omega)
    have R9 : RS M9 1 (N0 1) := by
      rw [h01]
      exact RS_frame (fun o _ _ => (g9 o (by omega)).trans (f4 o (by omega) (by omega))) hR
    have L9 : Lst M9 m pos ws nu := fun k hk => by
      obtain ⟨y1, y2, y3⟩ := f4l k hk
      exact ⟨by rw [g9 474 (by omega)]; exact y1, by rw [g9 475 (by omega)]; exact y2, fun q hq => by rw [g9 476 (by omega)]; exact y3 q hq⟩
    have n9 : M9 472 1 = nI m := by rw [g9 472 (by omega), hM4, ms_at, if_neg (by omega), ms_other _ _ _ (by omega)]; exact x5
    have h99 : M9 0 9 = N0 0 11 := by rw [g9 0 (by omega), f40 9 (by omega), n0 11 (by omega)]; exact w1
    have B9 : RS M9 43 (Mm 1) := RS_cp c2 (RS_frame (fun o _ _ => f4 o (by omega) (by omega)) hR)
    obtain ⟨wrong, N, p1, p2, p3, p4⟩ := m_loop (fun a10 => cl (fX1_push a10 43) (fun u12 M13 => some (.inr (M13 472 1), M13))) (fun a14 => grd (inb a14.1 10) (bnd (mset a14.2 0 10 (a14.2 474 a14.1.toNatClampNeg)) (fun M16 => cl (fX6_copyFrom M16 1 43) (fun u17 M18 => some (.inl 2, M18))))) hC hm h0 (by rw [h01]; exact hV) R9 h99 (by rw [n0 11 (by omega)]; exact w3) L9 n9
    have hm1 := ok.1
    have hgz : b01 (decide (m = 0) || decide (pos m < l)) = 0 := by rw [decide_eq_false (show ¬ m = 0 by omega), decide_eq_false (show ¬ pos m < l by have := ok.2; omega)]; rfl
    -- the reference behind its loop
    have mm : ∀ (q6 : Int32 × Int32 × Mem → Option (Int32 × Mem)) (q15 : Mem → Option (Int32 × Mem)), lp (fX10_text_L1 q6 q15) FU (0, (-1), 1, N0) = q6 (nI m, wrong, N) := fun q6 q15 => p4 q6 q15 _ (fun k => by
      simp only [fX10_text_L1]
      rw [if_pos hgz])
    rw [mm]
    dsimp only
    rw [bnd_e, bnd_e, bnd_e, jn_e]
    obtain ⟨N9, hN9⟩ : ∃ z, z = mset (mset (mset N 0 10 wrong) 0 8 0) 0 21 (nI m) := ⟨_, rfl⟩
    rw [← hN9]
    have k9 : ∀ k, k ≠ 10 → k ≠ 8 → k ≠ 21 → N9 0 k = N 0 k := fun k y1 y2 y3 => by rw [hN9, ms_at, if_neg (fun z => y3 z.2), ms_at, if_neg (fun z => y2 z.2), ms_at, if_neg (fun z => y1 z.2)]
    have k910 : N9 0 10 = wrong := by rw [hN9, ms_at, if_neg (by omega), ms_at, if_neg (by omega), ms_at, if_pos ⟨rfl, rfl⟩]
    have k98 : N9 0 8 = 0 := by rw [hN9, ms_at, if_neg (by omega), ms_at, if_pos ⟨rfl, rfl⟩]
    have k921 : N9 0 21 = nI m := by rw [hN9, ms_at, if_pos ⟨rfl, rfl⟩]
    have o9 : ∀ o, o ≠ 0 → N9 o = N o := fun o ho => by rw [hN9, ms_other _ _ _ ho, ms_other _ _ _ ho, ms_other _ _ _ ho]
    have q4 : ∀ k, k < 490 → N9 4 k = Mm 1 k := fun k hk => by rw [o9 4 (by omega), p2.2.2.2.1, no 4 (by omega)]; exact a5 k hk
    have q2 : N9 2 = N2 2 := by rw [o9 2 (by omega), p2.2.1, no 2 (by omega)]
    have q3 : N9 3 = N2 3 := by rw [o9 3 (by omega), p2.2.2.1, no 3 (by omega)]
    have q6 : N9 6 = N2 6 := by rw [o9 6 (by omega), p2.2.2.2.2.2, no 6 (by omega)]
    have q03 : N9 0 3 = N2 0 3 := by rw [k9 3 (by omega) (by omega) (by omega), p2.1 3 (by omega), n0 3 (by omega)]
    have q05 : N9 0 5 = N2 0 5 := by rw [k9 5 (by omega) (by omega) (by omega), p2.1 5 (by omega), n0 5 (by omega)]
    have q13 : N9 0 13 = N2 0 13 := by rw [k9 13 (by omega) (by omega) (by omega), p2.1 13 (by omega), n0 13 (by omega)]
    have q00 : N9 0 0 = 0 := by rw [k9 0 (by omega) (by omega) (by omega), p2.1 0 (by omega), n0 0 (by omega)]; exact a2
    have q11 : N9 0 11 = N 0 11 := k9 11 (by omega) (by omega) (by omega)
    rcases p3 with ⟨t1, t2, t3, M, t4, t5, t6⟩ | ⟨f, t1, t2, t3, M0, Mf, ff, t4, t5, t6, t7, t8, t9, t10⟩
    · -- all commands are carried out
      subst t1
      have fM : ∀ o, o = 0 ∨ 85 ≤ o → M o = M4 o := fun o ho => (t6 o (by omega)).trans (g9 o (by omega))
      have hHM : HR M N9 := HR_frame (fun o y1 y2 => (fM o (by omega)).trans (f4 o (by omega) (by omega))) q2 q03 a6
      have hTM : Rest M N9 := rest M N9 (-1) (fun o ho => (fM o (by omega)).trans (f4 o (by omega) (by omega))) (by rw [fM 0 (by omega)]; exact f40 8 (by omega)) (by rw [fM 472 (by omega), hM4, ms_at, if_pos ⟨rfl, rfl⟩]) (by rw [fM 0 (by omega), f40 9 (by omega), q11, t3, n0 11 (by omega)]; exact w1) (by rw [fM 0 (by omega)]; exact f410) k910 (by rw [q11, t3, n0 11 (by omega)]; exact w3) (by unfold bt; omega) q05 k98 q13 q3 q6
      obtain ⟨Mx1, K', z1, z2, z3, z4, z5, z6, z7⟩ := keep_ok (t := 43) (by omega) hHM hTM (RS_frame (fun o y1 y2 => t6 o (by omega)) B9) hV q4
      have cls := t4.fin hm (r := some (.inr (nI m), Mx1)) (fun c => by
        simp only [fX9_text_L1]
        rw [t6 472 (by omega), n9, if_pos (nI_le (Nat.le_refl _) (by omega)), z1, cl_e, z7 472 (by omega), t6 472 (by omega), n9])
      rw [cls]
      unfold fX10_ends
      rw [if_neg (by decide)]
      try dsimp only
      rw [if_pos (show (0 : Int32) ≤ 0 by decide), z2, cl_e, z4 21 (by omega), k921, cl_e]
      have K1 : K' 1 = N 1 := (z3 1 (by omega) (by omega)).trans (o9 1 (by omega))
      refine ⟨_, _, _, _, rfl, rfl, ⟨by rw [z4 0 (by omega)]; exact q00, rfl⟩, ?_, by rw [K1]; exact t2, z5, z6⟩
      rw [K1]
      exact RS_frame (fun o _ _ => z7 o (by omega)) t5
    · -- a command failed
      have hw : (0 : Int32) ≤ wrong := by rw [t2]; exact nI_pos' (by have := hpk f (by omega); omega)
      have f10 : f < 10 := by omega
      have fM0 : ∀ o, o = 0 ∨ 85 ≤ o → M0 o = M4 o := fun o ho => (t5 o (by omega)).trans (g9 o (by omega))
      have fMf : ∀ o, 85 ≤ o → Mf o = M4 o := fun o ho => (t8 o (by omega)).trans (fM0 o (by omega))
      obtain ⟨M16, hM16⟩ : ∃ z, z = mset Mf 0 10 (nI (pos f)) := ⟨_, rfl⟩
      obtain ⟨M18, v1, v2⟩ := x_copyS M16 (t := 1) (t0 := 43) (by omega)
      have f18 : ∀ o, o ≠ 0 → 43 ≤ o → M18 o = Mf o := fun o o0 ho => (v2.1 o (by omega)).trans (by rw [hM16, ms_other _ _ _ o0])
      have f180 : M18 0 = M16 0 := v2.1 0 (by omega)
      have R18 : RS M18 1 (Mm 1) := RS_cp v2 (RS_frame (fun o y1 y2 => by rw [hM16, ms_other _ _ _ (by omega), t8 o (by omega), t5 o (by omega)]) B9)
      have l474 : Mf 474 f = nI (pos f) := by rw [fMf 474 (by omega)]; exact (f4l f t1).1
      have cls := t4.fin (by omega) (r := some (.inl 2, M18)) (fun c => by
        simp only [fX9_text_L1]
        rw [t5 472 (by omega), n9, if_neg (nI_ge t1 (by omega)), t6, cl_e, if_neg t7]
        try dsimp only
        rw [grd_T (inb_nI f10 (by omega)), nI_clamp (by omega), l474, bnd_e, ← hM16, v1, cl_e])
      rw [cls, if_pos hw]
      try dsimp only
      have hH18 : HR M18 N9 := HR_frame (fun o y1 y2 => (f18 o (by omega) (by omega)).trans ((fMf o (by omega)).trans (f4 o (by omega) (by omega)))) q2 q03 a6
      have hT18 : Rest M18 N9 := rest M18 N9 (nI (pos f)) (fun o ho => (f18 o (by omega) (by omega)).trans ((fMf o (by omega)).trans (f4 o (by omega) (by omega)))) (by rw [f180, hM16, ms_at, if_neg (by omega), t9 8 (by omega), fM0 0 (by omega)]; exact f40 8 (by omega)) (by rw [f18 472 (by omega) (by omega), fMf 472 (by omega), hM4, ms_at, if_pos ⟨rfl, rfl⟩]) (by rw [f180, hM16, ms_at, if_neg (by omega), t10, q11]) (by rw [f180, hM16, ms_at, if_pos ⟨rfl, rfl⟩]) (by rw [k910, t2]) (by rw [q11]; exact t3) (b10 _ (hpk f (by omega))) q05 k98 q13 q3 q6
      obtain ⟨K', z1, z2, z3⟩ := ends_fail hH18 hT18 R18 hV q4 2 (by decide)
      rw [z1, cl_e]
      exact ⟨_, _, _, _, rfl, rfl, ⟨1, rfl, z2⟩, z3⟩
  · -- the text is not a text
    have e60 := er.2.2.1
    have hne : ¬ (nI e = (-1 : Int32)) := by
      intro z
      rw [ti_eq, nI_toInt (by omega)] at z
      omega
    rw [f410, if_neg hne]
    dsimp only
    rw [need_2', clpm_l]
    -- any memory that carries the lists serves the loop
    obtain ⟨M9, hM9⟩ : ∃ z, z = mset M4 472 1 (nI m) := ⟨_, rfl⟩
    have g9 : ∀ o, o ≠ 472 → M9 o = M4 o := fun o ho => by rw [hM9, ms_other _ _ _ ho]
    have R9 : RS M9 1 (N0 1) := by
      rw [h01]
      exact RS_frame (fun o _ _ => (g9 o (by omega)).trans (f4 o (by omega) (by omega))) hR
    have L9 : Lst M9 m pos ws nu := fun k hk => by
      obtain ⟨y1, y2, y3⟩ := f4l k hk
      exact ⟨by rw [g9 474 (by omega)]; exact y1, by rw [g9 475 (by omega)]; exact y2, fun q hq => by rw [g9 476 (by omega)]; exact y3 q hq⟩
    have n9 : M9 472 1 = nI m := by rw [hM9, ms_at, if_pos ⟨rfl, rfl⟩]
    have h99 : M9 0 9 = N0 0 11 := by rw [g9 0 (by omega), f40 9 (by omega), n0 11 (by omega)]; exact w1
    obtain ⟨wrong, N, p1, p2, p3, p4⟩ := m_loop (fun _ => none) (fun _ => none) hC hm h0 (by rw [h01]; exact hV) R9 h99 (by rw [n0 11 (by omega)]; exact w3) L9 n9
    obtain ⟨c1, c2, c3, c4⟩ := id er
    have hgz : b01 (decide (m = 0) || decide (pos m < l)) = b01 true := by
      rcases c1 with c1 | c1
      · rw [decide_eq_true c1]; rfl
      · rw [decide_eq_true c1, Bool.or_true]
    -- the reference finds the same error
    have bad : ∃ Ne, RK N Ne ∧ RP (fun k => N2 5 k) l Ne e ∧ ∀ (q6 : Int32 × Int32 × Mem → Option (Int32 × Mem)) (q15 : Mem → Option (Int32 × Mem)), lp (fX10_text_L1 q6 q15) FU (0, (-1), 1, N0) = q15 Ne := by
      obtain ⟨N1, w1', w2', w3'⟩ := m_word p1
      have neg : (-1 : Int32) < 0 := by decide
      rcases c4 with ⟨c4, c5⟩ | ⟨o, c4, c5⟩
      · rcases w3' with ⟨_, w5, w6⟩ | ⟨o', w4, _⟩
        · refine ⟨N1, w1', by rw [c5]; exact w6, fun q6 q15 => p4 q6 q15 _ (fun k => ?_)⟩
          simp only [fX10_text_L1]
          rw [hgz, if_neg (show ¬ b01 true = 0 by decide), bnd_e, w5, cl_e, if_pos neg]
        · rw [c4] at w4; cases w4
      · rcases w3' with ⟨w4, _⟩ | ⟨o', w4, w5⟩
        · rw [c4] at w4; cases w4
        · rw [c4] at w4; cases w4
          obtain ⟨o6, _⟩ := widx_o c4
          rcases w5 with ⟨w5, w6, w7⟩ | ⟨w5, w6, w7⟩
          · obtain ⟨N2', i1, i2⟩ := m_items w7 o6
            have hσ : sgn (fun k => N2 5 k) l 58 (pos m + wlen (fun k => N2 5 k) l (pos m), none) = ((sgn (fun k => N2 5 k) l 58 (pos m + wlen (fun k => N2 5 k) l (pos m), none)).1, none) := Prod.ext rfl w5
            have c5' : (sgn (fun k => N2 5 k) l 59 (itl (fun k => N2 5 k) l (sgn (fun k => N2 5 k) l 58 (pos m + wlen (fun k => N2 5 k) l (pos m), none)) (nwn o)).1).2 = some e := c5
            rw [hσ] at c5'
            rcases i2 with ⟨x, i2, i3, i4⟩ | ⟨i2, _⟩
            · have ex : x = e := by rw [c5'] at i2; cases i2; rfl
              subst ex
              refine ⟨N2', w1'.tr i1, i3, fun q6 q15 => p4 q6 q15 _ (fun k => ?_)⟩
              simp only [fX10_text_L1]
              rw [hgz, if_neg (show ¬ b01 true = 0 by decide), bnd_e, w6, cl_e, if_neg (nI_pos (by omega)), i4, cl_e, if_pos rfl]
            · rw [c5'] at i2; cases i2
          · have c5' : (sgn (fun k => N2 5 k) l 59 (itl (fun k => N2 5 k) l (sgn (fun k => N2 5 k) l 58 (pos m + wlen (fun k => N2 5 k) l (pos m), none)) (nwn o)).1).2 = some e := c5
            have := itl_err (s := fun k => N2 5 k) (l := l) (σ := sgn (fun k => N2 5 k) l 58 (pos m + wlen (fun k => N2 5 k) l (pos m), none)) (i := 0) (x := pos m + wlen (fun k => N2 5 k) l (pos m)) (by show (sgn (fun k => N2 5 k) l 58 (pos m + wlen (fun k => N2 5 k) l (pos m), none)).2 = _; rw [w5]) (nwn o) (by omega)
            rw [this] at c5'
            have c6 : (sgn (fun k => N2 5 k) l 59 (sgn (fun k => N2 5 k) l 58 (pos m + wlen (fun k => N2 5 k) l (pos m), none))).2 = some e := c5'
            rw [w5, sgn_err (x := pos m + wlen (fun k => N2 5 k) l (pos m)) rfl] at c6
            have ex : pos m + wlen (fun k => N2 5 k) l (pos m) = e := Option.some.inj c6
            rw [ex] at w7
            refine ⟨N1, w1', w7, fun q6 q15 => p4 q6 q15 _ (fun k => ?_)⟩
            simp only [fX10_text_L1]
            rw [hgz, if_neg (show ¬ b01 true = 0 by decide), bnd_e, w6, cl_e, if_pos neg]
    obtain ⟨Ne, y1, y2, y3⟩ := bad
    rw [y3, bnd_e, bnd_e, bnd_e]
    have tf := p2.rk y1
    obtain ⟨N18, hN18⟩ : ∃ z, z = mset (mset (mset Ne 0 11 (N2 0 11)) 0 10 (mset Ne 0 11 (N2 0 11) 0 9)) 0 8 0 := ⟨_, rfl⟩
    rw [← hN18]
    have k18 : ∀ k, k ≠ 8 → k ≠ 10 → k ≠ 11 → N18 0 k = Ne 0 k := fun k b1 b2 b3 => by rw [hN18, ms_at, if_neg (fun z => b1 z.2), ms_at, if_neg (fun z => b2 z.2), ms_at, if_neg (fun z => b3 z.2)]
    have k8 : N18 0 8 = 0 := by rw [hN18, ms_at, if_pos ⟨rfl, rfl⟩]
    have k10 : N18 0 10 = nI e := by rw [hN18, ms_at, if_neg (by omega), ms_at, if_pos ⟨rfl, rfl⟩, ms_at, if_neg (by omega)]; exact y2.2.2.2.1
    have k11 : N18 0 11 = N2 0 11 := by rw [hN18, ms_at, if_neg (by omega), ms_at, if_neg (by omega), ms_at, if_pos ⟨rfl, rfl⟩]
    have o18 : ∀ o, o ≠ 0 → N18 o = Ne o := fun o ho => by rw [hN18, ms_other _ _ _ ho, ms_other _ _ _ ho, ms_other _ _ _ ho]
    have hH18 : HR M4 N18 := HR_frame (fun o b1 b2 => f4 o (by omega) (by omega)) (by rw [o18 2 (by omega), tf.2.1, no 2 (by omega)]) (by rw [k18 3 (by omega) (by omega) (by omega), tf.1 3 (by omega), n0 3 (by omega)]) a6
    have hT18 : Rest M4 N18 := rest M4 N18 (nI e) (fun o ho => f4 o (by omega) (by omega)) (f40 8 (by omega)) (by rw [hM4, ms_at, if_pos ⟨rfl, rfl⟩]) (by rw [f40 9 (by omega), k11]; exact w1) f410 k10 (by rw [k11]; exact w3) (b10 e e60) (by rw [k18 5 (by omega) (by omega) (by omega), tf.1 5 (by omega), n0 5 (by omega)]) k8 (by rw [k18 13 (by omega) (by omega) (by omega), tf.1 13 (by omega), n0 13 (by omega)]) (by rw [o18 3 (by omega), tf.2.2.1, no 3 (by omega)]) (by rw [o18 6 (by omega), tf.2.2.2.2.2, no 6 (by omega)])
    obtain ⟨K', z1, z2, z3⟩ := ends_fail hH18 hT18 (RS_frame (fun o _ _ => f4 o (by omega) (by omega)) hR) hV (fun k hk => by rw [o18 4 (by omega), tf.2.2.2.1, no 4 (by omega)]; exact a5 k hk) 1 (by decide)
    rw [z1, cl_e]
    exact ⟨_, _, _, _, rfl, rfl, ⟨0, rfl, z2⟩, z3⟩
