/-! calls that are commands of texts too: tried and taken back by the reference, judged ahead by the class -/
def MFw (Mm Mm' : Mem) : Prop := (∀ k, k = 3 ∨ k = 5 ∨ k = 8 ∨ k = 9 ∨ k = 10 ∨ k = 13 → Mm' 0 k = Mm 0 k) ∧ Mm' 2 = Mm 2 ∧ Mm' 3 = Mm 3 ∧ Mm' 5 = Mm 5 ∧ Mm' 6 = Mm 6 ∧ Mm' 4 = Mm 4 ∧ Mm' 0 0 = Mm 0 0
theorem MFw.rf (M : Mem) : MFw M M := ⟨fun _ _ => rfl, rfl, rfl, rfl, rfl, rfl, rfl⟩
theorem MFw.tr {M N K : Mem} (h : MFw M N) (h' : MFw N K) : MFw M K := ⟨fun k hk => (h'.1 k hk).trans (h.1 k hk), h'.2.1.trans h.2.1, h'.2.2.1.trans h.2.2.1, h'.2.2.2.1.trans h.2.2.2.1, h'.2.2.2.2.1.trans h.2.2.2.2.1, h'.2.2.2.2.2.1.trans h.2.2.2.2.2.1, h'.2.2.2.2.2.2.trans h.2.2.2.2.2.2⟩
theorem MFw.set1 {M N : Mem} {k : Nat} {v : Int32} (h : MFw M N) : MFw M (mset N 1 k v) := h.tr ⟨fun q _ => by rw [ms_other _ _ _ (by omega)], ms_other _ _ _ (by omega), ms_other _ _ _ (by omega), ms_other _ _ _ (by omega), ms_other _ _ _ (by omega), ms_other _ _ _ (by omega), by rw [ms_other _ _ _ (by omega)]⟩
theorem MFw.set0 {M N : Mem} {k : Nat} {v : Int32} (h : MFw M N) (hk : k ≠ 0 ∧ k ≠ 3 ∧ k ≠ 5 ∧ k ≠ 8 ∧ k ≠ 9 ∧ k ≠ 10 ∧ k ≠ 13) : MFw M (mset N 0 k v) := h.tr ⟨fun q hq => by rw [ms_at, if_neg (by omega)], ms_other _ _ _ (by omega), ms_other _ _ _ (by omega), ms_other _ _ _ (by omega), ms_other _ _ _ (by omega), ms_other _ _ _ (by omega), by rw [ms_at, if_neg (by omega)]⟩
theorem MFw.mf {M N : Mem} (h : MFw M N) (h11 : N 0 11 = M 0 11) : MF M N := ⟨fun k hk => by
  by_cases c : k = 11
  · subst c; exact h11
  · exact h.1 k (by omega), h.2.1, h.2.2.1, h.2.2.2.1, h.2.2.2.2.1⟩
def CmdBad (N : Mem) (xs : List Nat) (fault : Mem → Option (Int32 × Mem)) (mf : Option (Int32 × Mem)) : Prop :=
  ∃ (f : Int32) (c e : Nat) (N' : Mem), f ≠ 0 ∧ (∀ M, fX9_raise M f = some (.inl e)) ∧ xs[c]? = some e ∧ c < 5 ∧ mf = some (nI (c + 1), N') ∧ MFw N N' ∧ (bt (N 0 11) 0 8 → bt (N' 0 11) 0 8) ∧
    ∀ Mx, RS Mx 1 (N 1) → Mx 0 9 = N 0 11 → ∃ Mx', fault Mx = some (f, Mx') ∧ (∀ o, o ≠ 0 → Mx' o = Mx o) ∧ (∀ k, k ≠ 9 → Mx' 0 k = Mx 0 k) ∧ Mx' 0 9 = N' 0 11
def CmdGood (N : Mem) (fault : Mem → Option (Int32 × Mem)) (set : Mem → Option ((Nat ⊕ Int32) × Mem)) (mf : Option (Int32 × Mem)) : Prop :=
  ∃ (v : Int32) (N' : Mem), mf = some (0, N') ∧ N' 0 21 = v ∧ MFw N N' ∧ N' 0 11 = N 0 11 ∧ Val (N' 1) ∧
    ∀ Mx, RS Mx 1 (N 1) → fault Mx = some (0, Mx) ∧ ∃ Mx', set Mx = some (.inr v, Mx') ∧ XF Mx Mx' ∧ RS Mx' 1 (N' 1)
def CmdOk (N : Mem) (xs : List Nat) (fault : Mem → Option (Int32 × Mem)) (set : Mem → Option ((Nat ⊕ Int32) × Mem)) (mf : Option (Int32 × Mem)) : Prop := CmdBad N xs fault mf ∨ CmdGood N fault set mf
def liftF (f : Mem → Option Int32) : Mem → Option (Int32 × Mem) := fun M => clp (f M) (fun x => some (x, M))
theorem liftF_e {f : Mem → Option Int32} {M : Mem} {x : Int32} (h : f M = some x) : liftF f M = some (x, M) := by unfold liftF; rw [h, clp_e]
theorem liftF_cl {β : Type} (f : Mem → Option Int32) (M : Mem) (K : Int32 → Mem → Option β) : clp (f M) (fun x => K x M) = cl (liftF f M) K := by
  unfold liftF
  cases f M <;> rfl
theorem bad_pure {N : Mem} {xs : List Nat} {g : Mem → Option Int32} {mf : Option (Int32 × Mem)} (f : Int32) (c e : Nat) (hf : f ≠ 0) (hr : ∀ M, fX9_raise M f = some (.inl e)) (hx : xs[c]? = some e) (hc : c < 5) (hm : mf = some (nI (c + 1), N)) (h : ∀ Mx, RS Mx 1 (N 1) → g Mx = some f) : CmdBad N xs (liftF g) mf :=
  ⟨f, c, e, N, hf, hr, hx, hc, hm, MFw.rf N, id, fun Mx hR h9 => ⟨Mx, liftF_e (h Mx hR), fun _ _ => rfl, fun _ _ => rfl, h9⟩⟩
theorem cmd_op {Mx Mm : Mem} (I : Inv Mx Mm) {xs : List Nat} {fault : Mem → Option (Int32 × Mem)} {set : Mem → Option ((Nat ⊕ Int32) × Mem)} {mf : Mem → Option (Int32 × Mem)} (h : ∀ N, Val (N 1) → CmdOk N xs fault set (mf N)) : ∃ rx Mx' vm Mm', cl (fault Mx) (fun x1 M2 => clpm M2 (fX9_raise M2 x1) (fun _ => cl (fX1_push M2 1) (fun _ M5 => clx (set M5) (fun x6 M7 => some (.inr x6, M7))))) = some (rx, Mx') ∧ cl (fX10_tries Mm) (fun _ M2 => cl (mf M2) (fun x3 M4 => cl (fX10_ends M4 x3) (fun x5 M6 => some (x5, M6)))) = some (vm, Mm') ∧ Agr xs rx vm Mm' ∧ Inv Mx' Mm' := by
  obtain ⟨N, a1, a2, a3, a4, a5, a6, a7⟩ := tries_ok I
  obtain ⟨hR, hV, hH, hT⟩ := I
  have hR' : RS Mx 1 (N 1) := by rw [a3]; exact hR
  have hV' : Val (N 1) := by rw [a3]; exact hV
  rcases h N hV' with ⟨f, c, e, N', b1, b2, b3, b4, b5, b6, b7, b8⟩ | ⟨v, N', b1, b2, b3, b4, b5, b6⟩
  · obtain ⟨Mx', c1, c2, c3, c4⟩ := b8 Mx hR' a7.2.2.2.1
    have hx : ∀ o, o ≠ 0 → Mx' o = Mx o := c2
    have hH' : HR Mx' N' := HR_frame (fun o h1 _ => hx o (by omega)) b6.2.1 (b6.1 3 (by omega)) a6
    have hT' : Rest Mx' N' := by
      obtain ⟨⟨s1, s2⟩, ⟨l, t1, t2, t3, t4⟩, ⟨q, u1, u2, u3, u4⟩, w1, w2, w3, w4⟩ := a7
      refine ⟨⟨by rw [c3 8 (by omega), b6.1 5 (by omega)]; exact s1, ?_⟩, ⟨l, t1, by rw [hx 472 (by omega)]; exact t2, by rw [b6.1 8 (by omega)]; exact t3, fun k hk => by rw [hx 473 (by omega), b6.2.2.2.1]; exact t4 k hk⟩, ⟨q, u1, by rw [hx 477 (by omega)]; exact u2, by rw [b6.1 13 (by omega)]; exact u3, fun k hk => by rw [hx 478 (by omega), b6.2.2.2.2.1]; exact u4 k hk⟩, c4, by rw [c3 10 (by omega), b6.1 10 (by omega)]; exact w2, b7 w3, by rw [b6.1 10 (by omega)]; exact w4⟩
      rw [b6.1 5 (by omega), b6.2.2.1]
      rcases s2 with s2 | ⟨s2, s3, s4⟩
      · exact Or.inl s2
      · exact Or.inr ⟨s2, RS_frame (fun o h1 h2 => hx o (by omega)) s3, s4⟩
    have h4 : ∀ k, k < 490 → N' 4 k = Mm 1 k := fun k hk => by rw [b6.2.2.2.2.2.1]; exact a5 k hk
    obtain ⟨K, d1, d2, d3⟩ := ends_fail hH' hT' (RS_frame (fun o h1 h2 => hx o (by omega)) hR) hV h4 (nI (c + 1)) (nI_nle (by omega) (by omega))
    rw [c1, cl_e, b2, clpm_l, a1, cl_e, b5, cl_e, d1, cl_e]
    exact ⟨_, _, _, _, rfl, rfl, ⟨c, b3, d2⟩, d3⟩
  · obtain ⟨c1, c2⟩ := b6 Mx hR'
    have hm : MF N N' := b3.mf b4
    have h4 : ∀ k, k < 490 → N' 4 k = Mm 1 k := fun k hk => by rw [b3.2.2.2.2.2.1]; exact a5 k hk
    obtain ⟨Mx1, K, d1, d2, d3, d4, d5, d6, d7⟩ := ends_ok (A := Mm 1) (a6.fr (XF.rf Mx) hm) (a7.fr (XF.rf Mx) hm) hR hV h4
    obtain ⟨e1, Mx', e2, e3, e4⟩ := b6 Mx1 (RS_frame (fun o _ _ => d7 o (by omega)) hR')
    rw [c1, cl_e, raise_0, clpm_r, d1, cl_e, e2, clx_r, a1, cl_e, b1, cl_e, d2, cl_e]
    have k1 : K 1 = N' 1 := d3 1 (by omega) (by omega)
    refine ⟨_, _, _, _, rfl, rfl, ⟨by rw [d4 0 (by omega), b3.2.2.2.2.2.2, a2], b2⟩, by rw [k1]; exact e4, by rw [k1]; exact b5, d5.fr e3 (MF.rf K), d6.fr e3 (MF.rf K)⟩
