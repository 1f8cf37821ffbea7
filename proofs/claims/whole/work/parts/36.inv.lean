/-! what holds between two calls -/
def Sl (Mm : Mem) (i : Nat) : Ar := fun k => Mm 2 (490 * i + k)
def HR (Mx Mm : Mem) : Prop := ∃ n x : Nat, n ≤ 8 ∧ x < 8 ∧ Mx 463 0 = nI n ∧ Mx 463 1 = nI x ∧ Mm 0 3 = nI n ∧ ∀ i, i < n → RS Mx (127 + 42 * ((x + 8 - n + i) % 8)) (Sl Mm i) ∧ Val (Sl Mm i)
def SV (Mx Mm : Mem) : Prop := Mx 0 8 = Mm 0 5 ∧ (Mm 0 5 = 0 ∨ (Mm 0 5 = 1 ∧ RS Mx 85 (Mm 3) ∧ Val (Mm 3)))
def SC (Mx Mm : Mem) : Prop := ∃ l : Nat, l ≤ 60 ∧ Mx 472 0 = nI l ∧ Mm 0 8 = nI l ∧ ∀ k, k < l → Mx 473 k = Mm 5 k ∧ bt (Mm 5 k) 33 126
def PG (Mx Mm : Mem) : Prop := ∃ l : Nat, l ≤ 96 ∧ Mx 477 0 = nI l ∧ Mm 0 13 = nI l ∧ ∀ k, k < l → Mx 478 k = Mm 6 k ∧ bt (Mm 6 k) 32 126
def RE (Mx Mm : Mem) : Prop := Mx 0 9 = Mm 0 11 ∧ Mx 0 10 = Mm 0 10 ∧ bt (Mm 0 11) 0 8 ∧ bt (Mm 0 10) (-1) 60
def Rest (Mx Mm : Mem) : Prop := SV Mx Mm ∧ SC Mx Mm ∧ PG Mx Mm ∧ RE Mx Mm
def Inv (Mx Mm : Mem) : Prop := RS Mx 1 (Mm 1) ∧ Val (Mm 1) ∧ HR Mx Mm ∧ Rest Mx Mm
def Agr (xs : List Nat) (rx : Nat ⊕ Int32) (vm : Int32) (Mm : Mem) : Prop := match rx with
  | .inr v => Mm 0 0 = 0 ∧ vm = v
  | .inl e => ∃ i, xs[i]? = some e ∧ Mm 0 0 = nI (i + 1)
/-! validity is of the first 490 cells -/
theorem VG_cong {A A' : Ar} {j g : Nat} (h0 : A' 0 = A 0) (h3 : A' 3 = A 3) (h2 : A' (ix j 2) = A (ix j 2)) (hw : ∀ w, w < 13 → A' (gx j g w) = A (gx j g w)) (h : VG A j g) : VG A' j g := by
  obtain ⟨g0, g1, g2, g3, g4, g5, g6, g7, g8, g9⟩ := h
  refine ⟨by rw [hw 0 (by omega)]; exact g0, by rw [hw 1 (by omega)]; exact g1, by rw [hw 2 (by omega)]; exact g2, by rw [hw 3 (by omega), h3]; exact g3, by rw [hw 4 (by omega), h3]; exact g4, by rw [hw 5 (by omega)]; exact g5, fun p hp => by rw [hw (6 + p) (by omega)]; exact g6 p hp, fun p hp => ?_, fun hl => ?_, fun hl w h13 => ?_⟩
  · unfold fs ln; rw [hw (9 + 2 * p) (by omega), hw (10 + 2 * p) (by omega), h0]; exact g7 p hp
  · rw [hw 1 (by omega)]; exact g8 (by rw [← h2]; exact hl)
  · rw [hw w h13]; exact g9 (by rw [← h2]; exact hl) w h13
theorem VC_cong {A A' : Ar} {j a b : Nat} (h0 : A' 0 = A 0) (h2 : A' (ix j 2) = A (ix j 2)) (hk : kl A' j a b = kl A j a b) (hk' : kl A' j b a = kl A j b a) (hp : 0 ≤ kl A j a b → ∀ p, p < 2 → fs A' j p a = fs A j p a ∧ fs A' j p b = fs A j p b ∧ ln A' j p a = ln A j p a ∧ ln A' j p b = ln A j p b) (h : VC A j a b) : VC A' j a b := by
  obtain ⟨c1, c2, c3, c4⟩ := h
  refine ⟨by rw [hk]; exact c1, by rw [hk, hk']; exact c2, by rw [hk, h2]; exact c3, ?_⟩
  rw [hk]
  intro h p hpp
  obtain ⟨e1, e2, e3, e4⟩ := hp h p hpp
  rw [e1, e2, e3, e4, h0]
  exact c4 h p hpp
theorem ix_gx (j g w : Nat) : gx j g w = ix j (7 + 13 * g + w) := by unfold ix gx; omega
theorem ix_cx (j a b : Nat) : cx j a b = ix j (85 + 6 * a + b) := by unfold ix cx; omega
theorem VJ_cong {A A' : Ar} {j : Nat} (h0 : A' 0 = A 0) (h3 : A' 3 = A 3) (hk : ∀ k, k < 121 → A' (ix j k) = A (ix j k)) (h : VJ A j) : VJ A' j := by
  obtain ⟨v1, v2, v3, v4, v5, v6, v7, v8⟩ := h
  have hg : ∀ g w, g < 6 → w < 13 → A' (gx j g w) = A (gx j g w) := fun g w hg hw => by rw [ix_gx]; exact hk _ (by omega)
  have hc : ∀ a b, a < 6 → b < 6 → kl A' j a b = kl A j a b := fun a b ha hb => by unfold kl; rw [ix_cx]; exact hk _ (by omega)
  refine ⟨by rw [hk 0 (by omega)]; exact v1, by rw [hk 1 (by omega), h0]; exact v2, by rw [hk 2 (by omega)]; exact v3, by rw [hk 3 (by omega)]; exact v4, by rw [hk 4 (by omega)]; exact v5, fun d hd => by rw [hk (5 + d) (by omega), hk 2 (by omega)]; exact v6 d hd, fun g h6 => VG_cong h0 h3 (hk 2 (by omega)) (fun w hw => hg g w h6 hw) (v7 g h6), fun a ha b hb => VC_cong h0 (hk 2 (by omega)) (hc a b ha hb) (hc b a hb ha) (fun _ p hp => ⟨hg a _ ha (by omega), hg b _ hb (by omega), hg a _ ha (by omega), hg b _ hb (by omega)⟩) (v8 a ha b hb)⟩
theorem Val_cong {A A' : Ar} (hk : ∀ k, k < 490 → A' k = A k) (h : Val A) : Val A' := by
  obtain ⟨v0, v1, v2, v3⟩ := h
  have e : ∀ k, k < 6 → A' k = A k := fun k h => hk k (by omega)
  have ei : ∀ j k, j < 4 → k < 121 → A' (ix j k) = A (ix j k) := fun j k hj hk' => hk _ (by unfold ix; omega)
  refine ⟨?_, fun j hj hl => VJ_cong (e 0 (by omega)) (e 3 (by omega)) (fun k h => ei j k hj h) (v1 j hj (by rw [← e 2 (by omega)]; exact hl)), fun j hj hl k h => by rw [ei j k hj h]; exact v2 j hj (by rw [← e 2 (by omega)]; exact hl) k h, fun j hj hl => by rw [ei j 0 (by omega) (by omega), ei (j + 1) 0 (by omega) (by omega)]; exact v3 j hj (by rw [← e 2 (by omega)]; exact hl)⟩
  unfold V0
  rw [e 0 (by omega), e 1 (by omega), e 2 (by omega), e 3 (by omega), e 4 (by omega)]
  exact v0
/-- a junction is changed, its place is not -/
theorem Val_lift {A A' : Ar} {j : Nat} (h : Val A) (hj : j < 4) (hl : nI j < A 2) (hA : ∀ k, (k < ix j 0 ∨ ix j 121 ≤ k) → A' k = A k) (hp : A' (ix j 0) = A (ix j 0)) (hv : VJ A' j) : Val A' := by
  obtain ⟨v0, v1, v2, v3⟩ := h
  have e : ∀ k, k < 6 → A' k = A k := fun k hk => hA k (Or.inl (by unfold ix; omega))
  have eo : ∀ q k, q ≠ j → k < 121 → A' (ix q k) = A (ix q k) := fun q k hq hk => hA _ (by unfold ix; omega)
  have ep : ∀ q, A' (ix q 0) = A (ix q 0) := fun q => by
    by_cases c : q = j
    · subst c; exact hp
    · exact eo q 0 c (by omega)
  refine ⟨?_, fun q hq hlq => ?_, fun q hq hlq k hk => ?_, fun q hq hlq => by rw [ep, ep]; exact v3 q hq (by rw [← e 2 (by omega)]; exact hlq)⟩
  · unfold V0
    rw [e 0 (by omega), e 1 (by omega), e 2 (by omega), e 3 (by omega), e 4 (by omega)]
    exact v0
  · by_cases c : q = j
    · subst c; exact hv
    · exact VJ_cong (e 0 (by omega)) (e 3 (by omega)) (fun k hk => eo q k c hk) (v1 q hq (by rw [← e 2 (by omega)]; exact hlq))
  · rw [e 2 (by omega)] at hlq
    have c : q ≠ j := fun z => by subst z; exact hlq hl
    rw [eo q k c hk]; exact v2 q hq hlq k hk
theorem HR_frame {Mx Mx' Mm Mm' : Mem} (hx : ∀ o, 127 ≤ o → o < 464 → Mx' o = Mx o) (h2 : Mm' 2 = Mm 2) (h3 : Mm' 0 3 = Mm 0 3) (h : HR Mx Mm) : HR Mx' Mm' := by
  obtain ⟨n, x, a1, a2, a3, a4, a5, a6⟩ := h
  refine ⟨n, x, a1, a2, by rw [hx 463 (by omega) (by omega)]; exact a3, by rw [hx 463 (by omega) (by omega)]; exact a4, by rw [h3]; exact a5, fun i hi => ?_⟩
  obtain ⟨b1, b2⟩ := a6 i hi
  have e : Sl Mm' i = Sl Mm i := by unfold Sl; rw [h2]
  rw [e]
  exact ⟨RS_frame (fun o h1 h2 => hx o (by omega) (by omega)) b1, b2⟩
theorem Rest_frame {Mx Mx' Mm Mm' : Mem} (h0 : ∀ k, 8 ≤ k → k < 11 → Mx' 0 k = Mx 0 k) (hs : ∀ o, 85 ≤ o → o < 127 → Mx' o = Mx o) (hx : ∀ o, 472 ≤ o → Mx' o = Mx o) (hm : ∀ k, k = 5 ∨ k = 8 ∨ k = 10 ∨ k = 11 ∨ k = 13 → Mm' 0 k = Mm 0 k) (h3 : Mm' 3 = Mm 3) (h5 : Mm' 5 = Mm 5) (h6 : Mm' 6 = Mm 6) (h : Rest Mx Mm) : Rest Mx' Mm' := by
  obtain ⟨⟨a1, a2⟩, ⟨l, b1, b2, b3, b4⟩, ⟨q, c1, c2, c3, c4⟩, d1, d2, d3, d4⟩ := h
  refine ⟨⟨by rw [h0 8 (by omega) (by omega), hm 5 (by omega)]; exact a1, ?_⟩, ⟨l, b1, by rw [hx 472 (by omega)]; exact b2, by rw [hm 8 (by omega)]; exact b3, fun k hk => by rw [hx 473 (by omega), h5]; exact b4 k hk⟩, ⟨q, c1, by rw [hx 477 (by omega)]; exact c2, by rw [hm 13 (by omega)]; exact c3, fun k hk => by rw [hx 478 (by omega), h6]; exact c4 k hk⟩, by rw [h0 9 (by omega) (by omega), hm 11 (by omega)]; exact d1, by rw [h0 10 (by omega) (by omega), hm 10 (by omega)]; exact d2, by rw [hm 11 (by omega)]; exact d3, by rw [hm 10 (by omega)]; exact d4⟩
  rw [hm 5 (by omega), h3]
  rcases a2 with a2 | ⟨a2, a3, a4⟩
  · exact Or.inl a2
  · exact Or.inr ⟨a2, RS_frame (fun o h1 h2 => hs o (by omega) (by omega)) a3, a4⟩
/-- the state alone is changed -/
def XF (Mx Mx' : Mem) : Prop := ∀ o, o = 0 ∨ 43 ≤ o → Mx' o = Mx o
def MF (Mm Mm' : Mem) : Prop := (∀ k, k = 3 ∨ k = 5 ∨ k = 8 ∨ k = 10 ∨ k = 11 ∨ k = 13 → Mm' 0 k = Mm 0 k) ∧ Mm' 2 = Mm 2 ∧ Mm' 3 = Mm 3 ∧ Mm' 5 = Mm 5 ∧ Mm' 6 = Mm 6
theorem XF.rf (M : Mem) : XF M M := fun _ _ => rfl
theorem XF.set {M N : Mem} {o k : Nat} {v : Int32} (h : XF M N) (ho : 1 ≤ o ∧ o < 43) : XF M (mset N o k v) := fun q hq => (ms_other _ _ _ (by omega)).trans (h q hq)
theorem MF.rf (M : Mem) : MF M M := ⟨fun _ _ => rfl, rfl, rfl, rfl, rfl⟩
theorem MF.tr {M N K : Mem} (h : MF M N) (h' : MF N K) : MF M K := ⟨fun k hk => (h'.1 k hk).trans (h.1 k hk), h'.2.1.trans h.2.1, h'.2.2.1.trans h.2.2.1, h'.2.2.2.1.trans h.2.2.2.1, h'.2.2.2.2.trans h.2.2.2.2⟩
theorem MF.set1 {M N : Mem} {k : Nat} {v : Int32} (h : MF M N) : MF M (mset N 1 k v) := h.tr ⟨fun q _ => by rw [ms_other _ _ _ (by omega)], ms_other _ _ _ (by omega), ms_other _ _ _ (by omega), ms_other _ _ _ (by omega), ms_other _ _ _ (by omega)⟩
theorem MF.set0 {M N : Mem} {k : Nat} {v : Int32} (h : MF M N) (hk : k ≠ 3 ∧ k ≠ 5 ∧ k ≠ 8 ∧ k ≠ 10 ∧ k ≠ 11 ∧ k ≠ 13) : MF M (mset N 0 k v) := h.tr ⟨fun q hq => by rw [ms_at, if_neg (by omega)], ms_other _ _ _ (by omega), ms_other _ _ _ (by omega), ms_other _ _ _ (by omega), ms_other _ _ _ (by omega)⟩
theorem Rest.fr {Mx Mx' Mm Mm' : Mem} (hx : XF Mx Mx') (hm : MF Mm Mm') (h : Rest Mx Mm) : Rest Mx' Mm' :=
  Rest_frame (fun k _ _ => by rw [hx 0 (by omega)]) (fun o _ _ => hx o (by omega)) (fun o _ => hx o (by omega)) (fun k hk => hm.1 k (by omega)) hm.2.2.1 hm.2.2.2.1 hm.2.2.2.2 h
theorem HR.fr {Mx Mx' Mm Mm' : Mem} (hx : XF Mx Mx') (hm : MF Mm Mm') (h : HR Mx Mm) : HR Mx' Mm' :=
  HR_frame (fun o _ _ => hx o (by omega)) hm.2.1 (hm.1 3 (by omega)) h
theorem Inv.of {Mx Mx' Mm Mm' : Mem} (hR : RS Mx' 1 (Mm' 1)) (hV : Val (Mm' 1)) (hx : XF Mx Mx') (hm : MF Mm Mm') (hH : HR Mx Mm) (hT : Rest Mx Mm) : Inv Mx' Mm' := ⟨hR, hV, hH.fr hx hm, hT.fr hx hm⟩
/-- the reference's own numbers alone are changed -/
theorem Inv.num {Mx Mm Mm' : Mem} (I : Inv Mx Mm) (h1 : Mm' 1 = Mm 1) (hm : MF Mm Mm') : Inv Mx Mm' := Inv.of (by rw [h1]; exact I.1) (by rw [h1]; exact I.2.1) (XF.rf Mx) hm I.2.2.1 I.2.2.2
theorem Inv.th {Mx Mm : Mem} (I : Inv Mx Mm) (v : Int32) : Inv Mx (mset Mm 0 0 v) := I.num (ms_other _ _ _ (by omega)) ((MF.rf Mm).set0 (by omega))
/-! the history: pushed and kept -/
theorem HR_push {Mx Mm : Mem} {t : Nat} {A : Ar} (ht : t + 42 ≤ 127) (hH : HR Mx Mm) (hR : RS Mx t A) (hV : Val A) : ∃ (n : Nat) (Mx1 : Mem), n ≤ 8 ∧ Mm 0 3 = nI n ∧ fX1_push Mx t = some ((), Mx1) ∧ (∀ o, o < 127 ∨ 464 ≤ o → Mx1 o = Mx o) ∧
    ∀ N N' : Mem, N 2 = Mm 2 → N 0 3 = Mm 0 3 → (∀ k, k < 490 → N 4 k = A k) → Kpd N N' n → HR Mx1 N' := by
  obtain ⟨n, x, a1, a2, a3, a4, a5, a6⟩ := hH
  obtain ⟨Mx1, b1, b2, b3, b4, b5⟩ := x_push ht a3 a4 a1 a2 hR
  refine ⟨n, Mx1, a1, a5, b1, fun o ho => b2 o (by omega) (by omega), fun N N' h2 h3 h4 hK => ?_⟩
  obtain ⟨k1, k2, k3, k4, k5⟩ := hK
  refine ⟨min (n + 1) 8, (x + 1) % 8, by omega, by omega, b4, b5, k3, fun i hi => ?_⟩
  by_cases e : i = min (n + 1) 8 - 1
  · have e1 : ((x + 1) % 8 + 8 - min (n + 1) 8 + i) % 8 = x := by omega
    rw [e1]
    have hs : ∀ k, k < 490 → Sl N' i k = A k := fun k hk => by
      unfold Sl; rw [e, k5 k hk, h4 k hk]
    exact ⟨RS_cong hs b3, Val_cong hs hV⟩
  · obtain ⟨c1, c2⟩ := a6 (i + (n + 1 - min (n + 1) 8)) (by omega)
    have e1 : ((x + 1) % 8 + 8 - min (n + 1) 8 + i) % 8 = (x + 8 - n + (i + (n + 1 - min (n + 1) 8))) % 8 := by omega
    have hs : ∀ k, k < 490 → Sl N' i k = Sl Mm (i + (n + 1 - min (n + 1) 8)) k := fun k hk => by
      unfold Sl; rw [k4 i k (by omega) hk, h2]
    rw [e1]
    refine ⟨RS_cong hs (RS_frame (fun o h5 h6 => b2 o ?_ (by omega)) c1), Val_cong hs c2⟩
    have hne : (x + 8 - n + (i + (n + 1 - min (n + 1) 8))) % 8 ≠ x := by omega
    omega
/-- one room for both: the class pushes its state, the reference keeps what it tried -/
theorem keep_ok {Mx N : Mem} {t : Nat} {A : Ar} (ht : t + 42 ≤ 127) (hH : HR Mx N) (hT : Rest Mx N) (hR : RS Mx t A) (hV : Val A) (h4 : ∀ k, k < 490 → N 4 k = A k) : ∃ Mx1 N' : Mem, fX1_push Mx t = some ((), Mx1) ∧ fX10_keeps N = some ((), N') ∧ (∀ r, r ≠ 0 → r ≠ 2 → N' r = N r) ∧ (∀ k, k ≠ 3 → N' 0 k = N 0 k) ∧ HR Mx1 N' ∧ Rest Mx1 N' ∧ (∀ o, o < 127 ∨ 464 ≤ o → Mx1 o = Mx o) := by
  obtain ⟨n, Mx1, a1, a2, a3, a4, a5⟩ := HR_push ht hH hR hV
  obtain ⟨N', b1, b2⟩ := m_keeps N a2 a1
  have hh := a5 N N' rfl rfl h4 b2
  obtain ⟨k1, k2, k3, k4, k5⟩ := b2
  exact ⟨Mx1, N', a3, b1, k1, k2, hh, Rest_frame (fun k _ _ => by rw [a4 0 (by omega)]) (fun o _ _ => a4 o (by omega)) (fun o _ => a4 o (by omega)) (fun k hk => k2 k (by omega)) (k1 3 (by omega) (by omega)) (k1 5 (by omega) (by omega)) (k1 6 (by omega) (by omega)) hT, a4⟩
theorem ends_ok {Mx N : Mem} {A : Ar} (hH : HR Mx N) (hT : Rest Mx N) (hR : RS Mx 1 A) (hV : Val A) (h4 : ∀ k, k < 490 → N 4 k = A k) : ∃ Mx1 N' : Mem, fX1_push Mx 1 = some ((), Mx1) ∧ fX10_ends N 0 = some (N 0 21, N') ∧ (∀ r, r ≠ 0 → r ≠ 2 → N' r = N r) ∧ (∀ k, k ≠ 3 → N' 0 k = N 0 k) ∧ HR Mx1 N' ∧ Rest Mx1 N' ∧ (∀ o, o < 127 ∨ 464 ≤ o → Mx1 o = Mx o) := by
  obtain ⟨Mx1, N', a1, a2, a3, a4, a5, a6, a7⟩ := keep_ok (t := 1) (by omega) hH hT hR hV h4
  refine ⟨Mx1, N', a1, ?_, a3, a4, a5, a6, a7⟩
  unfold fX10_ends
  rw [if_pos (by decide), a2, cl_e, a4 21 (by omega)]
theorem ends_fail {Mx N : Mem} {A : Ar} (hH : HR Mx N) (hT : Rest Mx N) (hR : RS Mx 1 A) (hV : Val A) (h4 : ∀ k, k < 490 → N 4 k = A k) (c : Int32) (hc : ¬ c ≤ 0) : ∃ N' : Mem, fX10_ends N c = some (0, N') ∧ N' 0 0 = c ∧ Inv Mx N' := by
  obtain ⟨N1, a1, a2, a3, a4⟩ := m_back N c hc
  have e : ∀ k, k < 490 → mset N1 0 0 c 1 k = A k := fun k hk => by rw [ms_other _ _ _ (by omega), a3 k hk, h4 k hk]
  have hm : MF N (mset N1 0 0 c) := MF.set0 ⟨fun k hk => by rw [a2 0 (by omega)], a2 2 (by omega), a2 3 (by omega), a2 5 (by omega), a2 6 (by omega)⟩ (by omega)
  exact ⟨mset N1 0 0 c, a1, by rw [ms_at, if_pos ⟨rfl, rfl⟩], RS_cong e hR, Val_cong e hV, hH.fr (XF.rf Mx) hm, hT.fr (XF.rf Mx) hm⟩
theorem changes_ok {Mx Mm : Mem} (I : Inv Mx Mm) : ∃ Mx1 N' : Mem, fX1_push Mx 1 = some ((), Mx1) ∧ fX10_changes Mm = some ((), N') ∧ (∀ r, r ≠ 0 → r ≠ 2 → r ≠ 4 → N' r = Mm r) ∧ (∀ k, k ≠ 3 → N' 0 k = Mm 0 k) ∧ HR Mx1 N' ∧ Rest Mx1 N' ∧ RS Mx1 1 (Mm 1) ∧ (∀ o, o < 127 ∨ 464 ≤ o → Mx1 o = Mx o) := by
  obtain ⟨hR, hV, hH, hT⟩ := I
  obtain ⟨n, Mx1, a1, a2, a3, a4, a5⟩ := HR_push (t := 1) (by omega) hH hR hV
  obtain ⟨M1, N', b1, ⟨c1, c2, c3⟩, b2⟩ := m_changes Mm a2 a1
  have hh := a5 M1 N' (c1 2 (by omega)) (by rw [c1 0 (by omega)]) (fun k hk => c2 k hk) b2
  obtain ⟨k1, k2, k3, k4, k5⟩ := b2
  refine ⟨Mx1, N', a3, b1, fun r h0 h2 h4 => (k1 r h0 h2).trans (c1 r h4), fun k hk => (k2 k hk).trans (by rw [c1 0 (by omega)]), hh, ?_, RS_frame (fun o _ _ => a4 o (by omega)) hR, a4⟩
  exact Rest_frame (fun k _ _ => by rw [a4 0 (by omega)]) (fun o _ _ => a4 o (by omega)) (fun o _ => a4 o (by omega)) (fun k hk => (k2 k (by omega)).trans (by rw [c1 0 (by omega)])) ((k1 3 (by omega) (by omega)).trans (c1 3 (by omega))) ((k1 5 (by omega) (by omega)).trans (c1 5 (by omega))) ((k1 6 (by omega) (by omega)).trans (c1 6 (by omega))) hT
/-- tries, at the head of a call that may be taken back -/
theorem tries_ok {Mx Mm : Mem} (I : Inv Mx Mm) : ∃ N : Mem, fX10_tries Mm = some ((), N) ∧ N 0 0 = 0 ∧ N 1 = Mm 1 ∧ MF Mm N ∧ (∀ k, k < 490 → N 4 k = Mm 1 k) ∧ HR Mx N ∧ Rest Mx N := by
  obtain ⟨N, a1, a2, a3, a4⟩ := m_tries Mm
  have hm : MF Mm N := MF.tr ((MF.rf Mm).set0 (k := 0) (v := 0) (by omega)) ⟨fun k _ => by rw [a2 0 (by omega)], a2 2 (by omega), a2 3 (by omega), a2 5 (by omega), a2 6 (by omega)⟩
  refine ⟨N, a1, by rw [a2 0 (by omega), ms_at, if_pos ⟨rfl, rfl⟩], by rw [a2 1 (by omega), ms_other _ _ _ (by omega)], hm, fun k hk => by rw [a3 k hk, ms_other _ _ _ (by omega)], I.2.2.1.fr (XF.rf Mx) hm, I.2.2.2.fr (XF.rf Mx) hm⟩
/-! arguments -/
theorem arg_in {x p : Int32} (hx : bt x 0 2000000) (h : (decide (0 ≤ p) && decide (p ≤ x - 1)) = true) : ∃ j : Nat, p = nI j ∧ (j : Int) < x.toInt ∧ nI j < x := by
  rw [Bool.and_eq_true, decide_eq_true_iff, decide_eq_true_iff] at h
  obtain ⟨h1, h2⟩ := h
  have h3 : (x - 1).toInt = x.toInt - 1 := ti_sub (by have := hx.1; show _ ≤ x.toInt - 1; omega) (by have := hx.2; show x.toInt - 1 < _; omega)
  rw [ti_le, h3] at h2
  rw [ti_le] at h1
  have h0 : Int32.toInt 0 = 0 := rfl
  rw [h0] at h1
  obtain ⟨j, rfl, h4, h5⟩ := bt_nI (x := p) (hi := 2000000) ⟨h1, by have := hx.2; omega⟩
  rw [nI_toInt h5] at h2
  exact ⟨j, rfl, by omega, by rw [ti_lt, nI_toInt h5]; omega⟩
theorem in_of {x : Int32} {j : Nat} (hx : bt x 0 2000000) (hl : nI j < x) (h5 : j < 2 ^ 31) : (decide (0 ≤ nI j) && decide (nI j ≤ x - 1)) = true := by
  have h3 : (x - 1).toInt = x.toInt - 1 := ti_sub (by have := hx.1; show _ ≤ x.toInt - 1; omega) (by have := hx.2; show x.toInt - 1 < _; omega)
  rw [ti_lt, nI_toInt h5] at hl
  rw [Bool.and_eq_true, decide_eq_true_iff, decide_eq_true_iff, ti_le, ti_le, h3, nI_toInt h5]
  have h0 : Int32.toInt 0 = 0 := rfl
  omega
theorem dec_ct {a b x : Int32} (h : (decide (a ≤ x) && decide (x ≤ b)) = true) : bt x a.toInt b.toInt := by
  rw [Bool.and_eq_true, decide_eq_true_iff, decide_eq_true_iff, ti_le, ti_le] at h
  exact h
