/-! call: make -/
theorem fin_ref {Mx M' N K : Mem} {r c : Int32} (IN : Inv Mx N) (hx : ∀ o, o ≠ 0 → (o < 465 ∨ 472 ≤ o) → M' o = Mx o) (h0 : ∀ k, k ≠ 9 → M' 0 k = Mx 0 k) (h9 : M' 0 9 = r) (hr : bt r 0 8) (hK : ∀ o, o = 2 ∨ o = 3 ∨ o = 5 ∨ o = 6 → K o = N o) (hK0 : ∀ k, K 0 k = N 0 k) (hK1 : ∀ k, k < 490 → K 1 k = N 1 k) : Inv M' (mset (mset K 0 11 r) 0 0 c) := by
  obtain ⟨hR, hV, hH, ⟨s1, s2⟩, ⟨l, t1, t2, t3, t4⟩, ⟨u, u1, u2, u3, u4⟩, w1, w2, w3, w4⟩ := IN
  have e1 : ∀ k, k < 490 → mset (mset K 0 11 r) 0 0 c 1 k = N 1 k := fun k hk => by rw [ms_other _ _ _ (by omega), ms_other _ _ _ (by omega)]; exact hK1 k hk
  have eo : ∀ o, o = 2 ∨ o = 3 ∨ o = 5 ∨ o = 6 → mset (mset K 0 11 r) 0 0 c o = N o := fun o ho => by rw [ms_other _ _ _ (by omega), ms_other _ _ _ (by omega)]; exact hK o ho
  have e0 : ∀ k, k ≠ 0 → k ≠ 11 → mset (mset K 0 11 r) 0 0 c 0 k = N 0 k := fun k h0 h1 => by rw [ms_at, if_neg (by omega), ms_at, if_neg (by omega)]; exact hK0 k
  refine ⟨RS_cong e1 (RS_frame (fun o _ _ => hx o (by omega) (by omega)) hR), Val_cong e1 hV, HR_frame (fun o _ _ => hx o (by omega) (by omega)) (eo 2 (by omega)) (e0 3 (by omega) (by omega)) hH, ⟨by rw [h0 8 (by omega), e0 5 (by omega) (by omega)]; exact s1, ?_⟩, ⟨l, t1, by rw [hx 472 (by omega) (by omega)]; exact t2, by rw [e0 8 (by omega) (by omega)]; exact t3, fun k hk => by rw [hx 473 (by omega) (by omega), eo 5 (by omega)]; exact t4 k hk⟩, ⟨u, u1, by rw [hx 477 (by omega) (by omega)]; exact u2, by rw [e0 13 (by omega) (by omega)]; exact u3, fun k hk => by rw [hx 478 (by omega) (by omega), eo 6 (by omega)]; exact u4 k hk⟩, by rw [h9, ms_at, if_neg (by omega), ms_at, if_pos ⟨rfl, rfl⟩], by rw [h0 10 (by omega), e0 10 (by omega) (by omega)]; exact w2, by rw [ms_at, if_neg (by omega), ms_at, if_pos ⟨rfl, rfl⟩]; exact hr, by rw [e0 10 (by omega) (by omega)]; exact w4⟩
  rw [e0 5 (by omega) (by omega), eo 3 (by omega)]
  rcases s2 with s2 | ⟨s2, s3, s4⟩
  · exact Or.inl s2
  · exact Or.inr ⟨s2, RS_frame (fun o _ _ => hx o (by omega) (by omega)) s3, s4⟩
section P89
variable {A : Ar} {J j n L c : Nat} {w : List Nat}
/-- what both sides know behind the colouring -/
def LO (A : Ar) (j n L c : Nat) (w : List Nat) : Prop := VJ A j ∧ A (ix j 2) = nI n ∧ 1 ≤ n ∧ n ≤ 6 ∧ A 0 = nI c ∧ 30 ≤ c ∧ c ≤ 120 ∧ Min A j n L w
theorem LO.col (h : LO A j n L c w) : w.length = n ∧ (∀ g, g < n → phs w g < L) ∧ sm6 w ∧ 1 ≤ L ∧ L ≤ 6 ∧ (∀ a b, a < n → b < n → cf A j a b = true → phs w a ≠ phs w b) := by
  obtain ⟨v, hn, n1, n6, hc, c1, c2, m1, m2, m3, m4⟩ := h
  obtain ⟨f1, f2, f3⟩ := fnd_len (cf A j) L n [] w m3
  rw [List.length_nil, Nat.zero_add] at f1
  rw [List.length_nil] at f3
  have hw : ∀ g, g < n → phs w g < L := fun g hg => (f3 g (by omega) (by omega)).1
  refine ⟨f1, hw, fun k hk => by have := hw k (by omega); unfold phs at this; omega, m1, by omega, fun a b ha hb hab he => ?_⟩
  obtain ⟨v1, v2, v3, _⟩ := v.2.2.2.2.2.2.2 a (by omega) b (by omega)
  have hk := of_decide_eq_true hab
  have hne := (v3 hk).1
  by_cases z : b < a
  · have := (f3 a (by omega) (by omega)).2 b z he.symm
    rw [hab] at this; cases this
  · have := (f3 b (by omega) (by omega)).2 a (by omega) he
    rw [show cf A j b a = true from decide_eq_true (v2 hk)] at this; cases this
def lef (A : Ar) (j n L c : Nat) (w : List Nat) : Nat := c - stt (lgn A j w n) (psn A j w n L) L
/-- the lengths behind the spreading -/
def lfn (A : Ar) (j n L c : Nat) (w : List Nat) : Nat → Nat := (rnd (c - 5) L (lgn A j w n, lef A j n L c w) (lef A j n L c w)).1
theorem LO.b200 (h : LO A j n L c w) : (∀ k, lgn A j w n k ≤ 200) ∧ lef A j n L c w ≤ 200 := by
  obtain ⟨v, hn, n1, n6, hc, c1, c2, m⟩ := h
  exact ⟨fun k => by have := (lg_e (w := w) v n6 k).2; omega, by unfold lef; omega⟩
theorem LO.mk (h : LO A j n L c w) (hs : stt (lgn A j w n) (psn A j w n L) L ≤ c) : MK A j n L c w (lfn A j n L c w) (psn A j w n L) := by
  obtain ⟨k1, k2, k3, k4, k5, k6⟩ := h.col
  obtain ⟨v, hn, n1, n6, hc, c1, c2, m⟩ := h
  refine ⟨hc, c2, c1, ?_, fun g hg => ⟨k2 g hg, ?_⟩, k6⟩
  · have := rnd_tot (most := c - 5) (L := L) (psn A j w n L) (s := (lgn A j w n, lef A j n L c w)) (lef A j n L c w)
    dsimp only at this
    have e : sm (fun p => lgn A j w n p + psn A j w n L p) L = stt (lgn A j w n) (psn A j w n L) L := rfl
    have e2 : sm (fun p => (rnd (c - 5) L (lgn A j w n, lef A j n L c w) (lef A j n L c w)).1 p + psn A j w n L p) L = stt (lfn A j n L c w) (psn A j w n L) L := rfl
    rw [e, e2] at this
    have hl : lef A j n L c w = c - stt (lgn A j w n) (psn A j w n L) L := rfl
    omega
  · have h1 : lgn A j w n (phs w g) ≤ lfn A j n L c w (phs w g) := rnd_ge (s := (lgn A j w n, lef A j n L c w)) (phs w g) _
    have h2 : (A (gx j g 1)).toInt ≤ (LGr A j w (phs w g) n).toInt := fm_ge (fun h => decide (phs w h = phs w g)) (fun h => A (gx j h 1)) 0 (decide_eq_true rfl) n hg
    have h3 := (v.2.2.2.2.2.2.1 g (by omega)).2.2.2.2.2.2.2.2.1 (lt_sz hn n6 hg)
    obtain ⟨h4, h5⟩ := lg_e (w := w) v n6 (phs w g)
    rw [h4, nI_toInt (by omega)] at h2
    omega
theorem x_layOut {M : Mem} (hR : RJ M J A j) (hl : nI j < A 2) (hJ : J + 10 ≤ 465) (lo : LO A j n L c w) : ∃ M', fX3_layOut M J (nI c) = some (if stt (lgn A j w n) (psn A j w n L) L ≤ c then (if icA A j w (lfn A j n L c w) (psn A j w n L) n = true then 0 else 7) else 6, M') ∧ (∀ o, o < 465 ∨ 470 ≤ o → M' o = M o) ∧ (stt (lgn A j w n) (psn A j w n L) L ≤ c → M' 465 0 = nI L ∧ OA M' 466 w ∧ (∀ p, p < L → M' 467 p = nI (stt (lfn A j n L c w) (psn A j w n L) p)) ∧ ∀ p, p < L → M' 468 p = nI (lfn A j n L c w p)) := by
  obtain ⟨k1, k2, k3, k4, k5, k6⟩ := lo.col
  obtain ⟨b1, b2⟩ := lo.b200
  obtain ⟨v, hn, n1, n6, hc, c1, c2, m⟩ := id lo
  have hc0 : 0 < (A 0).toInt := by rw [hc, nI_toInt (by omega)]; omega
  obtain ⟨M2, d1, d2, d3, d4⟩ := x_divide hR hl v hn n6 hJ m
  have R2 : RJ M2 J A j := RJ_copy (fun o k ho _ => by rw [d2 (J + o) (by omega) (by omega)]) hR
  obtain ⟨M4, e1, e2, e3, e4⟩ := x_measure R2 hl hn n6 hJ ⟨k4, k5⟩ d3 d4 k1 k2
  have R4 : RJ M4 J A j := RJ_copy (fun o k ho _ => by rw [e2 (J + o) (by omega) (by omega)]) R2
  have h465 : M4 465 0 = nI L := by rw [e2 465 (by omega) (by omega)]; exact d3
  have O4 : OA M4 466 w := fun k hk => by rw [e2 466 (by omega) (by omega)]; exact d4 k hk
  have f4 : ∀ o, o < 465 ∨ 470 ≤ o → M4 o = M o := fun o ho => (e2 o (by omega) (by omega)).trans (d2 o (by omega) (by omega))
  unfold fX3_layOut
  rw [d1, cl_e, e1, cl_e, jn_e]
  have main : ∀ k6 : Int32 → Option (Int32 × Mem), lp (fX3_layOut_L1 M4 k6) FU (nI c, 0) = k6 (lfo A j w n L L) := fun k6 => by
    refine lp_at (fun p => (lfo A j w n L p, nI p)) L (by omega) (by show (nI c, (0 : Int32)) = (A 0, nI 0); rw [hc]; rfl) (fun p hp k => ?_) (fun k => ?_)
    · simp only [fX3_layOut_L1]
      rw [h465, if_neg (nI_ge hp (by omega)), grd_T (inb_nI (by omega) (by omega)), grd_T (inb_nI (by omega) (by omega)), nI_clamp (by omega), e3 p (by omega), e4 p (by omega), bnd_e, bnd_e, nI_1]
      rfl
    · simp only [fX3_layOut_L1]
      rw [h465, if_pos (nI_le (Nat.le_refl _) (by omega))]
  rw [main]
  have hlf := lfo_e (L := L) (w := w) v n6 hc c2 L k5
  have z0 : Int32.toInt 0 = 0 := rfl
  by_cases hs : stt (lgn A j w n) (psn A j w n L) L ≤ c
  · have el : lfo A j w n L L = nI (lef A j n L c w) := by
      rw [ti_eq, hlf, nI_toInt (by omega)]
      unfold lef; omega
    have es : slm M4 468 L (lgn A j w n) = M4 := slm_self (fun p hp => by rw [e3 p (by omega)]; exact (lg_e v n6 p).1)
    have e5 : nI c - 5 = nI (c - 5) := nI_sub (a := c) (b := 5) (by omega)
    have sp := x_spread (M := M4) (most := c - 5) (l := lgn A j w n) (left := lef A j n L c w) h465 k5 (by omega) b1 b2
    rw [es] at sp
    obtain ⟨M8, hM8⟩ : ∃ z, z = slm M4 468 L (lfn A j n L c w) := ⟨_, rfl⟩
    have g8 : ∀ o, o ≠ 468 → M8 o = M4 o := fun o ho => by rw [hM8]; exact slm_o _ _ ho
    have g468 : ∀ p, p < L → M8 468 p = nI (lfn A j n L c w p) := fun p hp => by rw [hM8]; exact slm_at _ _ _ hp
    obtain ⟨M10, s1, s2, s3⟩ := x_starts (M := M8) (l := lfn A j n L c w) (ps := psn A j w n L) (by rw [g8 465 (by omega)]; exact h465) k5 g468 (fun p hp => by rw [g8 469 (by omega), e4 p (by omega)]; exact (ps_e v n6 p).1)
    have g10 : ∀ o, o ≠ 467 → o ≠ 468 → M10 o = M4 o := fun o o1 o2 => (s2 o o1).trans (g8 o o2)
    have O10 : OA M10 466 w := fun k hk => by rw [g10 466 (by omega) (by omega)]; exact O4 k hk
    have h8 : ∀ p, p < L → M10 468 p = nI (lfn A j n L c w p) := fun p hp => by rw [s2 468 (by omega)]; exact g468 p hp
    have cl := x_isClear (M := M10) (l := lfn A j n L c w) (ps := psn A j w n L) (RJ_copy (fun o k ho _ => by rw [g10 (J + o) (by omega) (by omega)]) R4) hl hn n6 hc0 O10 k1 k2 k5 s3 h8
    rw [hc] at cl
    refine ⟨M10, ?_, fun o ho => (g10 o (by omega) (by omega)).trans (f4 o ho), fun _ => ⟨by rw [g10 465 (by omega) (by omega)]; exact h465, O10, s3, h8⟩⟩
    rw [el, if_pos (nI_pos' (by omega)), e5, sp, cl_e, show (rnd (c - 5) L (lgn A j w n, lef A j n L c w) (lef A j n L c w)).1 = lfn A j n L c w from rfl, ← hM8, s1, cl_e, cl, clp_e, jn_e, if_pos hs, b01_ite]
    split <;> rfl
  · refine ⟨M4, ?_, f4, fun z => absurd z hs⟩
    rw [if_neg (by rw [ti_le, z0, hlf]; omega), if_neg hs]
end P89
