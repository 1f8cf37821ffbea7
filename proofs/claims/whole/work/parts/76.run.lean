/-! call: run : the class's second, the call -/
section P76
variable {A : Ar} {j : Nat}
theorem LT_at {p : Nat} {s : Int32} {g w : Nat} (hw : w < 13) : ∀ i, g < i → LT A j p s i (gx j g w) = lg1 A (LT A j p s g) j p s g (gx j g w)
  | 0, h => absurd h (by omega)
  | i + 1, h => by
    by_cases e : i = g
    · subst e; rfl
    · refine (lg1_o (by unfold gx; omega) (by unfold gx; omega) ⟨fun z => ?_, fun z => ?_, fun z => ?_⟩).trans (LT_at hw i (by omega))
      · exact e (gx_inj hw (by omega) z).1.symm
      · exact e (gx_inj hw (by omega) z).1.symm
      · exact e (gx_inj hw (by omega) z).1.symm
theorem gx_ne {g w w' : Nat} (hw : w < 13) (hw' : w' < 13) (h : w ≠ w') : gx j g w ≠ gx j g w' := fun z => h (gx_inj hw hw' z).2
theorem lg1_b {B : Ar} {p : Nat} {s : Int32} {g : Nat} {T : Int} (hT : T ≤ 99999) (e3 : B (gx j g 3) = A (gx j g 3)) (e4 : B (gx j g 4) = A (gx j g 4)) (e5 : B (gx j g 5) = A (gx j g 5)) (h3 : bt (A (gx j g 3)) 0 T) (h4 : bt (A (gx j g 4)) (-1) T) (h5 : bt (A (gx j g 5)) 0 1) : bt (lg1 A B j p s g (gx j g 3)) 0 (T + 1) ∧ bt (lg1 A B j p s g (gx j g 4)) (-1) (T + 1) ∧ bt (lg1 A B j p s g (gx j g 5)) 0 1 := by
  have z0 : Int32.toInt 0 = 0 := rfl
  have z1 : Int32.toInt 1 = 1 := rfl
  have zm : Int32.toInt (-1) = -1 := by decide
  have b3 : ∀ v : Int32, bt v 0 1 → bt (A (gx j g 3) + v) 0 (T + 1) := fun v hv => by
    have := h3.1; have := h3.2; have := hv.1; have := hv.2
    unfold bt; rw [ti_add (by omega) (by omega)]; omega
  have c3 : bt (A (gx j g 3)) 0 (T + 1) := ⟨h3.1, by have := h3.2; omega⟩
  have c4 : bt (A (gx j g 4)) (-1) (T + 1) := ⟨h4.1, by have := h4.2; omega⟩
  have o0 : bt (0 : Int32) 0 1 := by unfold bt; omega
  have o1 : bt (1 : Int32) 0 1 := by unfold bt; omega
  have om : bt (-1 : Int32) (-1) (T + 1) := by have := h4.1; have := h4.2; unfold bt; omega
  have n34 : gx j g 3 ≠ gx j g 4 := gx_ne (by omega) (by omega) (by omega)
  have n43 : gx j g 4 ≠ gx j g 3 := gx_ne (by omega) (by omega) (by omega)
  have n35 : gx j g 3 ≠ gx j g 5 := gx_ne (by omega) (by omega) (by omega)
  have n53 : gx j g 5 ≠ gx j g 3 := gx_ne (by omega) (by omega) (by omega)
  have n45 : gx j g 4 ≠ gx j g 5 := gx_ne (by omega) (by omega) (by omega)
  have n54 : gx j g 5 ≠ gx j g 4 := gx_ne (by omega) (by omega) (by omega)
  have m4 : ∀ w, gx j g w ≠ 4 := fun w => by unfold gx; omega
  have m5 : ∀ w, gx j g w ≠ 5 := fun w => by unfold gx; omega
  unfold lg1
  split
  · split
    · split
      · split
        · refine ⟨?_, ?_, ?_⟩
          · rw [pk_us]; exact b3 _ o1
          · rw [pk_un n43, pk_us]; exact om
          · rw [pk_un n53, pk_un n54, pk_un (m5 5), pk_un (m4 5), pk_us]; exact o1
        · refine ⟨?_, ?_, ?_⟩
          · rw [pk_us]; exact b3 _ o0
          · rw [pk_un n43, pk_un n45, e4]; exact c4
          · rw [pk_un n53, pk_us]; exact o0
      · refine ⟨?_, ?_, ?_⟩
        · rw [pk_us]; exact b3 _ h5
        · rw [pk_un n43, e4]; exact c4
        · rw [pk_un n53, e5]; exact h5
    · refine ⟨?_, ?_, ?_⟩
      · rw [pk_us]; exact b3 _ o1
      · rw [pk_un n43, e4]; exact c4
      · rw [pk_un n53, e5]; exact h5
  · rw [e3, e4, e5]; exact ⟨c3, c4, h5⟩
/-- block j of the state behind a second -/
theorem psA_j (V : Val A) {c : Nat} (hc : A 2 = nI c) (h4 : c ≤ 4) (hj : j < c) {k : Nat} (hk : k < 121) : psA A c (ix j k) = lja (chg A j) j (ix j k) := by
  have ok : ∀ j, j < c → OKJ (cA A c) j := fun j hj => cA_ok V hc h4 hj
  obtain ⟨a1, a2, a3, a4, a5, a6⟩ := rA_all ok c (Nat.le_refl _)
  unfold psA
  rw [pk_un (by unfold ix; omega), a3 j k hk hj]
  exact lja_cong (cA_C hj) (chg_ok V (by omega) (by rw [hc]; exact nI_lt hj (by omega))) hk
theorem psA_dead (V : Val A) {c : Nat} (hc : A 2 = nI c) (h4 : c ≤ 4) (hj : c ≤ j) {k : Nat} (hk : k < 121) : psA A c (ix j k) = A (ix j k) := by
  have ok : ∀ j, j < c → OKJ (cA A c) j := fun j hj => cA_ok V hc h4 hj
  obtain ⟨a1, a2, a3, a4, a5, a6⟩ := rA_all ok c (Nat.le_refl _)
  unfold psA
  rw [pk_un (by unfold ix; omega), a2 j k hk hj, cA_j hk c hj]
theorem psA_n (V : Val A) {c : Nat} (hc : A 2 = nI c) (h4 : c ≤ 4) {k : Nat} (hk : k < 3) : psA A c k = A k := by
  have ok : ∀ j, j < c → OKJ (cA A c) j := fun j hj => cA_ok V hc h4 hj
  obtain ⟨a1, a2, a3, a4, a5, a6⟩ := rA_all ok c (Nat.le_refl _)
  unfold psA
  rw [pk_un (by omega), a1 k (by omega), cA_n (by omega)]
theorem psA_3 (c : Nat) : psA A c 3 = A 3 + 1 := pk_us ..
theorem psA_s (V : Val A) {c : Nat} (hc : A 2 = nI c) (h4 : c ≤ 4) : psv A c = isum (fun j => sdo (chg A j) j) c ∧ psA A c 4 = A 4 + isum (fun j => sdo (chg A j) j) c ∧ psA A c 5 = A 5 + isum (fun j => dWo (chg A j) j) c := by
  have ok : ∀ j, j < c → OKJ (cA A c) j := fun j hj => cA_ok V hc h4 hj
  obtain ⟨a1, a2, a3, a4, a5, a6⟩ := rA_all ok c (Nat.le_refl _)
  have ok2 : ∀ j, j < c → OKJ (chg A j) j := fun j hj => chg_ok V (by omega) (by rw [hc]; exact nI_lt hj (by omega))
  have e1 : isum (sdo (cA A c)) c = isum (fun j => sdo (chg A j) j) c := isum_cong c (fun j hj => sdo_cong (cA_C hj) (ok2 j hj))
  have e2 : isum (dWo (cA A c)) c = isum (fun j => dWo (chg A j) j) c := isum_cong c (fun j hj => dWo_cong (cA_C hj) (ok2 j hj))
  refine ⟨a4.trans e1, ?_, ?_⟩
  · unfold psA; rw [pk_un (by omega), a5, cA_n (by omega), e1]
  · unfold psA; rw [pk_un (by omega), a6, cA_n (by omega), e2]
theorem isum_nI (f : Nat → Nat) : ∀ c, isum (fun j => nI (f j)) c = nI (sm f c)
  | 0 => rfl
  | c + 1 => by unfold isum sm; rw [isum_nI f c, nI_add]
theorem VJ_sec (V : Val A) {c : Nat} (hc : A 2 = nI c) (h4 : c ≤ 4) (hj : j < c) (h3 : (A 3).toInt < 99999) : VJ (psA A c) j := by
  have hl : nI j < A 2 := by rw [hc]; exact nI_lt hj (by omega)
  have hok := chg_ok V (j := j) (by omega) hl
  obtain ⟨v1, v2, v3, v4, v5, v6, v7, v8⟩ := V.2.1 j (by omega) hl
  have b := fun k (hk : k < 121) => psA_j V hc h4 hj (k := k) hk
  have e0 : psA A c 0 = A 0 := psA_n V hc h4 (by omega)
  have z1 : Int32.toInt 1 = 1 := rfl
  have zm : Int32.toInt (-1) = -1 := by decide
  have hT := V.1.2.2.2.1.1
  have e3 : (psA A c 3).toInt = (A 3).toInt + 1 := by rw [psA_3, ti_add (by omega) (by omega)]; rfl
  have li : ∀ w, w < 7 → lja (chg A j) j (ix j w) = chg A j (ix j w) := fun w hw => LT_i hw
  have ei : ∀ w, w < 7 → w ≠ 3 → w ≠ 4 → psA A c (ix j w) = A (ix j w) := fun w hw _ _ => by
    rw [b w (by omega), li w hw, chg_o (by unfold ix; omega)]
  have lg : ∀ g w, g < 6 → w < 13 → (w < 3 ∨ 6 ≤ w) → psA A c (gx j g w) = A (gx j g w) := fun g w hg hw h => by
    rw [ix_gx, b _ (by omega), ← ix_gx]
    show LT _ _ _ _ _ _ = _
    rw [LT_g hw (by omega), chg_g hw (by omega)]
  have ec : ∀ x y, x < 6 → y < 6 → kl (psA A c) j x y = kl A j x y := fun x y hx hy => by
    unfold kl
    rw [ix_cx, b _ (by omega), ← ix_cx]
    show LT _ _ _ _ _ _ = _
    rw [LT_c hok.2.1, chg_c]
  refine ⟨by rw [ei 0 (by omega) (by omega) (by omega)]; exact v1, by rw [ei 1 (by omega) (by omega) (by omega), e0]; exact v2, by rw [ei 2 (by omega) (by omega) (by omega)]; exact v3, ?_, ?_, fun d hd => by rw [ei (5 + d) (by omega) (by omega) (by omega), ei 2 (by omega) (by omega) (by omega)]; exact v6 d hd, fun g hg => ?_, fun x hx y hy => VC_cong e0 (ei 2 (by omega) (by omega) (by omega)) (ec x y hx hy) (ec y x hy hx) (fun _ p hp => ⟨lg x _ hx (by omega) (by omega), lg y _ hy (by omega) (by omega), lg x _ hx (by omega) (by omega), lg y _ hy (by omega) (by omega)⟩) (v8 x hx y hy)⟩
  · rw [b 3 (by omega), li 3 (by omega), hok.2.2.2.2]
    have := hok.2.2.2.1
    unfold bt; rw [nI_toInt (by omega)]; omega
  · rw [b 4 (by omega), li 4 (by omega)]
    unfold chg
    split
    · try dsimp only
      rw [if_neg (by unfold ix; omega), if_pos rfl]
      unfold bt; omega
    · exact v5
  · obtain ⟨g0, g1, g2, g3, g4, g5, g6, g7, g8, g9⟩ := v7 g hg
    have hC := hok.1 g hg
    have ew : ∀ w, w < 13 → psA A c (gx j g w) = lja (chg A j) j (gx j g w) := fun w hw => by rw [ix_gx, b _ (by omega)]
    have c3 : chg A j (gx j g 3) = A (gx j g 3) := chg_g (by omega) (by omega)
    have c4 : chg A j (gx j g 4) = A (gx j g 4) := chg_g (by omega) (by omega)
    have key : bt (psA A c (gx j g 3)) 0 ((A 3).toInt + 1) ∧ bt (psA A c (gx j g 4)) (-1) ((A 3).toInt + 1) ∧ bt (psA A c (gx j g 5)) 0 1 := by
      rw [ew 3 (by omega), ew 4 (by omega), ew 5 (by omega)]
      unfold lja
      by_cases h : g < szo (chg A j) j
      · rw [LT_at (by omega) _ h, LT_at (by omega) _ h, LT_at (by omega) _ h]
        exact lg1_b (by omega) (LT_g (by omega) (by omega)) (LT_g (by omega) (by omega)) (LT_g (by omega) (by omega)) (by rw [c3]; exact g3) (by rw [c4]; exact g4) hC.2.2
      · rw [LT_g (by omega) (by omega), LT_g (by omega) (by omega), LT_g (by omega) (by omega), c3, c4]
        exact ⟨⟨g3.1, by have := g3.2; omega⟩, ⟨g4.1, by have := g4.2; omega⟩, hC.2.2⟩
    refine ⟨by rw [lg g 0 hg (by omega) (by omega)]; exact g0, by rw [lg g 1 hg (by omega) (by omega)]; exact g1, by rw [lg g 2 hg (by omega) (by omega)]; exact g2, by rw [e3]; exact key.1, by rw [e3]; exact key.2.1, key.2.2, fun p hp => by rw [lg g (6 + p) hg (by omega) (by omega)]; exact g6 p hp, fun p hp => ?_, fun hl => ?_, fun hl w hw => ?_⟩
    · unfold fs ln
      rw [lg g (9 + 2 * p) hg (by omega) (by omega), lg g (10 + 2 * p) hg (by omega) (by omega), e0]; exact g7 p hp
    · rw [lg g 1 hg (by omega) (by omega)]; exact g8 (by rw [← ei 2 (by omega) (by omega) (by omega)]; exact hl)
    · rw [ei 2 (by omega) (by omega) (by omega)] at hl
      have hz := g9 hl w hw
      rw [ew w hw]
      have hng : szo (chg A j) j ≤ g := by
        have h2 := hok.2.2.1
        rw [chg_o (by unfold ix; omega)] at h2
        rw [h2] at hl
        by_cases z : g < szo (chg A j) j
        · exact absurd (nI_lt z (by have := hok.2.1; omega)) hl
        · omega
      unfold lja
      rw [LT_g hw (Or.inl hng)]
      unfold chg
      split
      · try dsimp only
        rw [if_neg (by unfold ix gx; omega), if_neg (by unfold ix gx; omega)]
        split
        · rfl
        · exact hz
      · exact hz
theorem Val_sec (V : Val A) {c : Nat} (hc : A 2 = nI c) (h4 : c ≤ 4) (h3 : (A 3).toInt < 99999) : Val (psA A c) := by
  have z1 : Int32.toInt 1 = 1 := rfl
  obtain ⟨⟨a0, a1, a2, a3, a4⟩, w1, w2, w3⟩ := id V
  have hT := a3.1
  have e3 : (psA A c 3).toInt = (A 3).toInt + 1 := by rw [psA_3, ti_add (by omega) (by omega)]; rfl
  have en : ∀ k, k < 3 → psA A c k = A k := fun k hk => psA_n V hc h4 hk
  have dead : ∀ q k, k < 121 → c ≤ q → psA A c (ix q k) = A (ix q k) := fun q k hk hq => psA_dead V hc h4 hq hk
  have lv : ∀ q, q < 4 → (nI q < A 2 ↔ q < c) := fun q hq => by rw [hc]; exact nI_ltI (by omega) (by omega)
  have e0 : ∀ q, psA A c (ix q 0) = A (ix q 0) := fun q => by
    by_cases h : q < c
    · rw [psA_j V hc h4 h (by omega)]
      show LT _ _ _ _ _ _ = _
      rw [LT_i (by omega), chg_o (by unfold ix; omega)]
    · exact dead q 0 (by omega) (by omega)
  refine ⟨⟨by rw [en 0 (by omega)]; exact a0, by rw [en 1 (by omega)]; exact a1, by rw [en 2 (by omega)]; exact a2, ⟨by rw [e3]; omega, by rw [e3]; omega⟩, ?_⟩, fun q hq hl => ?_, fun q hq hl k hk => ?_, fun q hq hl => ?_⟩
  · rw [(psA_s V hc h4).2.1]
    have es : isum (fun j => sdo (chg A j) j) c = nI (sm (fun j => cn (sd (chg A j) j (plo (chg A j) j) (seo (chg A j) j)) (szo (chg A j) j)) c) := isum_nI _ c
    have hb : sm (fun j => cn (sd (chg A j) j (plo (chg A j) j) (seo (chg A j) j)) (szo (chg A j) j)) c ≤ c * 6 := sm_le c (fun i hi => Nat.le_trans (cn_le _ _) (chg_ok V (by omega) ((lv i (by omega)).mpr hi)).2.1)
    have x1 := a4.1
    have x2 := a4.2
    have x3 := a3.2
    rw [es]
    unfold bt
    rw [ti_add (by rw [nI_toInt (by omega)]; omega) (by rw [nI_toInt (by omega)]; omega), nI_toInt (by omega), e3]
    omega
  · rw [en 2 (by omega)] at hl
    exact VJ_sec V hc h4 ((lv q hq).mp hl) h3
  · rw [en 2 (by omega)] at hl
    have hq' : ¬ q < c := fun z => hl ((lv q hq).mpr z)
    rw [dead q k hk (by omega)]
    exact w2 q hq hl k hk
  · rw [en 2 (by omega)] at hl
    rw [e0, e0]; exact w3 q hq hl
end P76
