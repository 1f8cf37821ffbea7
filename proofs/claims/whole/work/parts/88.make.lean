/-! call: make : the new greens are valid; both sides check alike -/
section P88
variable {A : Ar} {j n L q c : Nat} {w : List Nat} {l ps : Nat → Nat}
theorem wr_nn {x y c : Nat} (hx : x < c) (hy : y < c) (hc : c ≤ 1000) : (wr (nI x - nI y) (nI c)).toInt = if y ≤ x then (x : Int) - y else (x : Int) - y + c := by
  have hc0 : 0 < (nI c).toInt := by rw [nI_toInt (by omega)]; omega
  have e : (nI x - nI y).toInt = (x : Int) - y := by rw [ti_sub (by rw [nI_toInt (by omega), nI_toInt (by omega)]; omega) (by rw [nI_toInt (by omega), nI_toInt (by omega)]; omega), nI_toInt (by omega), nI_toInt (by omega)]
  rw [wr_ti hc0, e, nI_toInt (by omega)]
  by_cases h : y ≤ x
  · rw [if_pos h]; exact emod_u (q := 0) (by omega) (by omega) (by omega) (by omega)
  · rw [if_neg h]; exact emod_u (q := -1) (by omega) (by omega) (by omega) (by omega)
theorem stt_1 (l ps : Nat → Nat) (p : Nat) : stt l ps (p + 1) = stt l ps p + (l p + ps p) := rfl
theorem stt_lt (hT : stt l ps L ≤ c) {p : Nat} (hp : p < L) (h4 : 1 ≤ l p) : stt l ps p + l p ≤ c ∧ stt l ps p < c := by
  have h1 := stt_1 l ps p
  have h2 : stt l ps (p + 1) ≤ stt l ps L := sm_mono _ (by omega)
  omega
theorem gapn (hT : stt l ps L ≤ c) (hc : c ≤ 1000) {p r : Nat} (hp : p < L) (hr : r < L) (hpr : p ≠ r) (h1 : 1 ≤ l p) (h2 : 1 ≤ l r) : nI (l p) ≤ wr (nI (stt l ps r) - nI (stt l ps p)) (nI c) := by
  obtain ⟨a1, a2⟩ := stt_lt hT hp h1
  obtain ⟨b1, b2⟩ := stt_lt hT hr h2
  rw [ti_le, wr_nn b2 a2 hc, nI_toInt (by omega)]
  have s1 := stt_1 l ps p
  have s2 := stt_1 l ps r
  by_cases h : p < r
  · have : stt l ps (p + 1) ≤ stt l ps r := sm_mono _ (by omega)
    rw [if_pos (by omega)]; omega
  · have : stt l ps (r + 1) ≤ stt l ps p := sm_mono _ (by omega)
    rw [if_neg (by omega)]; omega
/-- what the greens of a made plan keep -/
def MK (A : Ar) (j n L c : Nat) (w : List Nat) (l ps : Nat → Nat) : Prop := A 0 = nI c ∧ c ≤ 120 ∧ 30 ≤ c ∧ stt l ps L ≤ c ∧ (∀ g, g < n → phs w g < L ∧ 1 ≤ l (phs w g)) ∧ (∀ a b, a < n → b < n → cf A j a b = true → phs w a ≠ phs w b)
theorem pD_o {k : Nat} (h : ∀ a, a < n → k ≠ gx j a (9 + 2 * q) ∧ k ≠ gx j a (10 + 2 * q)) : pD A j q w l ps n k = A k := pB_o n (fun a ha _ => h a ha)
theorem pD_at (hq : q < 2) {a : Nat} (ha : a < n) : fs (pD A j q w l ps n) j q a = nI (stt l ps (phs w a)) ∧ ln (pD A j q w l ps n) j q a = nI (l (phs w a)) :=
  pB_at (B := A) (j := j) (P := fun _ => true) (f := fun g => nI (stt l ps (phs w g))) (g := fun g => nI (l (phs w g))) hq (a := a) rfl n ha
theorem VJ_make (v : VJ A j) (hn : A (ix j 2) = nI n) (hn6 : n ≤ 6) (hq : q < 2) (mk : MK A j n L c w l ps) (hic : icA A j w l ps n = true) : VJ (pD A j q w l ps n) j := by
  obtain ⟨hc, hc1, hc2, hT, hg, hcol⟩ := mk
  obtain ⟨v1, v2, v3, v4, v5, v6, v7, v8⟩ := v
  obtain ⟨B, hB⟩ : ∃ z, z = pD A j q w l ps n := ⟨_, rfl⟩
  rw [← hB]
  have ei : ∀ k, k < 7 → B (ix j k) = A (ix j k) := fun k hk => by rw [hB]; exact pD_o (fun a _ => ⟨by unfold ix gx; omega, by unfold ix gx; omega⟩)
  have e0 : B 0 = A 0 := by rw [hB]; exact pD_o (fun a _ => ⟨by unfold gx; omega, by unfold gx; omega⟩)
  have e3 : B 3 = A 3 := by rw [hB]; exact pD_o (fun a _ => ⟨by unfold gx; omega, by unfold gx; omega⟩)
  have ec : ∀ a b, a < 6 → b < 6 → kl B j a b = kl A j a b := fun a b ha hb => by unfold kl; rw [hB]; exact pD_o (fun a _ => ⟨by unfold cx gx; omega, by unfold cx gx; omega⟩)
  have eg : ∀ g k, g < 6 → k < 13 → (n ≤ g ∨ (k ≠ 9 + 2 * q ∧ k ≠ 10 + 2 * q)) → B (gx j g k) = A (gx j g k) := fun g k hg6 hk h => by
    rw [hB]
    exact pD_o (fun a ha => ⟨fun z => by have := gx_inj hk (by omega) z; omega, fun z => by have := gx_inj hk (by omega) z; omega⟩)
  have ef : ∀ a, a < n → fs B j q a = nI (stt l ps (phs w a)) ∧ ln B j q a = nI (l (phs w a)) := fun a ha => by rw [hB]; exact pD_at hq ha
  refine ⟨by rw [ei 0 (by omega)]; exact v1, by rw [ei 1 (by omega), e0]; exact v2, by rw [ei 2 (by omega)]; exact v3, by rw [ei 3 (by omega)]; exact v4, by rw [ei 4 (by omega)]; exact v5, fun d hd => by rw [ei (5 + d) (by omega), ei 2 (by omega)]; exact v6 d hd, fun g hg6 => ?_, fun a ha b hb => ?_⟩
  · obtain ⟨g0, g1, g2, g3, g4, g5, g6, g7, g8, g9⟩ := v7 g hg6
    refine ⟨by rw [eg g 0 hg6 (by omega) (by omega)]; exact g0, by rw [eg g 1 hg6 (by omega) (by omega)]; exact g1, by rw [eg g 2 hg6 (by omega) (by omega)]; exact g2, by rw [eg g 3 hg6 (by omega) (by omega), e3]; exact g3, by rw [eg g 4 hg6 (by omega) (by omega), e3]; exact g4, by rw [eg g 5 hg6 (by omega) (by omega)]; exact g5, fun p hp => by rw [eg g (6 + p) hg6 (by omega) (by omega)]; exact g6 p hp, fun p hp => ?_, fun hl => by rw [eg g 1 hg6 (by omega) (by omega)]; exact g8 (by rw [← ei 2 (by omega)]; exact hl), fun hl k hk => ?_⟩
    · by_cases e : p = q ∧ g < n
      · obtain ⟨rfl, hgn⟩ := e
        obtain ⟨h1, h2⟩ := ef g hgn
        obtain ⟨h3, h4⟩ := hg g hgn
        obtain ⟨h5, h6⟩ := stt_lt hT h3 h4
        rw [h1, h2, e0, hc]
        refine ⟨⟨by rw [nI_toInt (by omega)]; omega, by rw [nI_toInt (by omega), nI_toInt (by omega)]; omega⟩, ⟨by rw [nI_toInt (by omega)]; omega, by rw [nI_toInt (by omega), nI_toInt (by omega)]; omega⟩, fun z => ?_⟩
        exact absurd z (nI_ne0 (by omega) (by omega))
      · have x1 : fs B j p g = fs A j p g := eg g _ hg6 (by omega) (by omega)
        have x2 : ln B j p g = ln A j p g := eg g _ hg6 (by omega) (by omega)
        rw [x1, x2, e0]; exact g7 p hp
    · rw [ei 2 (by omega)] at hl
      have hgn : n ≤ g := by
        by_cases z : g < n
        · exact absurd (lt_sz hn hn6 z) hl
        · omega
      rw [eg g k hg6 hk (Or.inl hgn)]
      exact g9 hl k hk
  · obtain ⟨c1, c2, c3, c4⟩ := v8 a ha b hb
    refine ⟨by rw [ec a b ha hb]; exact c1, by rw [ec a b ha hb, ec b a hb ha]; exact c2, by rw [ec a b ha hb, ei 2 (by omega)]; exact c3, ?_⟩
    rw [ec a b ha hb, e0]
    intro h p hp
    by_cases e : p = q
    · subst e
      intro _ _
      obtain ⟨hab, hla, hlb⟩ := c3 h
      have han := sz_lt hn hn6 ha hla
      have hbn := sz_lt hn hn6 hb hlb
      obtain ⟨a1, a2⟩ := ef a han
      obtain ⟨b1, b2⟩ := ef b hbn
      obtain ⟨a3, a4⟩ := hg a han
      obtain ⟨b3, b4⟩ := hg b hbn
      have hne := hcol a b han hbn (decide_eq_true h)
      have hi := al_T.mp (al_T.mp hic a han) b hbn
      unfold icl at hi
      rw [a1, a2, b1, b2]
      refine ⟨?_, ?_, of_decide_eq_true hi⟩
      · rw [hc]; exact gapn hT (by omega) a3 b3 hne a4 b4
      · rw [hc]; exact gapn hT (by omega) b3 a3 (fun z => hne z.symm) b4 a4
    · have x1 : ∀ g, g < 6 → fs B j p g = fs A j p g := fun g hg6 => eg g _ hg6 (by omega) (by omega)
      have x2 : ∀ g, g < 6 → ln B j p g = ln A j p g := fun g hg6 => eg g _ hg6 (by omega) (by omega)
      rw [x1 a ha, x1 b hb, x2 a ha, x2 b hb]
      exact c4 h p hp
/-- the reference's pairs -/
def prs (B : Ar) (j q n : Nat) : Bool := al (fun g => al (fun h => !bq B j q g 4 h && !bq B j q g 5 h) n) n
theorem prs_ic {B : Ar} (v : VJ A j) (hn6 : n ≤ 6) (mk : MK A j n L c w l ps) (e0 : B 0 = A 0) (ek : ∀ a b, a < 6 → b < 6 → kl B j a b = kl A j a b) (ef : ∀ a, a < n → fs B j q a = nI (stt l ps (phs w a)) ∧ ln B j q a = nI (l (phs w a))) : prs B j q n = icA A j w l ps n := by
  obtain ⟨hc, hc1, hc2, hT, hg, hcol⟩ := mk
  have z0 : Int32.toInt 0 = 0 := rfl
  have hgr : ∀ a, a < n → gr B j q a = true := fun a ha => by
    obtain ⟨h3, h4⟩ := hg a ha
    have h5 := stt_lt hT h3 h4
    unfold gr
    rw [(ef a ha).2]
    exact decide_eq_true (nI_lt (a := 0) h4 (by omega))
  have hcf : ∀ a b, a < 6 → b < 6 → cf B j a b = cf A j a b := fun a b ha hb => by unfold cf; rw [ek a b ha hb]
  have q4 : ∀ g h, g < n → h < n → bq B j q g 4 h = ((!decide (h = g) && (cf A j g h && true)) && decide (wr (nI (stt l ps (phs w g)) - nI (stt l ps (phs w h)) - nI (l (phs w h))) (A 0) < kl A j h g)) := fun g h hgn hhn => by
    show ((!decide (h = g) && (cf B j g h && gr B j q h)) && decide (wr (fs B j q g - fs B j q h - ln B j q h) (B 0) < kl B j h g)) = _
    rw [hcf g h (by omega) (by omega), hgr h hhn, (ef g hgn).1, (ef h hhn).1, (ef h hhn).2, e0, ek h g (by omega) (by omega)]
  have q5 : ∀ g h, g < n → h < n → bq B j q g 5 h = ((!decide (h = g) && (cf A j g h && true)) && decide (wr (nI (stt l ps (phs w h)) - nI (stt l ps (phs w g)) - nI (l (phs w g))) (A 0) < kl A j g h)) := fun g h hgn hhn => by
    show ((!decide (h = g) && (cf B j g h && gr B j q h)) && decide (wr (fs B j q h - fs B j q g - ln B j q g) (B 0) < kl B j g h)) = _
    rw [hcf g h (by omega) (by omega), hgr h hhn, (ef g hgn).1, (ef h hhn).1, (ef g hgn).2, e0, ek g h (by omega) (by omega)]
  rw [Bool.eq_iff_iff]
  unfold prs icA
  rw [al_T, al_T]
  constructor
  · intro h a ha
    rw [al_T]
    intro b hb
    unfold icl
    rw [decide_eq_true_iff]
    by_cases hk : cf A j a b = true
    · have hab := ((v.2.2.2.2.2.2.2 a (by omega) b (by omega)).2.2.1 (of_decide_eq_true hk)).1
      have := al_T.mp (h a ha) b hb
      rw [Bool.and_eq_true, q5 a b ha hb, decide_eq_false (fun z => hab z.symm), hk] at this
      have h5 : decide (wr (nI (stt l ps (phs w b)) - nI (stt l ps (phs w a)) - nI (l (phs w a))) (A 0) < kl A j a b) = false := by simpa using this.2
      have := of_decide_eq_false h5
      rw [ti_le]; rw [ti_lt] at this; omega
    · have hk' := of_decide_eq_false (Bool.not_eq_true _ |>.mp hk)
      have w1 := wr_lo (x := nI (stt l ps (phs w b)) - nI (stt l ps (phs w a)) - nI (l (phs w a))) (c := A 0) (by rw [hc, nI_toInt (by omega)]; omega)
      rw [ti_le] at hk' ⊢
      omega
  · intro h g hgn
    rw [al_T]
    intro b hb
    have i1 := al_T.mp (h g hgn) b hb
    have i2 := al_T.mp (h b hb) g hgn
    unfold icl at i1 i2
    rw [decide_eq_true_iff, ti_le] at i1 i2
    have d4 : decide (wr (nI (stt l ps (phs w g)) - nI (stt l ps (phs w b)) - nI (l (phs w b))) (A 0) < kl A j b g) = false := decide_eq_false (by rw [ti_lt]; omega)
    have d5 : decide (wr (nI (stt l ps (phs w b)) - nI (stt l ps (phs w g)) - nI (l (phs w g))) (A 0) < kl A j g b) = false := decide_eq_false (by rw [ti_lt]; omega)
    rw [q4 g b hgn hb, q5 g b hgn hb, d4, d5, Bool.and_false]
    rfl
theorem m_check {K : Mem} (hj : j < 4) (hq : q < 2) (hn6 : n ≤ 6) (hb : BD (K 1) j q n) (h0 : ∀ g, g < n → 0 < (ln (K 1) j q g).toInt) (k20 k24 : Unit → Option (Int32 × Mem)) : lp (fX10_make_L3 (nI j) (nI q) (nI n) K k20 k24) FU 0 = if prs (K 1) j q n = true then k20 () else k24 () := by
  have inner : ∀ g, g < n → ∀ k36 : Unit → Option (Int32 × Mem), lp (fX10_make_L2 (nI j) (nI q) (nI n) K k24 (nI g) k36) FU 0 = if al (fun h => !bq (K 1) j q g 4 h && !bq (K 1) j q g 5 h) n = true then k36 () else k24 () := fun g hg k36 => by
    have step : ∀ i, i < n → ∀ k, fX10_make_L2 (nI j) (nI q) (nI n) K k24 (nI g) k36 k (nI i) = if (!bq (K 1) j q g 4 i && !bq (K 1) j q g 5 i) = true then k (nI (i + 1)) else k24 () := fun i hi k => by
      simp only [fX10_make_L2]
      have b4 : fX10_bars K (nI j) (nI q) (nI g) (nI i) 4 = some (if bq (K 1) j q g 4 i = true then nI 4 else 0) := m_bars hj hq hg hi hn6 (r := 4) (by omega) hb (h0 g hg)
      have b5 : fX10_bars K (nI j) (nI q) (nI g) (nI i) 5 = some (if bq (K 1) j q g 5 i = true then nI 5 else 0) := m_bars hj hq hg hi hn6 (r := 5) (by omega) hb (h0 g hg)
      rw [if_neg (nI_ge hi (by omega)), b4, clp_e, b5, clp_e, bnd_e, nI_1]
      cases bq (K 1) j q g 4 i <;> cases bq (K 1) j q g 5 i <;> rfl
    exact lp_fst (f := fX10_make_L2 (nI j) (nI q) (nI n) K k24 (nI g) k36) (s0 := (0 : Int32)) (fun i => nI i) (fun h => !bq (K 1) j q g 4 h && !bq (K 1) j q g 5 h) (rt := k36 ()) (rf := fun _ => k24 ()) n (by omega) rfl (fun i hi ht k => by rw [step i hi, if_pos ht]) (fun i hi ht k => by rw [step i hi, if_neg (by rw [ht]; decide)]) (fun k => by
      simp only [fX10_make_L2]
      rw [if_pos (nI_le (Nat.le_refl _) (by omega))])
  have step : ∀ g, g < n → ∀ k, fX10_make_L3 (nI j) (nI q) (nI n) K k20 k24 k (nI g) = if al (fun h => !bq (K 1) j q g 4 h && !bq (K 1) j q g 5 h) n = true then k (nI (g + 1)) else k24 () := fun g hg k => by
    simp only [fX10_make_L3]
    rw [if_neg (nI_ge hg (by omega)), jn_e, inner g hg, bnd_e, nI_1]
  have main := lp_fst (f := fX10_make_L3 (nI j) (nI q) (nI n) K k20 k24) (s0 := (0 : Int32)) (fun i => nI i) (fun g => al (fun h => !bq (K 1) j q g 4 h && !bq (K 1) j q g 5 h) n) (rt := k20 ()) (rf := fun _ => k24 ()) n (by omega) rfl (fun i hi ht k => by rw [step i hi, if_pos ht]) (fun i hi ht k => by rw [step i hi, if_neg (by rw [ht]; decide)]) (fun k => by
    simp only [fX10_make_L3]
    rw [if_pos (nI_le (Nat.le_refl _) (by omega))])
  rw [main]
  rfl
theorem m_make_back (M : Mem) (k : Mem → Option (Int32 × Mem)) : ∃ M1, lp (fX10_make_L1 k) FU (0, M) = k M1 ∧ Cpd M M1 1 4 490 := by
  have main := lp_inv (f := fX10_make_L1 k) (fun i (s : Int32 × Mem) => s.1 = nI i ∧ Cpd M s.2 1 4 i) (fun r => ∃ M1, r = k M1 ∧ Cpd M M1 1 4 490) 490 (by omega) (fun i hi s hs => Or.inl (by
      obtain ⟨x, K⟩ := s
      obtain ⟨rfl, hc⟩ := hs
      refine ⟨(nI (i + 1), mset K 1 i (K 4 i)), ⟨rfl, hc.step (by omega)⟩, fun k => ?_⟩
      simp only [fX10_make_L1]
      rw [if_neg (show ¬ (490 : Int32) ≤ nI i from nI_ge (b := 490) hi (by omega)), grd_T (inb_nI hi (by omega)), grd_T (inb_nI hi (by omega)), nI_clamp (by omega)]
      simp only [bnd_e, nI_1])) (fun s hs => by
      obtain ⟨x, K⟩ := s
      obtain ⟨rfl, hc⟩ := hs
      refine ⟨k K, ⟨K, rfl, hc⟩, fun k => ?_⟩
      simp only [fX10_make_L1]
      rw [if_pos (show (490 : Int32) ≤ nI 490 from nI_le (a := 490) (b := 490) (by omega) (by omega))]) (0, M) ⟨rfl, fun _ _ => rfl, fun k hk => absurd hk (by omega), fun _ _ => rfl⟩
  exact main
/-! numbers of the phases -/
def lgn (A : Ar) (j : Nat) (w : List Nat) (n p : Nat) : Nat := (LGr A j w p n).toNatClampNeg
def psn (A : Ar) (j : Nat) (w : List Nat) (n L p : Nat) : Nat := (PSe A j w n L p n).toNatClampNeg
theorem lg_e (v : VJ A j) (hn6 : n ≤ 6) (p : Nat) : LGr A j w p n = nI (lgn A j w n p) ∧ lgn A j w n p ≤ 30 := by
  have h0 : (0 : Int) ≤ (LGr A j w p n).toInt := fm_lo _ _ (a := 0) (Int.le_refl _) n
  have h1 : (LGr A j w p n).toInt ≤ 30 := fm_hi _ _ (a := 0) (by decide) n (fun i hi => (v.2.2.2.2.2.2.1 i (by omega)).2.1.2)
  have := clamp_ti h0
  exact ⟨(nI_clampt h0).symm, by unfold lgn; omega⟩
theorem ps_e (v : VJ A j) (hn6 : n ≤ 6) (p : Nat) : PSe A j w n L p n = nI (psn A j w n L p) ∧ psn A j w n L p ≤ 20 := by
  have h0 : (0 : Int) ≤ (PSe A j w n L p n).toInt := fm_lo _ _ (a := 0) (Int.le_refl _) n
  have h1 : (PSe A j w n L p n).toInt ≤ 20 := fm_hi _ _ (a := 0) (by decide) n (fun i hi => fm_hi _ _ (a := 0) (by decide) n (fun h hh => (v.2.2.2.2.2.2.2 i (by omega) h (by omega)).1.2))
  have := clamp_ti h0
  exact ⟨(nI_clampt h0).symm, by unfold psn; omega⟩
theorem stt_50 {l ps : Nat → Nat} (h : ∀ p, l p + ps p ≤ 50) : ∀ p, stt l ps p ≤ 50 * p
  | 0 => Nat.le_refl _
  | p + 1 => by
    have := stt_50 h p
    have := h p
    rw [stt_1]; omega
theorem lfo_e (v : VJ A j) (hn6 : n ≤ 6) (hc : A 0 = nI c) (hc1 : c ≤ 120) : ∀ p, p ≤ 6 → (lfo A j w n L p).toInt = (c : Int) - stt (lgn A j w n) (psn A j w n L) p
  | 0, _ => by show (A 0).toInt = _; rw [hc, nI_toInt (by omega)]; show _ = (c : Int) - (0 : Nat); omega
  | p + 1, h => by
    have ih := lfo_e v hn6 hc hc1 p (by omega)
    obtain ⟨l1, l2⟩ := lg_e (w := w) v hn6 p
    obtain ⟨p1, p2⟩ := ps_e (L := L) (w := w) v hn6 p
    have hb := stt_50 (l := lgn A j w n) (ps := psn A j w n L) (fun r => by have := (lg_e (w := w) v hn6 r).2; have := (ps_e (L := L) (w := w) v hn6 r).2; omega) p
    show (lfo A j w n L p - (LGr A j w p n + PSe A j w n L p n)).toInt = _
    rw [l1, p1, nI_add, stt_1, ti_sub (by rw [ih, nI_toInt (by omega)]; omega) (by rw [ih, nI_toInt (by omega)]; omega), ih, nI_toInt (by omega)]
    omega
end P88
