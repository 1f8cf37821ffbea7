/-! call: tripAgain (the loop) -/
section AG2
variable {M : Mem} {A : Ar}
theorem x_again (hR : RS M 1 A) (V : Val A) {n d : Nat} (hn : A 2 = nI n) (hn4 : n ≤ 4) (hd : d < 2) (hp : pos A d n = true) {t0 : Int32} (h0 : bt t0 0 99999) : fX7_secondsStepByStep M 1 (nI d) t0 = some ((tp A d n t0 n).1 - t0) := by
  unfold pos at hp
  rw [Bool.and_eq_true, decide_eq_true_iff] at hp
  obtain ⟨hp, hn0⟩ := hp
  obtain ⟨E, E0, E1, E2⟩ := tp_E V hn hn4 hd hp h0
  have hs := V.1.2.1
  have s1 := hs.1
  have s2 := hs.2
  have a1 := h0.1
  have a2 := h0.2
  have hc := V.1.1.2
  have hc0 := V.c0
  have z0 : Int32.toInt 0 = 0 := rfl
  -- one second
  have one : ∀ i, i < n → ∀ (m : Int32) (s : Nat), s < 10000 → ∀ k : Int32 × Int32 × Int32 → Option Int32, fX7_secondsStepByStep_L1 1 (nI d) t0 M k (nI i, m, nI s) = if m < ds A d n i then k (nI i, m + A 1, nI (s + 1)) else if wa A d (jd d n i) (t0 + nI s) = 0 then (if i + 1 < n then k (nI (i + 1), 0 + A 1, nI (s + 1)) else some (nI s)) else k (nI i, m + A 1, nI (s + 1)) := fun i hi m s hs k => by
    simp only [fX7_secondsStepByStep_L1]
    rw [if_neg (show ¬ (10000 : Int32) ≤ nI s from nI_ge (b := 10000) hs (by omega)), x_distance hR hn hn4 hd hi, clp_e, x_numberAt hR hn hn4 hd hi, hR.w3, hn, hR.w1]
    simp only [jn_e, clp_e, bnd_e, nI_1, x_wait hR V hn hn4 hd (jd_lt hi) (al_T.mp hp _ (jd_lt hi))]
    by_cases c1 : m < ds A d n i
    · rw [if_pos c1, if_pos c1, if_pos trivial]
    · rw [if_neg c1, if_neg c1, if_neg (by decide)]
      by_cases c2 : wa A d (jd d n i) (t0 + nI s) = 0
      · rw [if_pos c2, if_pos c2]
        by_cases c3 : i + 1 < n
        · rw [if_pos c3, if_pos (nI_lt c3 (by omega))]
        · rw [if_neg c3, if_neg (nI_nlt (by omega) (by omega))]
      · rw [if_neg c2, if_neg c2]
  -- from the beginning of a step to the end
  have main : ∀ r i, n - i = r → i < n → ∀ F, 9000 - (if i = 0 then 0 else E i + 1) ≤ F → lp (fX7_secondsStepByStep_L1 1 (nI d) t0 M) F (nI i, (if i = 0 then 0 else A 1), nI (if i = 0 then 0 else E i + 1)) = some (nI (E n)) := by
    intro r
    induction r with
    | zero => intro i h1 h2; omega
    | succ r ih =>
      intro i h1 h2 F hF
      obtain ⟨b1, b2⟩ := E1 i (by omega)
      obtain ⟨b3, b4⟩ := E1 (i + 1) (by omega)
      have b5 := E2 i h2
      have hq := tt_bt V (d := d) hn hn4 h2
      have q1 := hq.1
      have q2 := hq.2
      have hjl := jd_lt (d := d) h2
      have v := V.2.1 _ (show jd d n i < 4 by omega) (lj hn hn4 hjl)
      have hps := al_T.mp hp _ hjl
      obtain ⟨r1, p1, l1⟩ := psb_d v hd hps
      have hw := wi_bt V d (jd d n i) (t0.toInt + E i + (tt A d n i).toInt)
      have w1 := hw.1
      have w2 := hw.2
      obtain ⟨st, hst⟩ : ∃ st, st = (if i = 0 then 0 else E i + 1) := ⟨_, rfl⟩
      have hq1 : 0 < i → 1 ≤ (tt A d n i).toInt := fun hi => by
        have := (tt_reach V (d := d) hn hn4 h2 0).mp (by have := ds_pos V (d := d) hn hn4 h2 hi; omega)
        omega
      have hse : st ≤ E (i + 1) ∧ E i ≤ st ∧ st ≤ E i + 1 := by
        rw [hst]
        by_cases c : i = 0
        · subst c; rw [if_pos rfl, E0]; omega
        · rw [if_neg c]; have := hq1 (by omega); omega
      obtain ⟨hse1, hse2, hse3⟩ := hse
      -- the metres at second s
      have hm0 : (if i = 0 then (0 : Int32) else A 1) = Int32.ofInt (((st : Int) - E i) * (A 1).toInt) := by
        rw [hst]
        by_cases c : i = 0
        · subst c; rw [if_pos rfl, if_pos rfl, E0]; simp
        · rw [if_neg c, if_neg c, show (((E i + 1 : Nat) : Int) - E i) * (A 1).toInt = (A 1).toInt by rw [show (((E i + 1 : Nat) : Int) - E i) = 1 by omega, Int.one_mul]]
          simp
      have hmb : ∀ s : Nat, E i ≤ s → s ≤ E (i + 1) → 0 ≤ ((s : Int) - E i) * (A 1).toInt ∧ ((s : Int) - E i) * (A 1).toInt ≤ 2125 * 25 := fun s h3 h4 => by
        have y1 : 0 ≤ (s : Int) - E i := by omega
        have y2 : (s : Int) - E i ≤ 2125 := by omega
        refine ⟨Int.mul_nonneg y1 (by omega), ?_⟩
        have := Int.mul_le_mul y2 s2 (by omega) (by omega)
        exact this
      have hmt : ∀ s : Nat, E i ≤ s → s ≤ E (i + 1) → (Int32.ofInt (((s : Int) - E i) * (A 1).toInt)).toInt = ((s : Int) - E i) * (A 1).toInt := fun s h3 h4 => by
        have := hmb s h3 h4
        exact Int32.toInt_ofInt_of_le (by omega) (by omega)
      have hms : ∀ s : Nat, E i ≤ s → s < E (i + 1) → Int32.ofInt (((s : Int) - E i) * (A 1).toInt) + A 1 = Int32.ofInt ((((s + 1 : Nat) : Int) - E i) * (A 1).toInt) := fun s h3 h4 => by
        have y1 := hmb s h3 (by omega)
        have y2 := hmb (s + 1) (by omega) (by omega)
        have y3 : (((s + 1 : Nat) : Int) - E i) * (A 1).toInt = ((s : Int) - E i) * (A 1).toInt + (A 1).toInt := by
          rw [show (((s + 1 : Nat) : Int) - E i) = ((s : Int) - E i) + 1 by omega, Int.add_mul, Int.one_mul]
        rw [ti_eq, hmt (s + 1) (by omega) (by omega), ti_add (by rw [hmt s h3 (by omega)]; omega) (by rw [hmt s h3 (by omega)]; omega), hmt s h3 (by omega), y3]
      have hwt : ∀ s : Nat, s < 10000 → (wa A d (jd d n i) (t0 + nI s)).toInt = wi A d (jd d n i) (t0.toInt + s) := fun s h3 => by
        have e1 : (t0 + nI s).toInt = t0.toInt + s := by rw [ti_add (by rw [nI_toInt (by omega)]; omega) (by rw [nI_toInt (by omega)]; omega), nI_toInt (by omega)]
        rw [wa_ti V v hd hps ⟨by omega, by omega⟩, e1]
      -- not yet
      have wait : ∀ s : Nat, st ≤ s → s < E (i + 1) → ∀ k, fX7_secondsStepByStep_L1 1 (nI d) t0 M k (nI i, Int32.ofInt (((s : Int) - E i) * (A 1).toInt), nI s) = k (nI i, Int32.ofInt ((((s + 1 : Nat) : Int) - E i) * (A 1).toInt), nI (s + 1)) := fun s h3 h4 k => by
        rw [one i h2 _ s (by omega) k, hms s (by omega) h4]
        by_cases c1 : Int32.ofInt (((s : Int) - E i) * (A 1).toInt) < ds A d n i
        · rw [if_pos c1]
        · rw [if_neg c1, if_neg]
          rw [ti_lt, hmt s (by omega) (by omega), tt_reach V hn hn4 h2] at c1
          rw [ti_eq, z0, hwt s (by omega)]
          have := wi_dec V (d := d) (j := jd d n i) l1 (t0.toInt + E i + (tt A d n i).toInt) ((s : Int) - E i - (tt A d n i).toInt) (by omega) (by omega)
          rw [show t0.toInt + E i + (tt A d n i).toInt + ((s : Int) - E i - (tt A d n i).toInt) = t0.toInt + s by omega] at this
          omega
      -- now
      have now : ∀ k, fX7_secondsStepByStep_L1 1 (nI d) t0 M k (nI i, Int32.ofInt (((E (i + 1) : Int) - E i) * (A 1).toInt), nI (E (i + 1))) = if i + 1 < n then k (nI (i + 1), 0 + A 1, nI (E (i + 1) + 1)) else some (nI (E (i + 1))) := fun k => by
        rw [one i h2 _ (E (i + 1)) (by omega) k]
        have c1 : ¬ Int32.ofInt (((E (i + 1) : Int) - E i) * (A 1).toInt) < ds A d n i := by
          rw [ti_lt, hmt (E (i + 1)) (by omega) (by omega), tt_reach V hn hn4 h2]; omega
        rw [if_neg c1, if_pos]
        rw [ti_eq, z0, hwt (E (i + 1)) (by omega)]
        have := wi_dec V (d := d) (j := jd d n i) l1 (t0.toInt + E i + (tt A d n i).toInt) ((E (i + 1) : Int) - E i - (tt A d n i).toInt) (by omega) (by omega)
        rw [show t0.toInt + E i + (tt A d n i).toInt + ((E (i + 1) : Int) - E i - (tt A d n i).toInt) = t0.toInt + E (i + 1) by omega] at this
        omega
      rw [← hst] at hF ⊢
      obtain ⟨G, hG⟩ : ∃ G, F = (G + 1) + (E (i + 1) - st) := ⟨F - 1 - (E (i + 1) - st), by omega⟩
      have seg := lp_seg (f := fX7_secondsStepByStep_L1 1 (nI d) t0 M) (fun q => (nI i, Int32.ofInt ((((st + q : Nat) : Int) - E i) * (A 1).toInt), nI (st + q))) (E (i + 1) - st) (G + 1) (fun q hq k => wait (st + q) (by omega) (by omega) k)
      rw [hG, hm0]
      refine Eq.trans seg ?_
      rw [show st + (E (i + 1) - st) = E (i + 1) by omega, lp_s, now]
      by_cases c : i + 1 < n
      · rw [if_pos c]
        have := ih (i + 1) (by omega) c G (by rw [if_neg (by omega)]; omega)
        rw [if_neg (by omega), if_neg (by omega)] at this
        rw [show (0 : Int32) + A 1 = A 1 by simp]
        exact this
      · rw [if_neg c, show i + 1 = n by omega]
  unfold fX7_secondsStepByStep
  have := main n 0 (by omega) hn0 FU (by unfold FU; omega)
  rw [if_pos rfl, if_pos rfl] at this
  have e : (tp A d n t0 n).1 - t0 = nI (E n) := by
    obtain ⟨b1, b2⟩ := E1 n (by omega)
    rw [ti_eq, nI_toInt (by omega), ti_sub (by omega) (by omega)]; omega
  rw [e]
  exact this
end AG2
section O19
variable {Mx Mm : Mem}
theorem st_tripAgain (I : Inv Mx Mm) (p t : Int32) : ∃ rx vm Mm', fX9_tripAgain Mx p t = some rx ∧ fX10_tripAgain Mm p t = some (vm, Mm') ∧ Agr [1, 4] rx vm Mm' ∧ Inv Mx Mm' := by
  have I0 := I.th 0
  obtain ⟨N, hN⟩ : ∃ z, z = mset Mm 0 0 0 := ⟨_, rfl⟩
  rw [← hN] at I0
  obtain ⟨hR, hV, hH, hT⟩ := id I0
  have h00 : N 0 0 = 0 := by rw [hN, ms_at, if_pos ⟨rfl, rfl⟩]
  obtain ⟨n, hn4, hn⟩ := hV.ct
  unfold fX9_tripAgain fX10_tripAgain
  simp only [bnd_e, ← hN, jn_e]
  rw [f_isDirection, clp_e, b01_ite, f_isWithin, clp_e, b01_ite, f_in, clp_e, b01_ite, f_in, clp_e, b01_ite]
  have bad : ∃ rx vm Mm', (clpx (fX9_need Mx 0 2) fun _ => clp (fX7_arePossible Mx 1 p) fun x5 => clpx (fX9_need Mx x5 5) fun _ => clp (fX7_secondsStepByStep Mx 1 p t) fun x7 => some (Sum.inr x7)) = some rx ∧ (cl (fX10_raises N 1) fun x5 M6 => some (x5, M6)) = some (vm, Mm') ∧ Agr [1, 4] rx vm Mm' ∧ Inv Mx Mm' := by
    rw [need_2', clpx_l, m_raises, cl_e]
    exact ⟨_, _, _, rfl, rfl, fin_x I0 0 rfl _ _ rfl⟩
  by_cases hp : (decide (0 ≤ p) && decide (p ≤ 1)) = true
  · rw [if_pos hp, if_pos hp]
    by_cases ht : (decide (0 ≤ t) && decide (t ≤ 99999)) = true
    · rw [if_pos ht, if_pos ht]
      obtain ⟨d, rfl, hd⟩ := plan_ex hp
      rw [need_T', clpx_r, x_possible hR hV hn hn4 hd, clp_e, m_possible hV hn hn4 hd, clp_e, b01_ite]
      by_cases hpos : pos (N 1) d n = true
      · obtain ⟨K, k1, k2⟩ := m_goes hV hn hn4 hd hpos t
        rw [hpos, need_T, clpx_r, x_again hR hV hn hn4 hd hpos (dec_ct ht), clp_e, if_pos rfl, k1, cl_e]
        exact ⟨_, _, _, rfl, rfl, ⟨by rw [k2.2.1 0 (by omega) (by omega), h00], rfl⟩, I0.num (k2.1 1 (by omega)) k2.mf⟩
      · rw [Bool.not_eq_true _ |>.mp hpos, need_5, clpx_l, if_neg (by decide), m_raises, cl_e]
        exact ⟨_, _, _, rfl, rfl, fin_x I0 1 rfl _ _ rfl⟩
    · rw [if_neg ht, if_neg ht]; exact bad
  · rw [if_neg hp, if_neg hp]; exact bad
end O19
