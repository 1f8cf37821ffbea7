/-! call: report : signs appended on both sides -/
def TX (i : Nat) : List Int32 := SB.getD i []
theorem chars_ok : ∀ i : Fin 35, ∀ k : Fin (sl i.val), fJ0_charAt i.val (nI k.val) = some ((TX i.val).getD k.val 0) ∧ vp_nar .char ((TX i.val).getD k.val 0) = (TX i.val).getD k.val 0 ∧ (32 : Int32) ≤ (TX i.val).getD k.val 0 ∧ (TX i.val).getD k.val 0 ≤ 126 := by decide +kernel
theorem char_ok {i k : Nat} (hi : i < 35) (hk : k < sl i) : fJ0_charAt i (nI k) = some ((TX i).getD k 0) ∧ vp_nar .char ((TX i).getD k 0) = (TX i).getD k 0 ∧ (32 : Int32) ≤ (TX i).getD k 0 ∧ (TX i).getD k 0 ≤ 126 := chars_ok ⟨i, hi⟩ ⟨k, hk⟩
theorem TX_len (i : Nat) : (TX i).length = sl i := rfl
/-- the signs w stand on the class's page -/
def PX (M0 M : Mem) (w : List Int32) : Prop := (∀ o, o ≠ 477 → o ≠ 478 → M o = M0 o) ∧ M 477 0 = nI w.length ∧ w.length ≤ 96 ∧ ∀ k, k < w.length → M 478 k = w.getD k 0
def PM (N0 N : Mem) (w : List Int32) : Prop := (∀ o, o ≠ 0 → o ≠ 6 → N o = N0 o) ∧ (∀ k, k ≠ 13 → N 0 k = N0 0 k) ∧ N 0 13 = nI w.length ∧ w.length ≤ 96 ∧ ∀ k, k < w.length → N 6 k = w.getD k 0
theorem getD_app1 {w : List Int32} {v : Int32} {k : Nat} (h : k < w.length) : (w ++ [v]).getD k 0 = w.getD k 0 := by
  simp [List.getD, List.getElem?_append_left h]
theorem getD_app2 {w : List Int32} {v : Int32} : (w ++ [v]).getD w.length 0 = v := by
  simp [List.getD]
theorem x_sign {M0 M : Mem} {w : List Int32} {v : Int32} (h : PX M0 M w) (hl : w.length < 96) (hv : vp_nar .char v = v) : ∃ M', fX4_addSign M v = some ((), M') ∧ PX M0 M' (w ++ [v]) := by
  obtain ⟨h1, h2, h3, h4⟩ := h
  refine ⟨mset (mset M 478 w.length v) 477 0 (nI (w.length + 1)), ?_, fun o a b => ?_, ?_, ?_, fun k hk => ?_⟩
  · unfold fX4_addSign
    rw [jn_e, h2, if_neg (show ¬ (96 : Int32) ≤ nI w.length from nI_ge (b := 96) hl (by omega)), grd_T (inb_nI hl (by omega)), nI_clamp (by omega), bnd_e, bnd_e, ms_other _ _ _ (by omega), h2, hv, nI_1]
  · rw [ms_other _ _ _ a, ms_other _ _ _ b]; exact h1 o a b
  · rw [ms_at, if_pos ⟨rfl, rfl⟩]; simp
  · simp; omega
  · rw [ms_other _ _ _ (by omega), ms_at]
    by_cases e : k = w.length
    · subst e; rw [if_pos ⟨rfl, rfl⟩, getD_app2]
    · have hk' : k < w.length := by simp at hk; omega
      rw [if_neg (fun z => e z.2), getD_app1 hk']; exact h4 k hk'
theorem take_app {l : List Int32} {k : Nat} (h : k < l.length) : l.take k ++ [l.getD k 0] = l.take (k + 1) := by
  rw [List.take_succ]
  simp [List.getD, List.getElem?_eq_getElem h]
theorem x_text {M0 M : Mem} {w : List Int32} {i : Nat} (h : PX M0 M w) (hi : i < 35) (hl : w.length + sl i ≤ 96) : ∃ M', fX4_addText M i = some ((), M') ∧ PX M0 M' (w ++ TX i) := by
  unfold fX4_addText
  refine lp_inv (f := fX4_addText_L1 i) (fun k (s : Int32 × Mem) => s.1 = nI k ∧ PX M0 s.2 (w ++ (TX i).take k)) (fun r => ∃ M', r = some ((), M') ∧ PX M0 M' (w ++ TX i)) (sl i) (by omega) (fun k hk s hs => Or.inl ?_) (fun s hs => ?_) (0, M) ⟨rfl, by simpa using h⟩
  · obtain ⟨x, K⟩ := s
    obtain ⟨a, b⟩ := hs
    dsimp only at a b
    subst a
    obtain ⟨c1, c2, c3, c4⟩ := char_ok hi hk
    have hlen : ((TX i).take k).length = k := by rw [List.length_take, TX_len]; omega
    obtain ⟨K', d1, d2⟩ := x_sign b (by rw [List.length_append, hlen]; omega) c2
    refine ⟨(nI (k + 1), K'), ⟨rfl, ?_⟩, fun f => ?_⟩
    · rw [List.append_assoc, take_app (by rw [TX_len]; exact hk)] at d2
      exact d2
    · simp only [fX4_addText_L1, fJ0_length]
      rw [clp_e, if_neg (nI_ge hk (by omega)), c1, clp_e, d1, cl_e, bnd_e, nI_1]
  · obtain ⟨x, K⟩ := s
    obtain ⟨a, b⟩ := hs
    dsimp only at a b
    subst a
    refine ⟨_, ⟨K, rfl, ?_⟩, fun f => ?_⟩
    · rw [List.take_of_length_le (by rw [TX_len]; exact Nat.le_refl _)] at b; exact b
    · simp only [fX4_addText_L1, fJ0_length]
      rw [clp_e, if_pos (nI_le (Nat.le_refl _) (by omega))]
theorem nI_div {a b : Nat} (hb : 0 < b) (ha : a < 2 ^ 31) (hb2 : b < 2 ^ 31) : nI a / nI b = nI (a / b) := by
  have h1 : a / b ≤ a := Nat.div_le_self a b
  rw [ti_eq, Int32.toInt_div_of_ne_right _ _ (by
    intro z
    rw [ti_eq, nI_toInt hb2] at z
    have : Int32.toInt (-1) = -1 := by decide
    omega), nI_toInt ha, nI_toInt hb2, nI_toInt (by omega)]
  exact Int.ofNat_tdiv a b
theorem dig_10 {m : Nat} (hm : m < 10000) : nI m - nI m / 10 * 10 = nI (m % 10) := by
  rw [show (10 : Int32) = nI 10 from rfl, nI_div (by omega) (by omega) (by omega), nI_mul, nI_sub (by omega)]
  congr 1; omega
theorem dig_ch {d : Nat} (hd : d < 10) : ((48 + nI d).toUInt32 % 65536).toInt32 = nI (48 + d) ∧ vp_nar .char (nI (48 + d)) = nI (48 + d) ∧ 48 + nI d = nI (48 + d) := by
  have key : ∀ d : Fin 10, ((48 + nI d.val).toUInt32 % 65536).toInt32 = nI (48 + d.val) ∧ vp_nar .char (nI (48 + d.val)) = nI (48 + d.val) ∧ 48 + nI d.val = nI (48 + d.val) := by decide +kernel
  exact key ⟨d, hd⟩
/-- the digits of a number below 10000 -/
def dgu (n u : Nat) : List Int32 := if u ≤ n ∨ u = 1 then [nI (48 + n / u % 10)] else []
def dg (n : Nat) : List Int32 := dgu n 1000 ++ dgu n 100 ++ dgu n 10 ++ dgu n 1
theorem dgu_len (n u : Nat) : (dgu n u).length ≤ 1 := by unfold dgu; split <;> simp
theorem dg_len (n : Nat) : (dg n).length ≤ 4 := by
  unfold dg
  have a := dgu_len n 1000; have b := dgu_len n 100; have c := dgu_len n 10; have d := dgu_len n 1
  simp only [List.length_append]; omega
theorem x_dig {M0 M : Mem} {w : List Int32} {n u v : Nat} (h : PX M0 M w) (hn : n < 10000) (hu : 0 < u) (hu2 : u ≤ 1000) (hv : u / 10 = v) (hl : w.length < 96) (k : Int32 × Mem → Option (Unit × Mem)) : ∃ M', PX M0 M' (w ++ dgu n u) ∧ ∀ k, fX4_addNumber_L1 (nI n) k (nI u, M) = k (nI v, M') := by
  have e10 : (nI u : Int32) / 10 = nI v := by rw [show (10 : Int32) = nI 10 from rfl, nI_div (by omega) (by omega) (by omega), hv]
  have hq : n / u < 10000 := Nat.lt_of_le_of_lt (Nat.div_le_self n u) hn
  have hd := dig_ch (d := n / u % 10) (by omega)
  have nzu : nz (nI u) = true := by
    unfold nz
    rw [decide_eq_false (nI_ne0 hu (by omega))]; rfl
  have eu1 : (nI u = 1) ↔ u = 1 := nI_eq (a := u) (b := 1) (by omega) (by omega)
  have sg : ∀ M', fX4_addSign M (nI (48 + n / u % 10)) = some ((), M') → fX4_addSign M (((48 + ((nI n / nI u) - (nI n / nI u) / 10 * 10)).toUInt32 % 65536).toInt32) = some ((), M') := fun M' z => by
    rw [nI_div hu (by omega) (by omega), dig_10 hq, hd.1]; exact z
  by_cases c : u ≤ n ∨ u = 1
  · obtain ⟨M', a, b⟩ := x_sign h hl hd.2.1
    refine ⟨M', by unfold dgu; rw [if_pos c]; exact b, fun k => ?_⟩
    simp only [fX4_addNumber_L1]
    rw [if_neg (nI_nle hu (by omega)), jn_e, jn_e, grd_T nzu, grd_T (by decide), sg M' a, cl_e]
    dsimp only
    rw [grd_T (by decide), bnd_e, e10]
    by_cases c1 : u ≤ n
    · rw [if_pos (nI_le c1 (by omega))]
    · rw [if_neg (nI_ge (by omega) (by omega)), if_pos (eu1.mpr (by omega))]
  · refine ⟨M, by unfold dgu; rw [if_neg c, List.append_nil]; exact h, fun k => ?_⟩
    simp only [fX4_addNumber_L1]
    rw [if_neg (nI_nle hu (by omega)), jn_e, jn_e, if_neg (nI_ge (by omega) (by omega)), if_neg (fun z => c (Or.inr (eu1.mp z)))]
    dsimp only
    rw [grd_T (by decide), bnd_e, e10]
theorem x_num {M0 M : Mem} {w : List Int32} {n : Nat} (h : PX M0 M w) (hn : n < 10000) (hl : w.length + 4 ≤ 96) : ∃ M', fX4_addNumber M (nI n) = some ((), M') ∧ PX M0 M' (w ++ dg n) := by
  have id' : Int32 × Mem → Option (Unit × Mem) := fun _ => none
  obtain ⟨M1, a1, b1⟩ := x_dig (u := 1000) (v := 100) h hn (by omega) (by omega) rfl (by omega) id'
  have l1 := dgu_len n 1000
  obtain ⟨M2, a2, b2⟩ := x_dig (u := 100) (v := 10) a1 hn (by omega) (by omega) rfl (by rw [List.length_append]; omega) id'
  have l2 := dgu_len n 100
  obtain ⟨M3, a3, b3⟩ := x_dig (u := 10) (v := 1) a2 hn (by omega) (by omega) rfl (by rw [List.length_append, List.length_append]; omega) id'
  have l3 := dgu_len n 10
  obtain ⟨M4, a4, b4⟩ := x_dig (u := 1) (v := 0) a3 hn (by omega) (by omega) rfl (by rw [List.length_append, List.length_append, List.length_append]; omega) id'
  refine ⟨M4, ?_, by unfold dg; simpa only [List.append_assoc] using a4⟩
  unfold fX4_addNumber
  obtain ⟨st, hst⟩ : ∃ st : Nat → Int32 × Mem, st 0 = (nI 1000, M) ∧ st 1 = (nI 100, M1) ∧ st 2 = (nI 10, M2) ∧ st 3 = (nI 1, M3) ∧ st 4 = (nI 0, M4) := ⟨fun i => if i = 0 then (nI 1000, M) else if i = 1 then (nI 100, M1) else if i = 2 then (nI 10, M2) else if i = 3 then (nI 1, M3) else (nI 0, M4), rfl, rfl, rfl, rfl, rfl⟩
  obtain ⟨t0, t1, t2, t3, t4⟩ := hst
  refine lp_at st 4 (by omega) t0.symm (fun i hi k => ?_) (fun k => ?_)
  · rcases (show i = 0 ∨ i = 1 ∨ i = 2 ∨ i = 3 by omega) with rfl | rfl | rfl | rfl
    · rw [t0, t1]; exact b1 k
    · rw [t1, t2]; exact b2 k
    · rw [t2, t3]; exact b3 k
    · rw [t3, t4]; exact b4 k
  · rw [t4]
    simp only [fX4_addNumber_L1]
    rw [if_pos (show (nI 0 : Int32) ≤ 0 by decide)]
/-! the reference -/
theorem m_sign {N0 N : Mem} {w : List Int32} {v : Int32} (h : PM N0 N w) (hl : w.length < 96) : PM N0 (mset (mset N 0 13 (nI (w.length + 1))) 6 w.length v) (w ++ [v]) := by
  obtain ⟨h1, h2, h3, h4, h5⟩ := h
  refine ⟨fun o a b => ?_, fun k hk => ?_, ?_, ?_, fun k hk => ?_⟩
  · rw [ms_other _ _ _ b, ms_other _ _ _ a]; exact h1 o a b
  · rw [ms_other _ _ _ (by omega), ms_at, if_neg (fun z => hk z.2)]; exact h2 k hk
  · rw [ms_other _ _ _ (by omega), ms_at, if_pos ⟨rfl, rfl⟩]; simp
  · simp; omega
  · rw [ms_at]
    by_cases e : k = w.length
    · subst e; rw [if_pos ⟨rfl, rfl⟩, getD_app2]
    · have hk' : k < w.length := by simp at hk; omega
      rw [if_neg (fun z => e z.2), getD_app1 hk', ms_other _ _ _ (by omega)]; exact h5 k hk'
theorem m_text {N0 N : Mem} {w : List Int32} {i : Nat} (h : PM N0 N w) (hi : i < 35) (hl : w.length + sl i ≤ 96) : ∃ N', fX10_writes N i = some ((), N') ∧ PM N0 N' (w ++ TX i) := by
  unfold fX10_writes
  refine lp_inv (f := fX10_writes_L1 i) (fun k (s : Int32 × Mem) => s.1 = nI k ∧ PM N0 s.2 (w ++ (TX i).take k)) (fun r => ∃ N', r = some ((), N') ∧ PM N0 N' (w ++ TX i)) (sl i) (by omega) (fun k hk s hs => Or.inl ?_) (fun s hs => ?_) (0, N) ⟨rfl, by simpa using h⟩
  · obtain ⟨x, K⟩ := s
    obtain ⟨a, b⟩ := hs
    dsimp only at a b
    subst a
    obtain ⟨c1, c2, c3, c4⟩ := char_ok hi hk
    have hlen : ((TX i).take k).length = k := by rw [List.length_take, TX_len]; omega
    have hw : (w ++ (TX i).take k).length < 96 := by rw [List.length_append, hlen]; omega
    have d2 := m_sign (v := (TX i).getD k 0) b hw
    refine ⟨(nI (k + 1), mset (mset K 0 13 (nI ((w ++ (TX i).take k).length + 1))) 6 (w ++ (TX i).take k).length ((TX i).getD k 0)), ⟨rfl, ?_⟩, fun f => ?_⟩
    · rw [List.append_assoc, take_app (by rw [TX_len]; exact hk)] at d2
      exact d2
    · simp only [fX10_writes_L1, fJ0_length]
      rw [clp_e, if_neg (nI_ge hk (by omega)), bnd_e, c1, clp_e, b.2.2.1, grd_T (inb_nI (by omega) (by omega)), nI_clamp (by omega), bnd_e, bnd_e, nI_1, nI_1]
  · obtain ⟨x, K⟩ := s
    obtain ⟨a, b⟩ := hs
    dsimp only at a b
    subst a
    refine ⟨_, ⟨K, rfl, ?_⟩, fun f => ?_⟩
    · rw [List.take_of_length_le (by rw [TX_len]; exact Nat.le_refl _)] at b; exact b
    · simp only [fX10_writes_L1, fJ0_length]
      rw [clp_e, if_pos (nI_le (Nat.le_refl _) (by omega))]
theorem dg_rec {n : Nat} (hn : n < 10000) (h : 10 ≤ n) : dg n = dg (n / 10) ++ [nI (48 + n % 10)] := by
  unfold dg dgu
  have e1 : n / 10 / 1 % 10 = n / 10 % 10 := by omega
  have e2 : n / 10 / 10 % 10 = n / 100 % 10 := by omega
  have e3 : n / 10 / 100 % 10 = n / 1000 % 10 := by omega
  rw [e1, e2, e3, if_neg (show ¬ (1000 ≤ n / 10 ∨ 1000 = 1) by omega), if_pos (show 1 ≤ n / 10 ∨ 1 = 1 from Or.inr rfl), if_pos (show 1 ≤ n ∨ 1 = 1 from Or.inr rfl), if_pos (show 10 ≤ n ∨ 10 = 1 from Or.inl h), Nat.div_one]
  by_cases c1 : 1000 ≤ n
  · rw [if_pos (show 1000 ≤ n ∨ 1000 = 1 from Or.inl c1), if_pos (show 100 ≤ n ∨ 100 = 1 by omega), if_pos (show 100 ≤ n / 10 ∨ 100 = 1 by omega), if_pos (show 10 ≤ n / 10 ∨ 10 = 1 by omega)]; rfl
  · rw [if_neg (show ¬ (1000 ≤ n ∨ 1000 = 1) by omega), if_neg (show ¬ (100 ≤ n / 10 ∨ 100 = 1) by omega)]
    by_cases c2 : 100 ≤ n
    · rw [if_pos (show 100 ≤ n ∨ 100 = 1 by omega), if_pos (show 10 ≤ n / 10 ∨ 10 = 1 by omega)]; rfl
    · rw [if_neg (show ¬ (100 ≤ n ∨ 100 = 1) by omega), if_neg (show ¬ (10 ≤ n / 10 ∨ 10 = 1) by omega)]; rfl
theorem dg_1 {n : Nat} (h : n < 10) : dg n = [nI (48 + n % 10)] := by
  unfold dg dgu
  rw [if_neg (show ¬ (1000 ≤ n ∨ 1000 = 1) by omega), if_neg (show ¬ (100 ≤ n ∨ 100 = 1) by omega), if_neg (show ¬ (10 ≤ n ∨ 10 = 1) by omega), if_pos (show 1 ≤ n ∨ 1 = 1 from Or.inr rfl), Nat.div_one]; rfl
theorem m_num {N0 : Mem} : ∀ (d : Nat) {N : Mem} {w : List Int32} {n : Nat}, PM N0 N w → n < 10000 → n < 10 ^ (d + 1) → w.length + 4 ≤ 96 → ∃ N', fX10_writes_ (d + 1) N (nI n) = some ((), N') ∧ PM N0 N' (w ++ dg n) := by
  intro d
  have fin : ∀ {N : Mem} {w : List Int32} {n : Nat}, PM N0 N w → n < 10000 → w.length < 96 → (bnd (mset N 0 13 ((N 0 13) + 1)) (fun M3 => grd (nz 10) (grd (inb (N 0 13) 120) (bnd (mset M3 6 (N 0 13).toNatClampNeg (48 + (nI n - nI n / 10 * 10))) (fun M4 => some ((), M4)))))) = some ((), mset (mset N 0 13 (nI (w.length + 1))) 6 w.length (nI (48 + n % 10))) := fun {N} {w} {n} h hn hl => by
    rw [h.2.2.1, bnd_e, grd_T (by decide), grd_T (inb_nI (by omega) (by omega)), nI_clamp (by omega), dig_10 hn, (dig_ch (by omega)).2.2, bnd_e, nI_1]
  induction d with
  | zero =>
    intro N w n h hn h1 hl
    refine ⟨mset (mset N 0 13 (nI (w.length + 1))) 6 w.length (nI (48 + n % 10)), ?_, ?_⟩
    · show fX10_writes__B (fX10_writes_ 0) N (nI n) = _
      unfold fX10_writes__B
      rw [jn_e, if_pos (show nI n ≤ (9 : Int32) from nI_le (b := 9) (by omega) (by omega))]
      exact fin h hn (by omega)
    · rw [dg_1 (by omega)]; exact m_sign h (by omega)
  | succ d ih =>
    intro N w n h hn h1 hl
    show ∃ N', fX10_writes__B (fX10_writes_ (d + 1)) N (nI n) = some ((), N') ∧ _
    unfold fX10_writes__B
    rw [jn_e]
    by_cases c : n < 10
    · refine ⟨mset (mset N 0 13 (nI (w.length + 1))) 6 w.length (nI (48 + n % 10)), ?_, ?_⟩
      · rw [if_pos (show nI n ≤ (9 : Int32) from nI_le (b := 9) (by omega) (by omega))]
        exact fin h hn (by omega)
      · rw [dg_1 c]; exact m_sign h (by omega)
    · have hp : n / 10 < 10 ^ (d + 1) := by
        rw [Nat.pow_succ] at h1
        omega
      obtain ⟨K, a, b⟩ := ih h (n := n / 10) (by omega) hp hl
      have a' : fX10_writes_ (d + 1) N (nI n / 10) = some ((), K) := by
        rw [show (10 : Int32) = nI 10 from rfl, nI_div (by omega) (by omega) (by omega)]; exact a
      have hd3 : (dg (n / 10)).length ≤ 3 := by
        unfold dg
        have x := dgu_len (n / 10) 100; have y := dgu_len (n / 10) 10; have z := dgu_len (n / 10) 1
        have u : (dgu (n / 10) 1000).length = 0 := by unfold dgu; rw [if_neg (by omega)]; rfl
        simp only [List.length_append]; omega
      have hl2 : (w ++ dg (n / 10)).length < 96 := by rw [List.length_append]; omega
      refine ⟨mset (mset K 0 13 (nI ((w ++ dg (n / 10)).length + 1))) 6 (w ++ dg (n / 10)).length (nI (48 + n % 10)), ?_, ?_⟩
      · rw [if_neg (show ¬ nI n ≤ (9 : Int32) from nI_ge (a := 9) (by omega) (by omega)), grd_T (by decide), a', cl_e]
        exact fin b hn hl2
      · rw [dg_rec hn (by omega), ← List.append_assoc]; exact m_sign b hl2
