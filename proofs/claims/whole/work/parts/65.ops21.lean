/-! call: junction -/
def dfj (i : Nat) : Int32 := if i = 4 ∨ i = 5 ∨ i = 6 ∨ 85 ≤ i then -1 else 0
def jmem (N : Mem) (n : Nat) : Nat → Mem
  | 0 => N
  | i + 1 => mset (jmem N n i) 1 (ix n i) (dfj i)
theorem ix_w {n a b : Nat} (h : ix n a = ix n b) : a = b := by unfold ix at h; omega
theorem jmem_o (N : Mem) (n : Nat) {r : Nat} (hr : r ≠ 1) : ∀ i, jmem N n i r = N r
  | 0 => rfl
  | i + 1 => (ms_other _ _ _ hr).trans (jmem_o N n hr i)
theorem jmem_h (N : Mem) (n : Nat) : ∀ i q, q < i → jmem N n i 1 (ix n q) = dfj q
  | 0, q, h => absurd h (by omega)
  | i + 1, q, h => by
    show mset _ 1 _ _ 1 _ = _
    rw [ms_same]
    by_cases e : q = i
    · subst e; rw [up_at, if_pos rfl]
    · rw [pk_un (fun z => e (ix_w z))]; exact jmem_h N n i q (by omega)
theorem jmem_k (N : Mem) (n : Nat) {k : Nat} : ∀ i, (∀ q, q < i → k ≠ ix n q) → jmem N n i 1 k = N 1 k
  | 0, _ => rfl
  | i + 1, h => by
    show mset _ 1 _ _ 1 _ = _
    rw [ms_same, pk_un (h i (by omega))]; exact jmem_k N n i (fun q hq => h q (by omega))
theorem m_junction_lp (N : Mem) {n : Nat} (hn : n < 4) (k13 : Mem → Option (Int32 × Mem)) : lp (fX10_junction_L1 (nI n) k13) FU (0, N) = k13 (jmem N n 121) := by
  refine lp_at (fun i => (nI i, jmem N n i)) 121 (by omega) rfl (fun i hi k => ?_) (fun k => ?_)
  · simp only [fX10_junction_L1, fX10_at]
    have ea : (6 : Int32) + 121 * nI n + nI i = nI (ix n i) := at_ix n i
    have ib' : inb (nI (ix n i)) 490 = true := ib 490 (by unfold ix; omega) (by omega)
    rw [if_neg (show ¬ (121 : Int32) ≤ nI i from nI_ge (b := 121) hi (by omega))]
    simp only [clp_e, jn_e, bnd_e, nI_1, ea, grd_T ib', nI_clamp (show ix n i < 2 ^ 31 by unfold ix; omega)]
    show _ = k (nI (i + 1), mset (jmem N n i) 1 (ix n i) (dfj i))
    unfold dfj
    by_cases c85 : 85 ≤ i
    · rw [if_pos (show (85 : Int32) ≤ nI i from nI_le (a := 85) c85 (by omega)), if_pos (by omega)]
    · rw [if_neg (show ¬ (85 : Int32) ≤ nI i from nI_ge (b := 85) (by omega) (by omega))]
      by_cases c4 : i = 4
      · subst c4; rw [if_pos (show nI 4 = 4 from rfl), if_pos (by omega)]
      · rw [if_neg (show ¬ nI i = 4 from fun z => c4 ((nI_eq (a := i) (b := 4) (by omega) (by omega)).mp z))]
        by_cases c5 : i = 5
        · subst c5; rw [if_pos (show nI 5 = 5 from rfl), if_pos (by omega)]
        · rw [if_neg (show ¬ nI i = 5 from fun z => c5 ((nI_eq (a := i) (b := 5) (by omega) (by omega)).mp z))]
          by_cases c6 : i = 6
          · subst c6; rw [if_pos (show nI 6 = 6 from rfl), if_pos (by omega)]
          · rw [if_neg (show ¬ nI i = 6 from fun z => c6 ((nI_eq (a := i) (b := 6) (by omega) (by omega)).mp z)), if_neg (by omega)]
  · simp only [fX10_junction_L1]
    rw [if_pos (show (121 : Int32) ≤ nI 121 from nI_le (a := 121) (b := 121) (by omega) (by omega))]
/-- the state with a new junction n at p -/
def JA (A A' : Ar) (n : Nat) (p : Int32) : Prop := A' 2 = nI (n + 1) ∧ A' (ix n 0) = p ∧ (∀ i, 1 ≤ i → i < 121 → A' (ix n i) = dfj i) ∧ ∀ k, k ≠ 2 → (∀ i, i < 121 → k ≠ ix n i) → A' k = A k
theorem RJ_cong2 {M : Mem} {J : Nat} {A A' : Ar} {j : Nat} (h2 : nI j < A' 2 ↔ nI j < A 2) (hk : ∀ k, k < 121 → A' (ix j k) = A (ix j k)) (h : RJ M J A j) : RJ M J A' j := by
  have hg : ∀ g w, g < 6 → w < 13 → A' (gx j g w) = A (gx j g w) := fun g w hg hw => by rw [ix_gx]; exact hk _ (by omega)
  have hc : ∀ a b, a < 6 → b < 6 → A' (cx j a b) = A (cx j a b) := fun a b ha hb => by rw [ix_cx]; exact hk _ (by omega)
  have hl : ∀ x, lvj A' j x = lvj A j x := fun x => by
    unfold lvj
    by_cases c : nI j < A 2
    · rw [if_pos c, if_pos (h2.mpr c)]
    · rw [if_neg c, if_neg (fun z => c (h2.mp z))]
  obtain ⟨i1, i2, i3, i4, i5, i6, i7, i8, i9, i10, i11, i12, i13⟩ := h
  refine ⟨fun w hw => by rw [hk w (by omega)]; exact i1 w hw, ?_, ?_, ?_, fun d hd => ?_, fun g h6 => by rw [hg g 0 h6 (by omega)]; exact i6 g h6, fun g h6 => by rw [hg g 1 h6 (by omega)]; exact i7 g h6, fun g h6 => by rw [hg g 3 h6 (by omega)]; exact i8 g h6, fun g h6 => ?_, fun g h6 p hp => ?_, fun a ha b hb => ?_, fun p hp g h6 => ?_, fun p hp g h6 => ?_⟩
  · rw [i2, hl, hk 4 (by omega)]
  · rw [i3]; exact bits_cong 6 (fun i hi => by unfold rq; rw [hg i 2 hi (by omega)])
  · rw [i4]; exact bits_cong 6 (fun i hi => by unfold gv; rw [hg i 5 hi (by omega)])
  · rw [i5 d hd, hl, hk (5 + d) (by omega)]
  · rw [i9 g h6]; unfold lvg; rw [hk 2 (by omega), hg g 4 h6 (by omega)]
  · rw [i10 g h6 p hp]; unfold lvg; rw [hk 2 (by omega), hg g (6 + p) h6 (by omega)]
  · rw [i11 a ha b hb, hl]; unfold kl; rw [hc a b ha hb]
  · rw [i12 p hp g h6]; unfold fs; rw [hg g (9 + 2 * p) h6 (by omega)]
  · rw [i13 p hp g h6]; unfold ln; rw [hg g (10 + 2 * p) h6 (by omega)]
theorem RJ_jun {M : Mem} {J n : Nat} {A A' : Ar} {p : Int32} (h : RJ M J A n) (hd : ∀ k, k < 121 → A (ix n k) = 0) (hn : A 2 = nI n) (hn4 : n < 4) (hJ : JA A A' n p) : RJ (mset M J 0 p) J A' n := by
  obtain ⟨g1, g2, g3, g4⟩ := hJ
  have dg : ∀ g w, g < 6 → w < 13 → A (gx n g w) = 0 := fun g w hg hw => by rw [ix_gx]; exact hd _ (by omega)
  have eg : ∀ g w, g < 6 → w < 13 → A' (gx n g w) = 0 := fun g w hg hw => by
    rw [ix_gx, g3 _ (by omega) (by omega)]; unfold dfj; rw [if_neg (by omega)]
  have e2 : A' (ix n 2) = 0 := by rw [g3 2 (by omega) (by omega)]; unfold dfj; rw [if_neg (by omega)]
  have hl : ∀ x, lvj A n x = -1 := fun x => by unfold lvj; rw [hn, if_neg (nI_nlt (Nat.le_refl _) (by omega))]
  have hl' : ∀ x, lvj A' n x = x := fun x => by unfold lvj; rw [g1, if_pos (nI_lt (by omega) (by omega))]
  have hg : ∀ g x y, g < 6 → lvg A' n g x = lvg A n g y := fun g x y h6 => by
    have nl : ¬ nI g < (0 : Int32) := show ¬ nI g < nI 0 from nI_nlt (Nat.zero_le _) (by omega)
    unfold lvg
    rw [e2, hd 2 (by omega), if_neg nl, if_neg nl]
  obtain ⟨i1, i2, i3, i4, i5, i6, i7, i8, i9, i10, i11, i12, i13⟩ := h
  refine ⟨fun w hw => ?_, ?_, ?_, ?_, fun d hd' => ?_, fun g h6 => ?_, fun g h6 => ?_, fun g h6 => ?_, fun g h6 => ?_, fun g h6 p hp => ?_, fun a ha b hb => ?_, fun p hp g h6 => ?_, fun p hp g h6 => ?_⟩
  · by_cases c : w = 0
    · subst c; rw [ms_at, if_pos ⟨rfl, rfl⟩, g2]
    · rw [ms_at, if_neg (by omega), i1 w hw, hd w (by omega), g3 w (by omega) (by omega)]; unfold dfj; rw [if_neg (by omega)]
  · rw [ms_at, if_neg (by omega), i2, hl, hl', g3 4 (by omega) (by omega)]; unfold dfj; rw [if_pos (by omega)]
  · rw [ms_at, if_neg (by omega), i3]; exact bits_cong 6 (fun i hi => by unfold rq; rw [dg i 2 hi (by omega), eg i 2 hi (by omega)])
  · rw [ms_at, if_neg (by omega), i4]; exact bits_cong 6 (fun i hi => by unfold gv; rw [dg i 5 hi (by omega), eg i 5 hi (by omega)])
  · rw [ms_other _ _ _ (by omega), i5 d hd', hl, hl', g3 (5 + d) (by omega) (by omega)]; unfold dfj; rw [if_pos (by omega)]
  · rw [ms_other _ _ _ (by omega), i6 g h6, dg g 0 h6 (by omega), eg g 0 h6 (by omega)]
  · rw [ms_other _ _ _ (by omega), i7 g h6, dg g 1 h6 (by omega), eg g 1 h6 (by omega)]
  · rw [ms_other _ _ _ (by omega), i8 g h6, dg g 3 h6 (by omega), eg g 3 h6 (by omega)]
  · rw [ms_other _ _ _ (by omega), i9 g h6]; exact (hg g _ _ h6).symm
  · rw [ms_other _ _ _ (by omega), i10 g h6 p hp]; exact (hg g _ _ h6).symm
  · rw [ms_other _ _ _ (by omega), i11 a ha b hb, hl, hl']; unfold kl; rw [ix_cx, g3 _ (by omega) (by omega)]; unfold dfj; rw [if_pos (by omega)]
  · rw [ms_other _ _ _ (by omega), i12 p hp g h6]; unfold fs; rw [dg g (9 + 2 * p) h6 (by omega), eg g (9 + 2 * p) h6 (by omega)]
  · rw [ms_other _ _ _ (by omega), i13 p hp g h6]; unfold ln; rw [dg g (10 + 2 * p) h6 (by omega), eg g (10 + 2 * p) h6 (by omega)]
theorem VJ_jun {A A' : Ar} {n : Nat} {p : Int32} (V : Val A) (hn4 : n < 4) (hJ : JA A A' n p) (hp : bt p 0 9999) : VJ A' n := by
  obtain ⟨g1, g2, g3, g4⟩ := hJ
  have eg : ∀ g w, g < 6 → w < 13 → A' (gx n g w) = 0 := fun g w hg hw => by
    rw [ix_gx, g3 _ (by omega) (by omega)]; unfold dfj; rw [if_neg (by omega)]
  have ez : ∀ w, 1 ≤ w → w < 4 → A' (ix n w) = 0 := fun w h1 h2 => by rw [g3 w h1 (by omega)]; unfold dfj; rw [if_neg (by omega)]
  have em : ∀ w, 4 ≤ w → w < 7 → A' (ix n w) = -1 := fun w h1 h2 => by rw [g3 w (by omega) (by omega)]; unfold dfj; rw [if_pos (by omega)]
  have ek : ∀ a b, a < 6 → b < 6 → kl A' n a b = -1 := fun a b ha hb => by unfold kl; rw [ix_cx, g3 _ (by omega) (by omega)]; unfold dfj; rw [if_pos (by omega)]
  have e0 : A' 0 = A 0 := g4 0 (by omega) (fun i hi => by unfold ix; omega)
  have e3 : A' 3 = A 3 := g4 3 (by omega) (fun i hi => by unfold ix; omega)
  have z0 : Int32.toInt 0 = 0 := rfl
  have zm : Int32.toInt (-1) = -1 := by decide
  have hc := V.1.1.1
  have ht := V.1.2.2.2.1.1
  refine ⟨by rw [g2]; exact hp, by rw [ez 1 (by omega) (by omega), e0]; unfold bt; rw [z0]; omega, by rw [ez 2 (by omega) (by omega)]; unfold bt; rw [z0]; omega, by rw [ez 3 (by omega) (by omega)]; unfold bt; rw [z0]; omega, by rw [em 4 (by omega) (by omega)]; unfold bt; rw [zm]; omega, fun d hd => by rw [em (5 + d) (by omega) (by omega), ez 2 (by omega) (by omega)]; unfold bt; rw [zm, z0]; omega, fun g hg => ?_, fun a ha b hb => ?_⟩
  · have nl : ¬ nI g < (0 : Int32) := show ¬ nI g < nI 0 from nI_nlt (Nat.zero_le _) (by omega)
    have e2 := ez 2 (by omega) (by omega)
    refine ⟨by rw [eg g 0 hg (by omega)]; unfold bt; rw [z0]; omega, by rw [eg g 1 hg (by omega)]; unfold bt; rw [z0]; omega, by rw [eg g 2 hg (by omega)]; unfold bt; rw [z0]; omega, by rw [eg g 3 hg (by omega), e3]; unfold bt; rw [z0]; omega, by rw [eg g 4 hg (by omega), e3]; unfold bt; rw [z0]; omega, by rw [eg g 5 hg (by omega)]; unfold bt; rw [z0]; omega, fun p hp => by rw [eg g (6 + p) hg (by omega)]; unfold bt; rw [z0]; omega, fun p hp => ?_, fun hl => absurd hl (by rw [e2]; exact nl), fun _ w hw => eg g w hg hw⟩
    unfold fs ln
    rw [eg g (9 + 2 * p) hg (by omega), eg g (10 + 2 * p) hg (by omega), e0]
    unfold bt; rw [z0]
    exact ⟨by omega, by omega, fun _ => rfl⟩
  · have nn : ¬ (0 : Int32) ≤ -1 := by decide
    unfold VC
    rw [ek a b ha hb, ek b a hb ha]
    exact ⟨by unfold bt; rw [zm]; omega, fun h => h, fun h => absurd h nn, fun h => absurd h nn⟩
theorem Val_jun {A A' : Ar} {n : Nat} {p : Int32} (V : Val A) (hn : A 2 = nI n) (hn4 : n < 4) (hJ : JA A A' n p) (hp : bt p 0 9999) (hl : ∀ m, m + 1 = n → A (ix m 0) < p) : Val A' := by
  have vn := VJ_jun V hn4 hJ hp
  obtain ⟨g1, g2, g3, g4⟩ := hJ
  obtain ⟨v0, v1, v2, v3⟩ := V
  have e : ∀ k, k < 6 → k ≠ 2 → A' k = A k := fun k hk h2 => g4 k h2 (fun i hi => by unfold ix; omega)
  have ei : ∀ j k, j ≠ n → k < 121 → A' (ix j k) = A (ix j k) := fun j k hj hk => g4 _ (by unfold ix; omega) (fun i hi => by unfold ix; omega)
  have lt : ∀ j, j < 4 → (nI j < A' 2 ↔ j < n + 1) := fun j hj => by rw [g1]; exact nI_ltI (by omega) (by omega)
  have lt' : ∀ j, j < 4 → (nI j < A 2 ↔ j < n) := fun j hj => by rw [hn]; exact nI_ltI (by omega) (by omega)
  refine ⟨?_, fun j hj hlj => ?_, fun j hj hlj k hk => ?_, fun j hj hlj => ?_⟩
  · unfold V0
    rw [e 0 (by omega) (by omega), e 1 (by omega) (by omega), e 3 (by omega) (by omega), e 4 (by omega) (by omega), g1]
    exact ⟨v0.1, v0.2.1, by unfold bt; rw [nI_toInt (by omega)]; omega, v0.2.2.2⟩
  · rw [lt j hj] at hlj
    by_cases c : j = n
    · subst c; exact vn
    · exact VJ_cong (e 0 (by omega) (by omega)) (e 3 (by omega) (by omega)) (fun k hk => ei j k c hk) (v1 j hj ((lt' j hj).mpr (by omega)))
  · rw [lt j hj] at hlj
    rw [ei j k (by omega) hk]; exact v2 j hj (fun z => hlj (by rw [lt' j hj] at z; omega)) k hk
  · rw [lt (j + 1) (by omega)] at hlj
    by_cases c : j + 1 = n
    · subst c; rw [ei j 0 (by omega) (by omega), g2]; exact hl j rfl
    · rw [ei j 0 (by omega) (by omega), ei (j + 1) 0 c (by omega)]; exact v3 j hj ((lt' (j + 1) (by omega)).mpr (by omega))
theorem RS_jun {M : Mem} {A A' : Ar} {n : Nat} {p : Int32} (V : Val A) (h : RS M 1 A) (hn : A 2 = nI n) (hn4 : n < 4) (hJ : JA A A' n p) : RS (mset (mset M (1 + 2 + 10 * n) 0 p) 1 3 (nI (n + 1))) 1 A' := by
  have hd := V.2.2.1 n hn4 (by rw [hn]; exact nI_nlt (Nat.le_refl _) (by omega))
  have hJ' := hJ
  obtain ⟨g1, g2, g3, g4⟩ := hJ
  have e : ∀ k, k < 6 → k ≠ 2 → A' k = A k := fun k hk h2 => g4 k h2 (fun i hi => by unfold ix; omega)
  have lt : ∀ j, j < 4 → (nI j < A' 2 ↔ j < n + 1) := fun j hj => by rw [g1]; exact nI_ltI (by omega) (by omega)
  have lt' : ∀ j, j < 4 → (nI j < A 2 ↔ j < n) := fun j hj => by rw [hn]; exact nI_ltI (by omega) (by omega)
  obtain ⟨h1, h2, h3, h4, h5, h6, h7, h8⟩ := h
  have k56 : ∀ o w, 5 ≤ w → mset (mset M (1 + 2 + 10 * n) 0 p) 1 3 (nI (n + 1)) o w = M o w := fun o w hw => by rw [ms_at, if_neg (by omega), ms_at, if_neg (by omega)]
  refine ⟨?_, ?_, ?_, ?_, fun j hj => ?_, ?_, ?_, fun j hj hl => ?_⟩
  · rw [ms_at, if_neg (by omega), ms_other _ _ _ (by omega), h1, e 0 (by omega) (by omega)]
  · rw [ms_at, if_neg (by omega), ms_other _ _ _ (by omega), h2, e 1 (by omega) (by omega)]
  · rw [ms_at, if_pos ⟨rfl, rfl⟩, g1]
  · rw [ms_at, if_neg (by omega), ms_other _ _ _ (by omega), h4, e 3 (by omega) (by omega)]
  · by_cases c : j = n
    · subst c
      exact RJ_copy (M := mset M (1 + 2 + 10 * j) 0 p) (J := 1 + 2 + 10 * j) (fun c k _ _ => by rw [ms_other _ _ _ (by omega)]) (RJ_jun (h5 j hj) hd hn hn4 hJ')
    · refine RJ_cong2 (by rw [lt j hj, lt' j hj]; omega) (fun k hk => g4 _ (by unfold ix; omega) (fun i hi => by unfold ix; omega)) (RJ_copy (fun c k hc _ => ?_) (h5 j hj))
      rw [ms_other _ _ _ (by omega), ms_other _ _ _ (by omega)]
  · rw [k56 _ _ (by omega), k56 _ _ (by omega), k56 _ _ (by omega), k56 _ _ (by omega), h6, e 4 (by omega) (by omega)]
  · rw [k56 _ _ (by omega), k56 _ _ (by omega), k56 _ _ (by omega), k56 _ _ (by omega), h7, e 5 (by omega) (by omega)]
  · rw [k56 _ _ (by omega), k56 _ _ (by omega)]
    exact h8 j hj (fun z => hl ((lt j hj).mpr (by rw [lt' j hj] at z; omega)))
def lastp (A : Ar) (n : Nat) : Int32 := if n = 0 then -1 else A (ix (n - 1) 0)
theorem x_last {M : Mem} {A : Ar} {n : Nat} (h : RS M 1 A) (hn : A 2 = nI n) (hn4 : n ≤ 4) : fX6_lastPosition M 1 = some (lastp A n) := by
  unfold fX6_lastPosition lastp
  rw [jn_e, h.w3, hn]
  by_cases c : n = 0
  · subst c; rw [if_pos (by decide), if_pos rfl]
  · have e1 : nI n - 1 = nI (n - 1) := nI_sub (b := 1) (by omega)
    rw [if_neg (show ¬ nI n ≤ (0 : Int32) from nI_ge (a := 0) (by omega) (by omega)), if_neg c, e1, grd_T (inb_nI (by omega) (by omega)), nI_clamp (by omega), (h.j (j := n - 1) (by omega)).w (by omega)]
theorem m_jhead {N : Mem} (V : Val (N 1)) {n : Nat} (hn : N 1 2 = nI n) (hn4 : n ≤ 4) (p : Int32) (bad good : Option (Int32 × Mem)) :
    clp (fX10_in N p 0 9999) (fun x3 => if x3 = 0 then bad else (if nI n ≤ 0 then good else clp (fX10_of N (nI n - 1) 0) (fun x28 => if x28 < p then good else bad))) = if (decide (lastp (N 1) n + 1 ≤ p) && decide (p ≤ 9999)) = true then good else bad := by
  rw [f_in, clp_e, b01_ite]
  unfold lastp
  by_cases c : n = 0
  · subst c; rw [if_pos (show nI 0 ≤ 0 by decide), if_pos rfl, show (-1 : Int32) + 1 = 0 from by decide]
  · have e1 : nI n - 1 = nI (n - 1) := nI_sub (b := 1) (by omega)
    rw [if_neg (show ¬ nI n ≤ (0 : Int32) from nI_ge (a := 0) (by omega) (by omega)), if_neg c, e1, m_of0 (by omega), clp_e]
    have q := (V.2.1 (n - 1) (by omega) (by rw [hn]; exact nI_lt (by omega) (by omega))).1
    obtain ⟨x, hx⟩ : ∃ x, x = N 1 (ix (n - 1) 0) := ⟨_, rfl⟩
    rw [← hx] at q ⊢
    have z0 : Int32.toInt 0 = 0 := rfl
    have z1 : Int32.toInt 1 = 1 := rfl
    have e2 : (x + 1).toInt = x.toInt + 1 := by rw [ti_add (by rw [z1]; have := q.1; omega) (by rw [z1]; have := q.2; omega), z1]
    have q1 := q.1
    have q2 := q.2
    by_cases c1 : x + 1 ≤ p
    · have c2 : x < p := by rw [ti_le, e2] at c1; rw [ti_lt]; omega
      have c3 : (0 : Int32) ≤ p := by rw [ti_le, e2] at c1; rw [ti_le, z0]; omega
      rw [if_pos c2, decide_eq_true c1, decide_eq_true c3]
    · have c2 : ¬ x < p := by rw [ti_le, e2] at c1; rw [ti_lt]; omega
      rw [if_neg c2, decide_eq_false c1, Bool.false_and, if_neg (show ¬ false = true by decide)]
      split <;> rfl
theorem jun_p {A : Ar} (V : Val A) {n : Nat} (hn : A 2 = nI n) (hn4 : n ≤ 4) {p : Int32} (hp : (decide (lastp A n + 1 ≤ p) && decide (p ≤ 9999)) = true) : bt p 0 9999 ∧ ∀ m, m + 1 = n → A (ix m 0) < p := by
  obtain ⟨h1, h2⟩ := dec_ct hp
  unfold lastp at h1
  have z1 : Int32.toInt 1 = 1 := rfl
  have z9 : Int32.toInt 9999 = 9999 := rfl
  rw [z9] at h2
  by_cases c : n = 0
  · rw [if_pos c, show ((-1 : Int32) + 1).toInt = 0 from by decide] at h1
    exact ⟨⟨h1, h2⟩, fun m hm => absurd hm (by omega)⟩
  · rw [if_neg c] at h1
    have q := (V.2.1 (n - 1) (by omega) (by rw [hn]; exact nI_lt (by omega) (by omega))).1
    have q1 := q.1
    have q2 := q.2
    rw [ti_add (by rw [z1]; omega) (by rw [z1]; omega), z1] at h1
    refine ⟨⟨by omega, h2⟩, fun m hm => ?_⟩
    have e : n - 1 = m := by omega
    rw [e] at h1
    rw [ti_lt]; omega
section O21
variable {Mx Mm : Mem}
theorem st_junction (I : Inv Mx Mm) (p : Int32) : ∃ rx Mx' vm Mm', fX9_junction Mx p = some (rx, Mx') ∧ fX10_junction Mm p = some (vm, Mm') ∧ Agr [1, 2] rx vm Mm' ∧ Inv Mx' Mm' := by
  have I0 := I.th 0
  obtain ⟨N, hN⟩ : ∃ z, z = mset Mm 0 0 0 := ⟨_, rfl⟩
  rw [← hN] at I0
  obtain ⟨hR, hV, hH, hT⟩ := id I0
  have h00 : N 0 0 = 0 := by rw [hN, ms_at, if_pos ⟨rfl, rfl⟩]
  obtain ⟨n, hn4, hn⟩ := hV.ct
  unfold fX9_junction fX10_junction
  simp only [bnd_e, ← hN, jn_e, grd_T ib2, tc2]
  rw [x_last hR hn hn4, clp_e, f_isWithin, clp_e, hn, m_jhead hV hn hn4]
  by_cases hp : (decide (lastp (N 1) n + 1 ≤ p) && decide (p ≤ 9999)) = true
  · rw [if_pos hp, hp, b01_T, need_T', clpm_r, hR.w3, hn]
    by_cases h4 : n = 4
    · subst h4
      rw [if_pos (by decide), if_pos (by decide), need_3', clpm_l, m_raises, cl_e]
      exact ⟨_, _, _, _, rfl, rfl, fin_x I0 1 rfl _ _ rfl⟩
    · have hn4' : n < 4 := by omega
      rw [if_neg (show ¬ (4 : Int32) ≤ nI n from nI_ge (b := 4) hn4' (by omega)), if_neg (show ¬ nI n = 4 from fun z => h4 ((nI_eq (a := n) (b := 4) (by omega) (by omega)).mp z)), need_T', clpm_r]
      obtain ⟨Mx1, K, a1, a2, a3, a4, a5, a6, a7, a8⟩ := changes_ok I0
      have k1 : K 1 = N 1 := a3 1 (by omega) (by omega) (by omega)
      have i0 : inb (nI (ix n 0)) 490 = true := ib 490 (by unfold ix; omega) (by omega)
      have ex : (6 : Int32) + 121 * nI n = nI (ix n 0) := at_nI n
      have m3 : mset Mx1 (1 + 2 + 10 * n) 0 p 1 3 = nI n := by rw [ms_other _ _ _ (by omega), a7.w3, hn]
      unfold fX6_addJunction fX10_at
      rw [a1, cl_e, a2, cl_e, m_junction_lp K hn4' _, clp_e, ex, grd_T i0, nI_clamp (show ix n 0 < 2 ^ 31 by unfold ix; omega), bnd_e, bnd_e, a7.w3, hn, grd_T (inb_nI hn4' (by omega)), nI_clamp (by omega), cl_e, m3]
      obtain ⟨L, hL⟩ : ∃ L, L = mset (jmem K n 121) 1 (ix n 0) p := ⟨_, rfl⟩
      have l2 : L 1 2 = nI n := by rw [hL, ms_same, pk_un (by unfold ix; omega), jmem_k K n 121 (fun q hq => by unfold ix; omega), k1, hn]
      rw [← hL, l2]
      have Lo : ∀ r, r ≠ 1 → mset L 1 2 (nI n + 1) r = K r := fun r hr => by rw [ms_other _ _ _ hr, hL, ms_other _ _ _ hr, jmem_o K n hr]
      have L1 : JA (N 1) (mset L 1 2 (nI n + 1) 1) n p := by
        rw [hL]
        simp only [ms_same]
        refine ⟨?_, ?_, fun i h3 h13 => ?_, fun k hk1 hk2 => ?_⟩
        · rw [up_at, if_pos rfl, nI_1]
        · rw [pk_un (by unfold ix; omega), up_at, if_pos rfl]
        · rw [pk_un (by unfold ix; omega), pk_un (fun z => absurd (ix_w z) (by omega)), jmem_h K n 121 i h13]
        · rw [pk_un hk1, pk_un (hk2 0 (by omega)), jmem_k K n 121 hk2, k1]
      obtain ⟨hb, hl⟩ := jun_p hV hn hn4 hp
      refine ⟨_, _, _, _, rfl, rfl, ⟨by rw [Lo 0 (by omega), a4 0 (by omega), h00], ?_⟩, ?_⟩
      · show nI n = _
        rw [ms_at, if_pos ⟨rfl, rfl⟩, Int32.add_sub_cancel]
      · have lM : MF K (mset L 1 2 (nI n + 1)) := ⟨fun k _ => by rw [Lo 0 (by omega)], Lo 2 (by omega), Lo 3 (by omega), Lo 5 (by omega), Lo 6 (by omega)⟩
        have rs := RS_jun hV a7 hn hn4' L1
        rw [← nI_1 n] at rs
        refine Inv.of rs (Val_jun hV hn hn4' L1 hb hl) (XF.set (XF.set (XF.rf Mx1) (by omega)) (by omega)) lM a5 a6
  · rw [if_neg hp, Bool.not_eq_true _ |>.mp hp, b01_F, need_2', clpm_l, m_raises, cl_e]
    exact ⟨_, _, _, _, rfl, rfl, fin_x I0 0 rfl _ _ rfl⟩
end O21
