/-! copies of states, the history -/
theorem lp_inv {S β : Type} {f : (S → Option β) → S → Option β} (I : Nat → S → Prop) (Q : Option β → Prop) (N : Nat) (hN : N < 100000) (hs : ∀ i, i < N → ∀ s, I i s → (∃ s', I (i + 1) s' ∧ ∀ k, f k s = k s') ∨ (∃ r, Q r ∧ ∀ k, f k s = r)) (he : ∀ s, I N s → ∃ r, Q r ∧ ∀ k, f k s = r) : ∀ s, I 0 s → Q (lp f FU s) := by
  have key : ∀ d i F s, N - i = d → i ≤ N → d < F → I i s → Q (lp f F s) := by
    intro d
    induction d with
    | zero =>
      intro i F s h1 h2 h3 h4
      obtain ⟨F, rfl⟩ : ∃ z, F = z + 1 := ⟨F - 1, by omega⟩
      have e : i = N := by omega
      subst e
      obtain ⟨r, h5, h6⟩ := he s h4
      rw [lp_s, h6]; exact h5
    | succ d ih =>
      intro i F s h1 h2 h3 h4
      obtain ⟨F, rfl⟩ : ∃ z, F = z + 1 := ⟨F - 1, by omega⟩
      rcases hs i (by omega) s h4 with ⟨s', h5, h6⟩ | ⟨r, h5, h6⟩
      · rw [lp_s, h6]; exact ih (i + 1) F s' (by omega) (by omega) (by omega) h5
      · rw [lp_s, h6]; exact h5
  intro s h
  exact key N 0 FU s (Nat.sub_zero N) (Nat.zero_le _) hN h
theorem bnd_of {α β : Type} {v : α} {b : α → Option β} (Q : Option β → Prop) (h : ∀ x, x = v → Q (b x)) : Q (bnd v b) := h v rfl
def NN (c : Nat) : Nat := [9, 2, 6, 6, 6, 6, 18, 36, 12, 12].getD c 0
def CPr (M0 Mx : Mem) (j j0 : Nat) (D : Nat → Nat → Prop) : Prop := (∀ o, o < j ∨ j + 10 ≤ o → Mx o = M0 o) ∧ ∀ c k, c < 10 → D c k → Mx (j + c) k = M0 (j0 + c) k
theorem stepA {M0 Mx : Mem} {j j0 : Nat} (hd : j + 10 ≤ j0 ∨ j0 + 10 ≤ j) (m : Nat) (h : CPr M0 Mx j j0 (fun c k => c = 0 ∧ k < m)) : CPr M0 (mset Mx j m (Mx j0 m)) j j0 (fun c k => c = 0 ∧ k < m + 1) := by
  refine ⟨fun o ho => ?_, fun c k hc hk => ?_⟩
  · rw [ms_other _ _ _ (by omega), h.1 o ho]
  · obtain ⟨rfl, hk⟩ := hk
    rw [Nat.add_zero, Nat.add_zero, ms_at]
    by_cases e : k = m
    · subst e
      rw [if_pos ⟨rfl, rfl⟩, h.1 j0 (by omega)]
    · rw [if_neg (fun z => e z.2)]
      exact h.2 0 k (by omega) ⟨rfl, by omega⟩
theorem stepB {M0 Mx : Mem} {j j0 : Nat} (hd : j + 10 ≤ j0 ∨ j0 + 10 ≤ j) (m n : Nat) (hm : m < 10) (hn : NN m = n) (h : CPr M0 Mx j j0 (fun c k => c < m ∧ k < NN c)) : CPr M0 (va_up Mx (j + m) (va_cpy (Mx (j0 + m)) (Mx (j + m)) 0 0 n)) j j0 (fun c k => c < m + 1 ∧ k < NN c) := by
  subst hn
  refine ⟨fun o ho => ?_, fun c k hc hk => ?_⟩
  · have : o ≠ j + m := by omega
    simp only [va_up, if_neg this]
    exact h.1 o ho
  · obtain ⟨h1, h2⟩ := hk
    by_cases e : c = m
    · subst e
      simp only [va_up, if_true, va_cpy]
      rw [if_pos (by omega), h.1 (j0 + c) (by omega)]
      congr 1; omega
    · have : j + c ≠ j + m := by omega
      simp only [va_up, if_neg this]
      exact h.2 c k hc ⟨by omega, h2⟩
theorem x_copyJ (M : Mem) {j j0 : Nat} (hd : j + 10 ≤ j0 ∨ j0 + 10 ≤ j) : ∃ M', fX2_copyFrom M j j0 = some ((), M') ∧ CPr M M' j j0 (fun c k => c < 10 ∧ k < NN c) := by
  have h0 : CPr M M j j0 (fun c k => c = 0 ∧ k < 0) := ⟨fun _ _ => rfl, fun c k _ h => absurd h.2 (by omega)⟩
  unfold fX2_copyFrom
  refine bnd_of (fun r => ∃ M', r = some ((), M') ∧ CPr M M' j j0 (fun c k => c < 10 ∧ k < NN c)) (fun M1 e1 => ?_)
  have h1 := stepA hd 0 h0; rw [← e1] at h1
  refine bnd_of (fun r => ∃ M', r = some ((), M') ∧ CPr M M' j j0 (fun c k => c < 10 ∧ k < NN c)) (fun M2 e2 => ?_)
  have h2 := stepA hd 1 h1; rw [← e2] at h2
  refine bnd_of (fun r => ∃ M', r = some ((), M') ∧ CPr M M' j j0 (fun c k => c < 10 ∧ k < NN c)) (fun M3 e3 => ?_)
  have h3 := stepA hd 2 h2; rw [← e3] at h3
  refine bnd_of (fun r => ∃ M', r = some ((), M') ∧ CPr M M' j j0 (fun c k => c < 10 ∧ k < NN c)) (fun M4 e4 => ?_)
  have h4 := stepA hd 3 h3; rw [← e4] at h4
  refine bnd_of (fun r => ∃ M', r = some ((), M') ∧ CPr M M' j j0 (fun c k => c < 10 ∧ k < NN c)) (fun M5 e5 => ?_)
  have h5 := stepA hd 4 h4; rw [← e5] at h5
  refine bnd_of (fun r => ∃ M', r = some ((), M') ∧ CPr M M' j j0 (fun c k => c < 10 ∧ k < NN c)) (fun M6 e6 => ?_)
  have h6 := stepA hd 5 h5; rw [← e6] at h6
  refine bnd_of (fun r => ∃ M', r = some ((), M') ∧ CPr M M' j j0 (fun c k => c < 10 ∧ k < NN c)) (fun M7 e7 => ?_)
  have h7 := stepA hd 6 h6; rw [← e7] at h7
  refine bnd_of (fun r => ∃ M', r = some ((), M') ∧ CPr M M' j j0 (fun c k => c < 10 ∧ k < NN c)) (fun M8 e8 => ?_)
  have h8 := stepA hd 7 h7; rw [← e8] at h8
  refine bnd_of (fun r => ∃ M', r = some ((), M') ∧ CPr M M' j j0 (fun c k => c < 10 ∧ k < NN c)) (fun M9 e9 => ?_)
  have h9 := stepA hd 8 h8; rw [← e9] at h9
  have g0 : CPr M M9 j j0 (fun c k => c < 1 ∧ k < NN c) := ⟨h9.1, fun c k hc hk => by
    obtain ⟨ha, hb⟩ := hk
    have e : c = 0 := by omega
    subst e
    exact h9.2 0 k hc ⟨rfl, hb⟩⟩
  refine bnd_of (fun r => ∃ M', r = some ((), M') ∧ CPr M M' j j0 (fun c k => c < 10 ∧ k < NN c)) (fun N1 f1 => ?_)
  have g1 := stepB hd 1 2 (by omega) rfl g0; rw [← f1] at g1
  refine bnd_of (fun r => ∃ M', r = some ((), M') ∧ CPr M M' j j0 (fun c k => c < 10 ∧ k < NN c)) (fun N2 f2 => ?_)
  have g2 := stepB hd 2 6 (by omega) rfl g1; rw [← f2] at g2
  refine bnd_of (fun r => ∃ M', r = some ((), M') ∧ CPr M M' j j0 (fun c k => c < 10 ∧ k < NN c)) (fun N3 f3 => ?_)
  have g3 := stepB hd 3 6 (by omega) rfl g2; rw [← f3] at g3
  refine bnd_of (fun r => ∃ M', r = some ((), M') ∧ CPr M M' j j0 (fun c k => c < 10 ∧ k < NN c)) (fun N4 f4 => ?_)
  have g4 := stepB hd 4 6 (by omega) rfl g3; rw [← f4] at g4
  refine bnd_of (fun r => ∃ M', r = some ((), M') ∧ CPr M M' j j0 (fun c k => c < 10 ∧ k < NN c)) (fun N5 f5 => ?_)
  have g5 := stepB hd 5 6 (by omega) rfl g4; rw [← f5] at g5
  refine bnd_of (fun r => ∃ M', r = some ((), M') ∧ CPr M M' j j0 (fun c k => c < 10 ∧ k < NN c)) (fun N6 f6 => ?_)
  have g6 := stepB hd 6 18 (by omega) rfl g5; rw [← f6] at g6
  refine bnd_of (fun r => ∃ M', r = some ((), M') ∧ CPr M M' j j0 (fun c k => c < 10 ∧ k < NN c)) (fun N7 f7 => ?_)
  have g7 := stepB hd 7 36 (by omega) rfl g6; rw [← f7] at g7
  refine bnd_of (fun r => ∃ M', r = some ((), M') ∧ CPr M M' j j0 (fun c k => c < 10 ∧ k < NN c)) (fun N8 f8 => ?_)
  have g8 := stepB hd 8 12 (by omega) rfl g7; rw [← f8] at g8
  refine bnd_of (fun r => ∃ M', r = some ((), M') ∧ CPr M M' j j0 (fun c k => c < 10 ∧ k < NN c)) (fun N9 f9 => ?_)
  have g9 := stepB hd 9 12 (by omega) rfl g8; rw [← f9] at g9
  exact ⟨N9, rfl, g9⟩
theorem RJ_copy {M M' : Mem} {J J' : Nat} {A : Ar} {j : Nat} (hk : ∀ c k, c < 10 → k < NN c → M' (J' + c) k = M (J + c) k) (h : RJ M J A j) : RJ M' J' A j := by
  obtain ⟨h1, h2, h3, h4, h5, h6, h7, h8, h9, h10, h11, h12, h13⟩ := h
  refine ⟨fun w hw => (hk 0 w (by omega) (by show w < 9; omega)).trans (h1 w hw), (hk 0 4 (by omega) (by decide)).trans h2, (hk 0 7 (by omega) (by decide)).trans h3, (hk 0 8 (by omega) (by decide)).trans h4, fun d hd => (hk 1 d (by omega) hd).trans (h5 d hd), fun g hg => (hk 2 g (by omega) hg).trans (h6 g hg), fun g hg => (hk 3 g (by omega) hg).trans (h7 g hg), fun g hg => (hk 4 g (by omega) hg).trans (h8 g hg), fun g hg => (hk 5 g (by omega) hg).trans (h9 g hg), fun g hg p hp => (hk 6 _ (by omega) (by show _ < 18; omega)).trans (h10 g hg p hp), fun a ha b hb => (hk 7 _ (by omega) (by show _ < 36; omega)).trans (h11 a ha b hb), fun p hp g hg => (hk 8 _ (by omega) (by show _ < 12; omega)).trans (h12 p hp g hg), fun p hp g hg => (hk 9 _ (by omega) (by show _ < 12; omega)).trans (h13 p hp g hg)⟩
theorem RJ_cong {M : Mem} {J : Nat} {A A' : Ar} {j : Nat} (h2 : A' 2 = A 2) (hk : ∀ k, k < 121 → A' (ix j k) = A (ix j k)) (h : RJ M J A j) : RJ M J A' j := by
  have hg : ∀ g w, g < 6 → w < 13 → A' (gx j g w) = A (gx j g w) := fun g w hg hw => by
    have := hk (7 + 13 * g + w) (by omega)
    have e : ix j (7 + 13 * g + w) = gx j g w := by unfold ix gx; omega
    rwa [e] at this
  have hc : ∀ a b, a < 6 → b < 6 → A' (cx j a b) = A (cx j a b) := fun a b ha hb => by
    have := hk (85 + 6 * a + b) (by omega)
    have e : ix j (85 + 6 * a + b) = cx j a b := by unfold ix cx; omega
    rwa [e] at this
  obtain ⟨i1, i2, i3, i4, i5, i6, i7, i8, i9, i10, i11, i12, i13⟩ := h
  refine ⟨fun w hw => by rw [hk w (by omega)]; exact i1 w hw, ?_, ?_, ?_, fun d hd => ?_, fun g h6 => by rw [hg g 0 h6 (by omega)]; exact i6 g h6, fun g h6 => by rw [hg g 1 h6 (by omega)]; exact i7 g h6, fun g h6 => by rw [hg g 3 h6 (by omega)]; exact i8 g h6, fun g h6 => ?_, fun g h6 p hp => ?_, fun a ha b hb => ?_, fun p hp g h6 => ?_, fun p hp g h6 => ?_⟩
  · rw [i2]; unfold lvj; rw [h2, hk 4 (by omega)]
  · rw [i3]; exact bits_cong 6 (fun i hi => by unfold rq; rw [hg i 2 hi (by omega)])
  · rw [i4]; exact bits_cong 6 (fun i hi => by unfold gv; rw [hg i 5 hi (by omega)])
  · rw [i5 d hd]; unfold lvj; rw [h2, hk (5 + d) (by omega)]
  · rw [i9 g h6]; unfold lvg; rw [hk 2 (by omega), hg g 4 h6 (by omega)]
  · rw [i10 g h6 p hp]; unfold lvg; rw [hk 2 (by omega), hg g (6 + p) h6 (by omega)]
  · rw [i11 a ha b hb]; unfold lvj kl; rw [h2, hc a b ha hb]
  · rw [i12 p hp g h6]; unfold fs; rw [hg g (9 + 2 * p) h6 (by omega)]
  · rw [i13 p hp g h6]; unfold ln; rw [hg g (10 + 2 * p) h6 (by omega)]
theorem RS_cong {M : Mem} {t : Nat} {A A' : Ar} (hk : ∀ k, k < 490 → A' k = A k) (h : RS M t A) : RS M t A' := by
  obtain ⟨h1, h2, h3, h4, h5, h6, h7, h8⟩ := h
  refine ⟨by rw [h1, hk 0 (by omega)], by rw [h2, hk 1 (by omega)], by rw [h3, hk 2 (by omega)], by rw [h4, hk 3 (by omega)], fun j hj => RJ_cong (hk 2 (by omega)) (fun k hk' => hk _ (by unfold ix; omega)) (h5 j hj), by rw [h6, hk 4 (by omega)], by rw [h7, hk 5 (by omega)], fun j hj hl => h8 j hj (by rw [← hk 2 (by omega)]; exact hl)⟩
def SPr (M0 Mx : Mem) (t t0 n : Nat) : Prop := (∀ o, o < t ∨ t + 42 ≤ o → Mx o = M0 o) ∧ (∀ k, k < 4 → Mx t k = M0 t0 k) ∧ ∀ j, j < n → ∀ c k, c < 10 → k < NN c → Mx (t + 2 + 10 * j + c) k = M0 (t0 + 2 + 10 * j + c) k
theorem RS_copy {M M' : Mem} {t t' : Nat} {A : Ar} (h0 : ∀ k, k < 4 → M' t' k = M t k) (hk : ∀ j, j < 4 → ∀ c k, c < 10 → k < NN c → M' (t' + 2 + 10 * j + c) k = M (t + 2 + 10 * j + c) k) (h : RS M t A) : RS M' t' A := by
  obtain ⟨h1, h2, h3, h4, h5, h6, h7, h8⟩ := h
  have e5 : ∀ j, j < 4 → M' (t' + 2 + 10 * j) 5 = M (t + 2 + 10 * j) 5 := fun j hj => hk j hj 0 5 (by omega) (by decide)
  have e6 : ∀ j, j < 4 → M' (t' + 2 + 10 * j) 6 = M (t + 2 + 10 * j) 6 := fun j hj => hk j hj 0 6 (by omega) (by decide)
  refine ⟨(h0 0 (by omega)).trans h1, (h0 1 (by omega)).trans h2, (h0 3 (by omega)).trans h3, (h0 2 (by omega)).trans h4, fun j hj => RJ_copy (hk j hj) (h5 j hj), ?_, ?_, fun j hj hl => ⟨(e5 j hj).trans (h8 j hj hl).1, (e6 j hj).trans (h8 j hj hl).2⟩⟩
  · rw [← h6]
    have a := e5 0 (by omega); have b := e5 1 (by omega); have c := e5 2 (by omega); have d := e5 3 (by omega)
    exact congr (congrArg _ (congr (congrArg _ (congr (congrArg _ a) b)) c)) d
  · rw [← h7]
    have a := e6 0 (by omega); have b := e6 1 (by omega); have c := e6 2 (by omega); have d := e6 3 (by omega)
    exact congr (congrArg _ (congr (congrArg _ (congr (congrArg _ a) b)) c)) d
theorem RS_frame {M M' : Mem} {t : Nat} {A : Ar} (hk : ∀ o, t ≤ o → o < t + 42 → M' o = M o) (h : RS M t A) : RS M' t A :=
  RS_copy (fun k _ => by rw [hk t (by omega) (by omega)]) (fun j hj c k hc _ => by rw [hk _ (by omega) (by omega)]) h
theorem x_copyS (M : Mem) {t t0 : Nat} (hd : t + 42 ≤ t0 ∨ t0 + 42 ≤ t) : ∃ M', fX6_copyFrom M t t0 = some ((), M') ∧ SPr M M' t t0 4 := by
  have main : ∀ Q : Option (Unit × Mem) → Prop, Q = (fun r => ∃ M', r = some ((), M') ∧ SPr M M' t t0 4) → Q (fX6_copyFrom M t t0) := by
    intro Q hQ
    have f0 : ∀ o, o ≠ t → ∀ k v, mset M t k v o = M o := fun o ho k v => ms_other M k v ho
    unfold fX6_copyFrom
    refine bnd_of Q (fun M1 e1 => ?_)
    refine bnd_of Q (fun M2 e2 => ?_)
    refine bnd_of Q (fun M3 e3 => ?_)
    refine bnd_of Q (fun M4 e4 => ?_)
    have a1 : ∀ o, o ≠ t → M1 o = M o := fun o ho => by rw [e1, ms_other _ _ _ ho]
    have a2 : ∀ o, o ≠ t → M2 o = M o := fun o ho => by rw [e2, ms_other _ _ _ ho, a1 o ho]
    have a3 : ∀ o, o ≠ t → M3 o = M o := fun o ho => by rw [e3, ms_other _ _ _ ho, a2 o ho]
    have a4 : ∀ o, o ≠ t → M4 o = M o := fun o ho => by rw [e4, ms_other _ _ _ ho, a3 o ho]
    have ht : t0 ≠ t := by omega
    have b : ∀ k, k < 4 → M4 t k = M t0 k := by
      intro k hk
      rcases (show k = 0 ∨ k = 1 ∨ k = 2 ∨ k = 3 by omega) with rfl | rfl | rfl | rfl
      · rw [e4, ms_at, if_neg (by omega), e3, ms_at, if_neg (by omega), e2, ms_at, if_neg (by omega), e1, ms_at, if_pos ⟨rfl, rfl⟩]
      · rw [e4, ms_at, if_neg (by omega), e3, ms_at, if_neg (by omega), e2, ms_at, if_pos ⟨rfl, rfl⟩, a1 t0 ht]
      · rw [e4, ms_at, if_neg (by omega), e3, ms_at, if_pos ⟨rfl, rfl⟩, a2 t0 ht]
      · rw [e4, ms_at, if_pos ⟨rfl, rfl⟩, a3 t0 ht]
    refine lp_inv (fun i (s : Int32 × Mem) => s.1 = nI i ∧ SPr M s.2 t t0 i) Q 4 (by omega) (fun i hi s hs => Or.inl ?_) (fun s hs => ?_) (0, M4) ⟨rfl, fun o ho => a4 o (by omega), b, fun j hj => absurd hj (by omega)⟩
    · obtain ⟨x, N⟩ := s
      obtain ⟨rfl, s1, s2, s3⟩ := hs
      dsimp only at s1 s2 s3
      obtain ⟨M', c1, c2, c3⟩ := x_copyJ N (j := t + 2 + 10 * i) (j0 := t0 + 2 + 10 * i) (by omega)
      refine ⟨(nI (i + 1), M'), ⟨rfl, fun o ho => ?_, fun k hk => ?_, fun j hj c k hc hk => ?_⟩, fun k => ?_⟩
      · exact (c2 o (by omega)).trans (s1 o ho)
      · exact (congrFun (c2 t (by omega)) k).trans (s2 k hk)
      · show M' _ k = _
        by_cases e : j = i
        · subst e
          rw [c3 c k hc ⟨hc, hk⟩, s1 _ (by omega)]
        · rw [c2 (t + 2 + 10 * j + c) (by omega)]
          exact s3 j (by omega) c k hc hk
      · simp only [fX6_copyFrom_L1]
        rw [if_neg (show ¬ (4 : Int32) ≤ nI i from nI_ge (b := 4) hi (by omega)), grd_T (inb_nI hi (by omega)), grd_T (inb_nI hi (by omega)), nI_clamp (by omega), c1]
        simp only [cl, bnd, nI_1]
    · obtain ⟨x, N⟩ := s
      obtain ⟨rfl, s1⟩ := hs
      refine ⟨some ((), N), by rw [hQ]; exact ⟨N, rfl, s1⟩, fun k => ?_⟩
      simp only [fX6_copyFrom_L1]
      rw [if_pos (show (4 : Int32) ≤ nI 4 from nI_le (a := 4) (b := 4) (by omega) (by omega))]
  exact main (fun r => ∃ M', r = some ((), M') ∧ SPr M M' t t0 4) rfl
theorem x_copyRS {M : Mem} {t t0 : Nat} {A : Ar} (hd : t + 42 ≤ t0 ∨ t0 + 42 ≤ t) (h : RS M t0 A) : ∃ M', fX6_copyFrom M t t0 = some ((), M') ∧ (∀ o, o < t ∨ t + 42 ≤ o → M' o = M o) ∧ RS M' t A := by
  obtain ⟨M', e, s1, s2, s3⟩ := x_copyS M hd
  exact ⟨M', e, s1, RS_copy s2 s3 h⟩
theorem x_push {M : Mem} {t n x : Nat} {A : Ar} (ht : t + 42 ≤ 127) (hn : M 463 0 = nI n) (hx : M 463 1 = nI x) (h8 : n ≤ 8) (hx8 : x < 8) (h : RS M t A) : ∃ M', fX1_push M t = some ((), M') ∧ (∀ o, o < 127 + 42 * x ∨ 127 + 42 * x + 42 ≤ o → o ≠ 463 → M' o = M o) ∧ RS M' (127 + 42 * x) A ∧ M' 463 0 = nI (min (n + 1) 8) ∧ M' 463 1 = nI ((x + 1) % 8) := by
  obtain ⟨M3, e3, f3, r3⟩ := x_copyRS (M := M) (t := 127 + 42 * x) (t0 := t) (A := A) (by omega) h
  have k1 : M3 463 = M 463 := f3 463 (by omega)
  unfold fX1_push
  rw [hx, grd_T (inb_nI hx8 (by omega)), nI_clamp (by omega), e3]
  simp only [cl, jn, bnd, k1, hx, nI_1, f_min, clp]
  have hmin : (if (8 : Int32) < nI (n + 1) then (8 : Int32) else nI (n + 1)) = nI (min (n + 1) 8) := by
    by_cases e : n = 8
    · subst e; decide +kernel
    · rw [if_neg (show ¬ (8 : Int32) < nI (n + 1) from nI_nlt (a := 8) (by omega) (by omega))]; congr 1; omega
  have fin : ∀ v : Int32, v = nI ((x + 1) % 8) → ∃ M', some ((), mset (mset M3 463 1 v) 463 0 (if (8 : Int32) < (mset M3 463 1 v 463 0) + 1 then (8 : Int32) else (mset M3 463 1 v 463 0) + 1)) = some ((), M') ∧ (∀ o, o < 127 + 42 * x ∨ 127 + 42 * x + 42 ≤ o → o ≠ 463 → M' o = M o) ∧ RS M' (127 + 42 * x) A ∧ M' 463 0 = nI (min (n + 1) 8) ∧ M' 463 1 = nI ((x + 1) % 8) := by
    intro v hv
    have e0 : mset M3 463 1 v 463 0 = nI n := by rw [ms_at, if_neg (by omega), k1, hn]
    rw [e0, nI_1, hmin]
    refine ⟨_, rfl, fun o ho h4 => ?_, ?_, ?_, ?_⟩
    · rw [ms_other _ _ _ h4, ms_other _ _ _ h4, f3 o ho]
    · exact RS_frame (fun o h5 h6 => by rw [ms_other _ _ _ (by omega), ms_other _ _ _ (by omega)]) r3
    · rw [ms_at, if_pos ⟨rfl, rfl⟩]
    · rw [ms_at, if_neg (by omega), ms_at, if_pos ⟨rfl, rfl⟩, hv]
  by_cases e : x = 7
  · subst e
    rw [if_pos (by decide +kernel)]
    exact fin 0 rfl
  · rw [if_neg (show ¬ (8 : Int32) ≤ nI (x + 1) from nI_ge (b := 8) (by omega) (by omega))]
    exact fin (nI (x + 1)) (by congr 1; omega)
theorem x_pop {M : Mem} {n x : Nat} {A : Ar} (hn : M 463 0 = nI n) (hx : M 463 1 = nI x) (hn0 : 0 < n) (h8 : n ≤ 8) (hx8 : x < 8) (h : RS M (127 + 42 * ((x + 7) % 8)) A) : ∃ M', fX1_popInto M 1 = some ((), M') ∧ (∀ o, o < 1 ∨ 43 ≤ o → o ≠ 463 → M' o = M o) ∧ RS M' 1 A ∧ M' 463 0 = nI (n - 1) ∧ M' 463 1 = nI ((x + 7) % 8) := by
  have fin : ∀ v : Int32, v = nI ((x + 7) % 8) → ∃ M', (grd (inb (mset (mset M 463 1 v) 463 0 (mset M 463 1 v 463 0 - 1) 463 1) 8) (cl (fX6_copyFrom (mset (mset M 463 1 v) 463 0 (mset M 463 1 v 463 0 - 1)) 1 (127 + 42 * (mset (mset M 463 1 v) 463 0 (mset M 463 1 v 463 0 - 1) 463 1).toNatClampNeg)) (fun _ M7 => some ((), M7)))) = some ((), M') ∧ (∀ o, o < 1 ∨ 43 ≤ o → o ≠ 463 → M' o = M o) ∧ RS M' 1 A ∧ M' 463 0 = nI (n - 1) ∧ M' 463 1 = nI ((x + 7) % 8) := by
    intro v hv
    have e0 : mset M 463 1 v 463 0 = nI n := by rw [ms_at, if_neg (by omega), hn]
    have e1 : nI n - 1 = nI (n - 1) := nI_sub (a := n) (b := 1) (by omega)
    rw [e0, e1]
    obtain ⟨N, hN⟩ : ∃ z, z = mset (mset M 463 1 v) 463 0 (nI (n - 1)) := ⟨_, rfl⟩
    rw [← hN]
    have e2 : N 463 1 = nI ((x + 7) % 8) := by rw [hN, ms_at, if_neg (by omega), ms_at, if_pos ⟨rfl, rfl⟩, hv]
    have e3 : N 463 0 = nI (n - 1) := by rw [hN, ms_at, if_pos ⟨rfl, rfl⟩]
    have e4 : ∀ o, o ≠ 463 → N o = M o := fun o ho => by rw [hN, ms_other _ _ _ ho, ms_other _ _ _ ho]
    rw [e2, grd_T (inb_nI (by omega) (by omega)), nI_clamp (by omega)]
    obtain ⟨M3, c1, c2, c3⟩ := x_copyRS (M := N) (t := 1) (t0 := 127 + 42 * ((x + 7) % 8)) (A := A) (by omega) (RS_frame (fun o h5 h6 => e4 o (by omega)) h)
    rw [c1]
    refine ⟨M3, rfl, fun o ho h4 => (c2 o ho).trans (e4 o h4), c3, ?_, ?_⟩
    · rw [c2 463 (by omega), e3]
    · rw [c2 463 (by omega), e2]
  unfold fX1_popInto
  rw [hx]
  simp only [jn, bnd]
  by_cases e : x = 0
  · subst e
    rw [if_pos (by decide +kernel)]
    exact fin 7 rfl
  · rw [if_neg (nI_nle (by omega) (by omega))]
    refine fin (nI x - 1) ?_
    rw [show nI x - 1 = nI (x - 1) from nI_sub (a := x) (b := 1) (by omega)]
    congr 1; omega
