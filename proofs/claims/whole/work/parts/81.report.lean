/-! call: report -/
/-- the list of groups of a set -/
def gs (p : Nat → Bool) : Nat → List Int32
  | 0 => []
  | i + 1 => gs p i ++ (if p i then [32, nI (48 + i)] else [])
theorem gs_len (p : Nat → Bool) : ∀ i, (gs p i).length ≤ 2 * i
  | 0 => Nat.le_refl _
  | i + 1 => by
    have := gs_len p i
    unfold gs
    rw [List.length_append]
    split <;> simp <;> omega
theorem gs_more {p : Nat → Bool} {n : Nat} : ∀ m, (∀ i, n ≤ i → i < m → p i = false) → n ≤ m → gs p m = gs p n
  | 0, _, h => by rw [show n = 0 by omega]
  | m + 1, hp, h => by
    by_cases e : n = m + 1
    · rw [e]
    · show gs p m ++ (if p m then [32, nI (48 + m)] else []) = gs p n
      rw [hp m (by omega) (by omega), gs_more m (fun i a b => hp i a (by omega)) (by omega)]
      simp
theorem T17 : TX 17 = [32] := rfl
theorem T27 : TX 27 = [32] := rfl
theorem dg_g {i : Nat} (h : i < 10) : dg i = [nI (48 + i)] := by rw [dg_1 h, Nat.mod_eq_of_lt h]
theorem off_set (p : Nat → Bool) {n : Nat} (h6 : n ≤ 6) : ((1 <<< (nI n &&& 31)) - 1) &&& (bits p n ^^^ (-1)) = bits (fun g => decide (g < n) && !p g) 6 := by
  have key : ∀ a b c d e f : Bool, ∀ n : Fin 7, (((1 : Int32) <<< (nI n.val &&& 31)) - 1) &&& (bits (fun i => [a, b, c, d, e, f].getD i false) n.val ^^^ (-1)) = bits (fun g => decide (g < n.val) && ![a, b, c, d, e, f].getD g false) 6 := by decide +kernel
  have h1 := key (p 0) (p 1) (p 2) (p 3) (p 4) (p 5) ⟨n, by omega⟩
  rw [bits_cong n (fun i hi => six p i (by omega)), h1]
  exact bits_cong 6 (fun i hi => by rw [six p i hi])
theorem on_set (p : Nat → Bool) {n : Nat} (h6 : n ≤ 6) : bits p n = bits (fun g => decide (g < n) && p g) 6 := by
  have key : ∀ a b c d e f : Bool, ∀ n : Fin 7, bits (fun i => [a, b, c, d, e, f].getD i false) n.val = bits (fun g => decide (g < n.val) && [a, b, c, d, e, f].getD g false) 6 := by decide +kernel
  have h1 := key (p 0) (p 1) (p 2) (p 3) (p 4) (p 5) ⟨n, by omega⟩
  rw [bits_cong n (fun i hi => six p i (by omega)), h1]
  exact bits_cong 6 (fun i hi => by rw [six p i hi])
theorem bit6_sar (p : Nat → Bool) {g : Nat} (hg : g < 6) : ((bits p 6 >>> (nI g &&& 31)) &&& 1 = 0) ↔ p g = false := by
  have key : ∀ a b c d e f : Bool, ∀ g : Fin 6, decide ((bits (fun i => [a, b, c, d, e, f].getD i false) 6 >>> (nI g.val &&& 31)) &&& 1 = 0) = ![a, b, c, d, e, f].getD g.val false := by decide +kernel
  have h2 := key (p 0) (p 1) (p 2) (p 3) (p 4) (p 5) ⟨g, hg⟩
  rw [bits_cong 6 (fun i hi => six p i hi)]
  rw [← six p g hg] at h2
  constructor
  · intro z
    rw [decide_eq_true z] at h2
    simpa using h2.symm
  · intro z
    rw [z] at h2
    exact of_decide_eq_true h2
/-- a list of groups with its head -/
def gl (nm : List Int32) (p : Nat → Bool) : List Int32 := (if bits p 6 = 0 then TX 15 else TX 16) ++ nm ++ gs p 6
theorem x_groups {M0 M : Mem} {w : List Int32} {i : Nat} {p : Nat → Bool} (h : PX M0 M w) (hi : i < 35) (hl : w.length + 7 + sl i + 15 ≤ 96) : ∃ M', fX4_addGroups M i (bits p 6) = some ((), M') ∧ PX M0 M' (w ++ gl (TX i) p) := by
  unfold fX4_addGroups
  rw [jn_e]
  have main : ∀ q : Nat, q < 35 → sl q ≤ 7 → (if bits p 6 = 0 then TX 15 else TX 16) = TX q → ∃ M', grd (decide (q < 35)) (cl (fX4_addText M q) (fun u3 M4 => cl (fX4_addText M4 i) (fun u5 M6 => lp (fX4_addGroups_L1 (bits p 6)) FU (0, M6)))) = some ((), M') ∧ PX M0 M' (w ++ gl (TX i) p) := fun q hq hs he => by
    obtain ⟨K1, a1, b1⟩ := x_text h hq (by omega)
    have l1 : (TX q).length = sl q := TX_len q
    have l2 : (TX i).length = sl i := TX_len i
    obtain ⟨K2, a2, b2⟩ := x_text b1 hi (by rw [List.length_append]; omega)
    rw [grd_T (decide_eq_true hq), a1, cl_e, a2, cl_e]
    unfold gl
    rw [he]
    refine lp_inv (f := fX4_addGroups_L1 (bits p 6)) (fun k (s : Int32 × Mem) => s.1 = nI k ∧ PX M0 s.2 (w ++ TX q ++ TX i ++ gs p k)) (fun r => ∃ M', r = some ((), M') ∧ PX M0 M' (w ++ (TX q ++ TX i ++ gs p 6))) 6 (by omega) (fun k hk s hs => Or.inl ?_) (fun s hs => ?_) (0, K2) ⟨rfl, by simpa [gs] using b2⟩
    · obtain ⟨x, K⟩ := s
      obtain ⟨a, b⟩ := hs
      dsimp only at a b
      subst a
      have hg := bit6_get p hk
      have lg := gs_len p k
      by_cases c : p k = true
      · obtain ⟨K3, a3, b3⟩ := x_text (i := 17) b (by omega) (by simp only [List.length_append]; have : sl 17 = 1 := rfl; omega)
        rw [T17] at b3
        obtain ⟨K4, a4, b4⟩ := x_num (n := k) b3 (by omega) (by simp only [List.length_append, List.length_cons, List.length_nil]; omega)
        refine ⟨(nI (k + 1), K4), ⟨rfl, ?_⟩, fun f => ?_⟩
        · rw [dg_g (by omega)] at b4
          show PX M0 K4 (w ++ TX q ++ TX i ++ (gs p k ++ (if p k = true then [32, nI (48 + k)] else [])))
          rw [if_pos c]
          simpa only [List.append_assoc, List.cons_append, List.nil_append] using b4
        · simp only [fX4_addGroups_L1]
          rw [if_neg (show ¬ (6 : Int32) ≤ nI k from nI_ge (b := 6) hk (by omega)), jn_e, if_pos (hg.mpr c), a3, cl_e, a4, cl_e]
          dsimp only
          rw [bnd_e, nI_1]
      · refine ⟨(nI (k + 1), K), ⟨rfl, ?_⟩, fun f => ?_⟩
        · show PX M0 K (w ++ TX q ++ TX i ++ (gs p k ++ (if p k = true then [32, nI (48 + k)] else [])))
          rw [if_neg c, List.append_nil]; exact b
        · simp only [fX4_addGroups_L1]
          rw [if_neg (show ¬ (6 : Int32) ≤ nI k from nI_ge (b := 6) hk (by omega)), jn_e, if_neg (fun z => c (hg.mp z))]
          dsimp only
          rw [bnd_e, nI_1]
    · obtain ⟨x, K⟩ := s
      obtain ⟨a, b⟩ := hs
      dsimp only at a b
      subst a
      refine ⟨_, ⟨K, rfl, by simpa only [List.append_assoc] using b⟩, fun f => ?_⟩
      simp only [fX4_addGroups_L1]
      rw [if_pos (show (6 : Int32) ≤ nI 6 from nI_le (a := 6) (b := 6) (by omega) (by omega))]
  by_cases c : bits p 6 = 0
  · rw [if_pos c]
    exact main 15 (by omega) (Nat.le_of_ble_eq_true rfl) (if_pos c)
  · rw [if_neg c]
    exact main 16 (by omega) (Nat.le_of_ble_eq_true rfl) (if_neg c)
theorem T25 : TX 25 = TX 16 := rfl
theorem T26 : TX 25 ++ TX 26 = TX 15 := rfl
theorem m_groups {N0 N : Mem} {w : List Int32} {i n : Nat} {p : Nat → Bool} (h : PM N0 N w) (hi : i < 35) (h6 : n ≤ 6) (hp : ∀ g, n ≤ g → g < 6 → p g = false) (hl : w.length + 7 + sl i + 15 ≤ 96) : ∃ N', fX10_lists N (nI n) (bits p 6) i = some ((), N') ∧ PM N0 N' (w ++ gl (TX i) p) := by
  unfold fX10_lists
  have s25 : sl 25 = 2 := rfl
  have s26 : sl 26 = 5 := rfl
  have l25 : (TX 25).length = 2 := rfl
  have l26 : (TX 26).length = 5 := rfl
  have l2 : (TX i).length = sl i := TX_len i
  obtain ⟨K1, a1, b1⟩ := m_text (i := 25) h (by omega) (by omega)
  rw [a1, cl_e, jn_e]
  have main : ∀ (K : Mem) (h0 : List Int32), PM N0 K (w ++ h0) → h0.length ≤ 7 → (if bits p 6 = 0 then TX 15 else TX 16) = h0 → ∃ N', cl (fX10_writes K i) (fun u5 M6 => lp (fX10_lists_L1 (nI n) (bits p 6)) FU (0, M6)) = some ((), N') ∧ PM N0 N' (w ++ gl (TX i) p) := fun K h0 hK hs he => by
    obtain ⟨K2, a2, b2⟩ := m_text hK hi (by rw [List.length_append]; omega)
    rw [a2, cl_e]
    unfold gl
    rw [he, gs_more (n := n) 6 hp h6]
    refine lp_inv (f := fX10_lists_L1 (nI n) (bits p 6)) (fun k (s : Int32 × Mem) => s.1 = nI k ∧ PM N0 s.2 (w ++ h0 ++ TX i ++ gs p k)) (fun r => ∃ N', r = some ((), N') ∧ PM N0 N' (w ++ (h0 ++ TX i ++ gs p n))) n (by omega) (fun k hk s hs => Or.inl ?_) (fun s hs => ?_) (0, K2) ⟨rfl, by simpa [gs] using b2⟩
    · obtain ⟨x, K⟩ := s
      obtain ⟨a, b⟩ := hs
      dsimp only at a b
      subst a
      have hg := bit6_sar p (g := k) (by omega)
      have lg := gs_len p k
      by_cases c : p k = true
      · obtain ⟨K3, a3, b3⟩ := m_text (i := 27) b (by omega) (by simp only [List.length_append]; have : sl 27 = 1 := rfl; omega)
        rw [T27] at b3
        obtain ⟨K4, a4, b4⟩ := m_num 7 (n := k) b3 (by omega) (by omega) (by simp only [List.length_append, List.length_cons, List.length_nil]; omega)
        refine ⟨(nI (k + 1), K4), ⟨rfl, ?_⟩, fun f => ?_⟩
        · rw [dg_g (by omega)] at b4
          show PM N0 K4 (w ++ h0 ++ TX i ++ (gs p k ++ (if p k = true then [32, nI (48 + k)] else [])))
          rw [if_pos c]
          simpa only [List.append_assoc, List.cons_append, List.nil_append] using b4
        · simp only [fX10_lists_L1]
          rw [if_neg (nI_ge hk (by omega)), jn_e, if_neg (fun z => by rw [hg.mp z] at c; cases c), a3, cl_e, a4, cl_e]
          dsimp only
          rw [bnd_e, nI_1]
      · refine ⟨(nI (k + 1), K), ⟨rfl, ?_⟩, fun f => ?_⟩
        · show PM N0 K (w ++ h0 ++ TX i ++ (gs p k ++ (if p k = true then [32, nI (48 + k)] else [])))
          rw [if_neg c, List.append_nil]; exact b
        · simp only [fX10_lists_L1]
          rw [if_neg (nI_ge hk (by omega)), jn_e, if_pos (hg.mpr (Bool.not_eq_true _ |>.mp c))]
          dsimp only
          rw [bnd_e, nI_1]
    · obtain ⟨x, K⟩ := s
      obtain ⟨a, b⟩ := hs
      dsimp only at a b
      subst a
      refine ⟨_, ⟨K, rfl, by simpa only [List.append_assoc] using b⟩, fun f => ?_⟩
      simp only [fX10_lists_L1]
      rw [if_pos (nI_le (Nat.le_refl _) (by omega))]
  by_cases c : bits p 6 = 0
  · rw [if_pos c]
    obtain ⟨K2, a2, b2⟩ := m_text (i := 26) b1 (by omega) (by rw [List.length_append]; omega)
    rw [a2, cl_e]
    rw [List.append_assoc, T26] at b2
    exact main K2 (TX 15) b2 (Nat.le_of_ble_eq_true rfl) (if_pos c)
  · rw [if_neg c]
    rw [T25] at b1
    exact main K1 (TX 16) b1 (Nat.le_of_ble_eq_true rfl) (if_neg c)
