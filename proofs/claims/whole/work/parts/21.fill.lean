/-! Arrays.fill, as a function -/
theorem lp_s {S β : Type} (f : (S → Option β) → S → Option β) (n : Nat) (a : S) : lp f (n + 1) a = f (lp f n) a := rfl
theorem inb_nI {i n : Nat} (h : i < n) (hn : n < 2 ^ 31) : inb (nI i) n = true := by
  unfold inb
  rw [decide_eq_false (nI_pos (by omega)), nI_clamp (by omega), decide_eq_false (by omega)]
  rfl
theorem grd_T {β : Type} {t : Bool} (h : t = true) (b : Option β) : grd t b = b := by
  unfold grd; rw [if_pos h]
theorem fill_lp (o N : Nat) (v : Int32) (hN : N < 2 ^ 31) : ∀ (d n i : Nat) (M : Mem), N - i = d → i ≤ N → d < n → ∃ M' : Mem, lp (fJ7_fill_53178_L1 o N v (Int32.ofNat N)) n (nI i, M) = some ((), M') ∧ (∀ q, q ≠ o → M' q = M q) ∧ ∀ k, M' o k = if i ≤ k ∧ k < N then v else M o k := by
  intro d
  induction d with
  | zero =>
    intro n i M h1 h2 h3
    obtain ⟨n, rfl⟩ : ∃ z, n = z + 1 := ⟨n - 1, by omega⟩
    have e : i = N := by omega
    subst e
    refine ⟨M, ?_, fun _ _ => rfl, fun k => ?_⟩
    · rw [lp_s]
      unfold fJ7_fill_53178_L1
      rw [if_pos (show Int32.ofNat i ≤ nI i from nI_le (Nat.le_refl _) hN)]
    · rw [if_neg (by omega)]
  | succ d ih =>
    intro n i M h1 h2 h3
    obtain ⟨n, rfl⟩ : ∃ z, n = z + 1 := ⟨n - 1, by omega⟩
    have hi : i < N := by omega
    obtain ⟨M', e1, e2, e3⟩ := ih n (i + 1) (mset M o i v) (by omega) (by omega) (by omega)
    refine ⟨M', ?_, fun q hq => ?_, fun k => ?_⟩
    · rw [lp_s]
      unfold fJ7_fill_53178_L1
      rw [if_neg (show ¬ Int32.ofNat N ≤ nI i from nI_ge hi hN), grd_T (inb_nI hi hN)]
      show lp (fJ7_fill_53178_L1 o N v (Int32.ofNat N)) n (nI i + 1, mset M o (nI i).toNatClampNeg v) = _
      rw [nI_1, nI_clamp (by omega)]
      exact e1
    · rw [e2 q hq]
      simp [mset, va_up, hq]
    · rw [e3 k]
      have hm : mset M o i v o = upd (M o) i v := by simp [mset, va_up]
      rw [hm]
      by_cases hk : k = i
      · subst hk
        rw [if_neg (by omega), pk_us, if_pos ⟨Nat.le_refl _, hi⟩]
      · rw [pk_un hk]
        by_cases h5 : i + 1 ≤ k ∧ k < N
        · rw [if_pos h5, if_pos (by omega)]
        · rw [if_neg h5, if_neg (by omega)]
theorem fill_eq (M : Mem) (o N : Nat) (v : Int32) (hN : N < 100000) : ∃ M' : Mem, fJ7_fill_53178 M o N v = some ((), M') ∧ (∀ q, q ≠ o → M' q = M q) ∧ ∀ k, M' o k = if k < N then v else M o k := by
  obtain ⟨M', e1, e2, e3⟩ := fill_lp o N v (by omega) N FU 0 M (by omega) (by omega) (by unfold FU; omega)
  refine ⟨M', e1, e2, fun k => ?_⟩
  rw [e3 k]
  by_cases h : k < N
  · rw [if_pos ⟨Nat.zero_le _, h⟩, if_pos h]
  · rw [if_neg (by omega), if_neg h]
/-! cells that agree on their places are one -/
theorem vp_cell_agree {cA : ClassId} {n : Nat} {f g : Nat → Int32} (h : ∀ i, i < n → f i = g i) : vp_cell cA (n, .inl f) = vp_cell cA (n, .inl g) := by
  unfold vp_cell
  simp only
  first
    | (congr 1; apply Array.ext; · simp; · intro i h1 h2; simp at h1 ⊢; exact h i h1)
    | (simp only [arrV]; congr 1; apply Array.ext <;> simp; intro i hi; exact h i hi)
