/-! pure mathematics: tools -/
theorem nI_mul (a b : Nat) : nI a * nI b = nI (a * b) := (Int32.ofNat_mul a b).symm
theorem nI_sub {a b : Nat} (h : b ≤ a) : nI a - nI b = nI (a - b) := (Int32.ofNat_sub a b h).symm
theorem tb {x : Int} (h1 : -2147483648 ≤ x) (h2 : x < 2147483648) : x.bmod (2 ^ 32) = x := Int.bmod_eq_of_le (by omega) (by omega)
theorem ti_add {a b : Int32} (h1 : -2147483648 ≤ a.toInt + b.toInt) (h2 : a.toInt + b.toInt < 2147483648) : (a + b).toInt = a.toInt + b.toInt := by rw [Int32.toInt_add, tb h1 h2]
theorem ti_sub {a b : Int32} (h1 : -2147483648 ≤ a.toInt - b.toInt) (h2 : a.toInt - b.toInt < 2147483648) : (a - b).toInt = a.toInt - b.toInt := by rw [Int32.toInt_sub, tb h1 h2]
theorem ti_mul {a b : Int32} (h1 : -2147483648 ≤ a.toInt * b.toInt) (h2 : a.toInt * b.toInt < 2147483648) : (a * b).toInt = a.toInt * b.toInt := by rw [Int32.toInt_mul, tb h1 h2]
theorem ti_lo (x : Int32) : -2147483648 ≤ x.toInt := x.le_toInt
theorem ti_hi (x : Int32) : x.toInt < 2147483648 := x.toInt_lt
theorem ti_le {x y : Int32} : x ≤ y ↔ x.toInt ≤ y.toInt := Int32.le_iff_toInt_le
theorem ti_lt {x y : Int32} : x < y ↔ x.toInt < y.toInt := Int32.lt_iff_toInt_lt
theorem ti_eq {x y : Int32} : x = y ↔ x.toInt = y.toInt := Int32.toInt_inj.symm
def bt (x : Int32) (lo hi : Int) : Prop := lo ≤ x.toInt ∧ x.toInt ≤ hi
theorem bt_nI {x : Int32} {hi : Int} (h : bt x 0 hi) : ∃ n : Nat, x = nI n ∧ (n : Int) ≤ hi ∧ n < 2 ^ 31 := by
  have h0 : (0 : Int32) ≤ x := by rw [ti_le]; exact h.1
  have h1 := Int32.cast_toNatClampNeg x h0
  have h2 := ti_hi x
  exact ⟨x.toNatClampNeg, (Int32.ofNat_toNatClampNeg x h0).symm, by have := h.2; omega, by omega⟩
theorem clamp_ti {x : Int32} (h : 0 ≤ x.toInt) : (x.toNatClampNeg : Int) = x.toInt := Int32.cast_toNatClampNeg x (by rw [ti_le]; exact h)
theorem nI_clampt {x : Int32} (h : 0 ≤ x.toInt) : nI x.toNatClampNeg = x := Int32.ofNat_toNatClampNeg x (by rw [ti_le]; exact h)
/-! truth values -/
def b01 (b : Bool) : Int32 := if b then 1 else 0
theorem b01_T : b01 true = 1 := rfl
theorem b01_F : b01 false = 0 := rfl
theorem isb_b01 (b : Bool) : isb (b01 b) = true := by cases b <;> decide
theorem b01_0 {b : Bool} : (b01 b = 0) ↔ b = false := by cases b <;> decide
theorem b01_ite {β : Type} (b : Bool) (x y : β) : (if b01 b = 0 then x else y) = if b then y else x := by cases b <;> rfl
theorem b01_ite' {β : Type} (b : Bool) (x y : β) : (if b01 b = 0 then x else y) = bif b then y else x := by cases b <;> rfl
theorem not01 {x y : Int32} {β : Type} (p q : β) : (if x ≤ y then p else q) = if y < x then q else p := by
  by_cases h : x ≤ y
  · rw [if_pos h, if_neg (by rw [ti_le] at h; rw [ti_lt]; omega)]
  · rw [if_neg h, if_pos (by rw [ti_le] at h; rw [ti_lt]; omega)]
/-! the words of functions, as equations that nothing unfolds -/
theorem bnd_e {α β : Type} (v : α) (b : α → Option β) : bnd v b = b v := Eq.trans (Eq.refl _) (Eq.refl _)
theorem jn_e {S β : Type} (rest : S → Option β) (br : (S → Option β) → Option β) : jn rest br = br rest := Eq.trans (Eq.refl _) (Eq.refl _)
theorem clp_e {α β : Type} (r : α) (k : α → Option β) : clp (some r) k = k r := Eq.trans (Eq.refl _) (Eq.refl _)
theorem cl_e {α β : Type} (r : α) (M : Mem) (k : α → Mem → Option β) : cl (some (r, M)) k = k r M := Eq.trans (Eq.refl _) (Eq.refl _)
theorem clx_r {α γ : Type} (r : α) (M : Mem) (k : α → Mem → Option ((Nat ⊕ γ) × Mem)) : clx (some (.inr r, M)) k = k r M := Eq.trans (Eq.refl _) (Eq.refl _)
theorem clx_l {α γ : Type} (x : Nat) (M : Mem) (k : α → Mem → Option ((Nat ⊕ γ) × Mem)) : clx (some (.inl x, M)) k = some (.inl x, M) := Eq.trans (Eq.refl _) (Eq.refl _)
theorem clpx_r {α γ : Type} (r : α) (k : α → Option (Nat ⊕ γ)) : clpx (some (.inr r)) k = k r := Eq.trans (Eq.refl _) (Eq.refl _)
theorem clpx_l {α γ : Type} (x : Nat) (k : α → Option (Nat ⊕ γ)) : clpx (some (.inl x)) k = some (.inl x) := Eq.trans (Eq.refl _) (Eq.refl _)
theorem clpm_r {α γ : Type} (M : Mem) (r : α) (k : α → Option ((Nat ⊕ γ) × Mem)) : clpm M (some (.inr r)) k = k r := Eq.trans (Eq.refl _) (Eq.refl _)
theorem clpm_l {α γ : Type} (M : Mem) (x : Nat) (k : α → Option ((Nat ⊕ γ) × Mem)) : clpm M (some (.inl x)) k = some (.inl x, M) := Eq.trans (Eq.refl _) (Eq.refl _)
theorem clpn_n {β : Type} (kn : Option β) (ks : Nat → Option β) : clpn (some none) kn ks = kn := Eq.trans (Eq.refl _) (Eq.refl _)
theorem clpn_s {β : Type} (o : Nat) (kn : Option β) (ks : Nat → Option β) : clpn (some (some o)) kn ks = ks o := Eq.trans (Eq.refl _) (Eq.refl _)
/-! loops -/
theorem lp_run {S β : Type} {f : (S → Option β) → S → Option β} (st : Nat → S) {r : Option β} (N : Nat) (hs : ∀ i, i < N → ∀ k, f k (st i) = k (st (i + 1))) (he : ∀ k, f k (st N) = r) : ∀ (d i F : Nat), N - i = d → i ≤ N → d < F → lp f F (st i) = r
  | 0, i, F, h1, h2, h3 => by
    obtain ⟨F, rfl⟩ : ∃ z, F = z + 1 := ⟨F - 1, by omega⟩
    have e : i = N := by omega
    subst e
    exact he _
  | d + 1, i, F, h1, h2, h3 => by
    obtain ⟨F, rfl⟩ : ∃ z, F = z + 1 := ⟨F - 1, by omega⟩
    show f (lp f F) (st i) = r
    rw [hs i (by omega)]
    exact lp_run st N hs he d (i + 1) F (by omega) (by omega) (by omega)
theorem lp_for {S β : Type} {f : (S → Option β) → S → Option β} (st : Nat → S) {r : Option β} (N : Nat) (hN : N < 100000) (hs : ∀ i, i < N → ∀ k, f k (st i) = k (st (i + 1))) (he : ∀ k, f k (st N) = r) : lp f FU (st 0) = r := lp_run st N hs he N 0 FU (Nat.sub_zero N) (Nat.zero_le _) hN
theorem lp_at {S β : Type} {f : (S → Option β) → S → Option β} {s0 : S} (st : Nat → S) {r : Option β} (N : Nat) (hN : N < 100000) (h0 : s0 = st 0) (hs : ∀ i, i < N → ∀ k, f k (st i) = k (st (i + 1))) (he : ∀ k, f k (st N) = r) : lp f FU s0 = r := by
  rw [h0]; exact lp_for st N hN hs he
/-! seconds of a cycle -/
def wr (x c : Int32) : Int32 := Int32.ofInt (x.toInt % c.toInt)
theorem wr_ti {x c : Int32} (hc : 0 < c.toInt) : (wr x c).toInt = x.toInt % c.toInt := by
  have h1 := Int.emod_nonneg x.toInt (show c.toInt ≠ 0 by omega)
  have h2 := Int.emod_lt_of_pos x.toInt hc
  have h3 := ti_hi c
  exact Int32.toInt_ofInt_of_le (by omega) (by omega)
theorem wr_lo {x c : Int32} (hc : 0 < c.toInt) : 0 ≤ (wr x c).toInt := by
  rw [wr_ti hc]; exact Int.emod_nonneg _ (by omega)
theorem wr_hi {x c : Int32} (hc : 0 < c.toInt) : (wr x c).toInt < c.toInt := by
  rw [wr_ti hc]; exact Int.emod_lt_of_pos _ hc
theorem emod_u {x c r q : Int} (hc : 0 < c) (h0 : 0 ≤ r) (h1 : r < c) (h : x = c * q + r) : x % c = r := by
  rw [h, Int.add_comm, Int.add_mul_emod_self_left]; exact Int.emod_eq_of_lt h0 h1
theorem tm_pos {x c : Int} (hc : 0 < c) (hx : 0 ≤ x) : x.tmod c = x % c := (Int.tmod_eq_emod_of_nonneg hx)
theorem emod_leq {x c : Int} (hc : 0 < c) (hx : 0 ≤ x) : x % c ≤ x := by
  have h1 := Int.mul_ediv_add_emod x c
  have h2 := Int.mul_nonneg (Int.le_of_lt hc) (Int.ediv_nonneg hx (Int.le_of_lt hc))
  omega
theorem rem_ti {x c : Int32} (hc : 0 < c.toInt) : (x - x / c * c).toInt = x.toInt.tmod c.toInt := by
  have h1 : (x / c).toInt = x.toInt.tdiv c.toInt := Int32.toInt_div_of_ne_right x c (by intro h; rw [h] at hc; exact absurd hc (by decide))
  have h2 := Int.tdiv_mul_add_tmod x.toInt c.toInt
  have h3 := Int.tmod_lt_of_pos x.toInt hc
  have h4 := Int.lt_tmod_of_pos x.toInt hc
  have h5 := ti_hi c
  have h6 := ti_hi x
  have h7 := ti_lo x
  have h8 : (x / c * c).toInt = x.toInt - x.toInt.tmod c.toInt := by
    have e : (x / c).toInt * c.toInt = x.toInt - x.toInt.tmod c.toInt := by rw [h1]; omega
    have hb : -2147483648 ≤ x.toInt - x.toInt.tmod c.toInt ∧ x.toInt - x.toInt.tmod c.toInt < 2147483648 := by
      rcases Int.le_total 0 x.toInt with hx | hx
      · have := Int.tmod_nonneg c.toInt hx
        have h9 : x.toInt.tmod c.toInt ≤ x.toInt := by rw [tm_pos hc hx]; exact emod_leq hc hx
        omega
      · have h9 : x.toInt.tmod c.toInt = -((-x.toInt).tmod c.toInt) := by rw [Int.neg_tmod]; omega
        have h10 := Int.tmod_nonneg c.toInt (show 0 ≤ -x.toInt by omega)
        have h11 : (-x.toInt).tmod c.toInt ≤ -x.toInt := by rw [tm_pos hc (by omega)]; exact emod_leq hc (by omega)
        omega
    rw [ti_mul (by rw [e]; exact hb.1) (by rw [e]; exact hb.2), e]
  rw [ti_sub (by rw [h8]; omega) (by rw [h8]; omega), h8]; omega
/-- the remainder, lifted where it is below 0, is the second of the cycle -/
theorem rem_wr {x c : Int32} (hc : 0 < c.toInt) : (if 0 ≤ x - x / c * c then x - x / c * c else x - x / c * c + c) = wr x c := by
  have h1 := rem_ti (x := x) hc
  have h2 := Int.mul_tdiv_add_tmod x.toInt c.toInt
  have h3 := Int.tmod_lt_of_pos x.toInt hc
  have h4 := Int.lt_tmod_of_pos x.toInt hc
  have h5 := ti_hi c
  by_cases h : 0 ≤ x - x / c * c
  · rw [if_pos h]
    rw [ti_le, h1] at h
    rw [ti_eq, h1, wr_ti hc]
    exact (emod_u hc h h3 h2.symm).symm
  · rw [if_neg h]
    rw [ti_le, h1] at h
    have h0 : Int32.toInt 0 = 0 := rfl
    rw [ti_eq, ti_add (by rw [h1]; omega) (by rw [h1]; omega), h1, wr_ti hc]
    refine (emod_u (q := x.toInt.tdiv c.toInt - 1) hc (by omega) (by omega) ?_).symm
    rw [Int.mul_sub]; omega
theorem xor_pos {x c : Int32} (hc : 0 ≤ c.toInt) : (0 ≤ x ^^^ c) ↔ 0 ≤ x.toInt := by
  have hm : ∀ y : Int32, 0 ≤ y ↔ y.toBitVec.msb = false := by
    intro y
    rw [ti_le, BitVec.msb_eq_toInt]
    have : y.toBitVec.toInt = y.toInt := rfl
    rw [this, decide_eq_false_iff_not]
    have h0 : Int32.toInt 0 = 0 := rfl
    omega
  have h0 : Int32.toInt 0 = 0 := rfl
  have hcm : c.toBitVec.msb = false := (hm c).mp (by rw [ti_le]; omega)
  rw [hm, show (x ^^^ c).toBitVec = x.toBitVec ^^^ c.toBitVec from rfl, BitVec.msb_xor, hcm, Bool.xor_false, ← hm, ti_le, h0]
theorem f_floorMod (M : Mem) {x c : Int32} (hc : 0 < c.toInt) : fJ9_floorMod_7cf53 M x c = some (wr x c) := by
  have hz : nz c = true := by
    unfold nz; rw [decide_eq_false (by intro h; rw [h] at hc; exact absurd hc (by decide))]; rfl
  unfold fJ9_floorMod_7cf53
  rw [grd_T hz]
  show (if 0 ≤ x ^^^ c then some (x - x / c * c) else if x - x / c * c = 0 then some (x - x / c * c) else some (x - x / c * c + c)) = _
  have h1 := rem_ti (x := x) hc
  have h0 : Int32.toInt 0 = 0 := rfl
  rw [← rem_wr (x := x) hc]
  by_cases hx : 0 ≤ x.toInt
  · have h3 := Int.tmod_nonneg c.toInt hx
    rw [if_pos ((xor_pos (by omega)).mpr hx), if_pos (by rw [ti_le, h1]; omega)]
  · rw [if_neg (fun h => hx ((xor_pos (by omega)).mp h))]
    by_cases hr : x - x / c * c = 0
    · rw [if_pos hr, hr]; rfl
    · rw [if_neg hr]
      have h10 := Int.tmod_nonneg c.toInt (show 0 ≤ -x.toInt by omega)
      have h9 : x.toInt.tmod c.toInt = -((-x.toInt).tmod c.toInt) := by rw [Int.neg_tmod]; omega
      rw [if_neg]
      intro h
      rw [ti_le, h1] at h
      exact hr (by rw [ti_eq, h1]; omega)
theorem f_wrap (M : Mem) {x c : Int32} (hc : 0 < c.toInt) : fX9_wrap M x c = some (wr x c) := by
  have hz : nz c = true := by
    unfold nz; rw [decide_eq_false (by intro h; rw [h] at hc; exact absurd hc (by decide))]; rfl
  unfold fX9_wrap
  rw [if_pos (by rw [ti_le]; exact hc), grd_T hz, ← rem_wr hc]
  show (if 0 ≤ x - x / c * c then some (x - x / c * c) else some (x - x / c * c + c)) = _
  by_cases h : 0 ≤ x - x / c * c
  · rw [if_pos h, if_pos h]
  · rw [if_neg h, if_neg h]
theorem f_gap (M : Mem) {a b x c : Int32} (hc : 0 < c.toInt) : fX9_gap M a b x c = some (wr (x - a - b) c) := by
  unfold fX9_gap; rw [f_wrap M hc]; rfl
theorem f_isWithin (M : Mem) (x a b : Int32) : fX9_isWithin M x a b = some (b01 (decide (a ≤ x) && decide (x ≤ b))) := by
  unfold fX9_isWithin
  simp only [jn]
  by_cases h1 : x < a
  · rw [if_pos h1, decide_eq_false (by rw [ti_lt] at h1; rw [ti_le]; omega)]; rfl
  · rw [if_neg h1, decide_eq_true (by rw [ti_lt] at h1; rw [ti_le]; omega)]
    by_cases h2 : b < x
    · rw [if_pos h2, decide_eq_false (by rw [ti_lt] at h2; rw [ti_le]; omega)]; rfl
    · rw [if_neg h2, decide_eq_true (by rw [ti_lt] at h2; rw [ti_le]; omega)]; rfl
theorem f_in (M : Mem) (x a b : Int32) : fX10_in M x a b = some (b01 (decide (a ≤ x) && decide (x ≤ b))) := f_isWithin M x a b
theorem f_isPlan (M : Mem) (x : Int32) : fX9_isPlan M x = some (b01 (decide (0 ≤ x) && decide (x ≤ 1))) := by
  unfold fX9_isPlan; rw [f_isWithin]; simp only [clp, grd, isb_b01, if_true]
theorem f_isDirection (M : Mem) (x : Int32) : fX9_isDirection M x = some (b01 (decide (0 ≤ x) && decide (x ≤ 1))) := f_isPlan M x
theorem f_isClearance (M : Mem) (x : Int32) : fX9_isClearance M x = some (b01 (decide (0 ≤ x) && decide (x ≤ 20))) := by
  unfold fX9_isClearance; rw [f_isWithin]; simp only [clp, grd, isb_b01, if_true]
theorem f_max (M : Mem) (a b : Int32) : fJ9_max_7cf53 M a b = some (if a < b then b else a) := by
  unfold fJ9_max_7cf53; simp only [jn]; split <;> rfl
theorem f_min (M : Mem) (a b : Int32) : fJ9_min_7cf53 M a b = some (if b < a then b else a) := by
  unfold fJ9_min_7cf53; simp only [jn]; split <;> rfl
/-! sets and counts -/
def bits (p : Nat → Bool) : Nat → Int32
  | 0 => 0
  | n + 1 => bits p n ||| (if p n then 1 <<< (nI n &&& 31) else 0)
def cn (p : Nat → Bool) : Nat → Nat
  | 0 => 0
  | n + 1 => cn p n + (if p n then 1 else 0)
theorem cn_le (p : Nat → Bool) : ∀ n, cn p n ≤ n
  | 0 => Nat.le_refl 0
  | n + 1 => by have := cn_le p n; unfold cn; split <;> omega
theorem bits_cong {p q : Nat → Bool} : ∀ n, (∀ i, i < n → p i = q i) → bits p n = bits q n
  | 0, _ => rfl
  | n + 1, h => by
    unfold bits; rw [bits_cong n (fun i hi => h i (by omega)), h n (by omega)]
theorem cn_cong {p q : Nat → Bool} : ∀ n, (∀ i, i < n → p i = q i) → cn p n = cn q n
  | 0, _ => rfl
  | n + 1, h => by
    unfold cn; rw [cn_cong n (fun i hi => h i (by omega)), h n (by omega)]
theorem cn_1 (p : Nat → Bool) (n : Nat) : nI (cn p (n + 1)) = nI (cn p n) + (if p n then 1 else 0) := by
  show nI (cn p n + _) = _
  cases p n
  · rw [if_neg (by decide), if_neg (by decide)]; simp
  · rw [if_pos rfl, if_pos rfl]; exact (nI_1 _).symm
/-- bit g of a set of six -/
def bit6 (p : Nat → Bool) : Int32 := bits p 6
theorem bit6_get (p : Nat → Bool) {g : Nat} (hg : g < 6) : (((bits p 6).toUInt32 >>> ((nI g).toUInt32 &&& Int32.toUInt32 31)).toInt32 &&& 1 = 1) ↔ p g = true := by
  have key : ∀ a b c d e f : Bool, ∀ g : Fin 6, decide ((((bits (fun i => [a, b, c, d, e, f].getD i false) 6).toUInt32 >>> ((nI g.val).toUInt32 &&& Int32.toUInt32 31)).toInt32 &&& 1 = 1)) = [a, b, c, d, e, f].getD g.val false := by decide +kernel
  have h1 : bits p 6 = bits (fun i => [p 0, p 1, p 2, p 3, p 4, p 5].getD i false) 6 := bits_cong 6 (fun i hi => by
    rcases (show i = 0 ∨ i = 1 ∨ i = 2 ∨ i = 3 ∨ i = 4 ∨ i = 5 by omega) with rfl | rfl | rfl | rfl | rfl | rfl <;> rfl)
  have h2 := key (p 0) (p 1) (p 2) (p 3) (p 4) (p 5) ⟨g, hg⟩
  rw [h1]
  have h3 : [p 0, p 1, p 2, p 3, p 4, p 5].getD g false = p g := by
    rcases (show g = 0 ∨ g = 1 ∨ g = 2 ∨ g = 3 ∨ g = 4 ∨ g = 5 by omega) with rfl | rfl | rfl | rfl | rfl | rfl <;> rfl
  rw [h3] at h2
  rw [← h2, decide_eq_true_iff]
theorem bit6_set (p : Nat → Bool) {g : Nat} (hg : g < 6) : bits p 6 ||| (1 <<< (nI g &&& 31)) = bits (fun i => if i = g then true else p i) 6 := by
  have key : ∀ a b c d e f : Bool, ∀ g : Fin 6, bits (fun i => [a, b, c, d, e, f].getD i false) 6 ||| (1 <<< (nI g.val &&& 31)) = bits (fun i => if i = g.val then true else [a, b, c, d, e, f].getD i false) 6 := by decide +kernel
  have h1 : ∀ i, i < 6 → p i = [p 0, p 1, p 2, p 3, p 4, p 5].getD i false := fun i hi => by
    rcases (show i = 0 ∨ i = 1 ∨ i = 2 ∨ i = 3 ∨ i = 4 ∨ i = 5 by omega) with rfl | rfl | rfl | rfl | rfl | rfl <;> rfl
  have h2 := key (p 0) (p 1) (p 2) (p 3) (p 4) (p 5) ⟨g, hg⟩
  rw [bits_cong 6 h1, h2]
  exact bits_cong 6 (fun i hi => by rw [h1 i hi])
theorem bit6_clr (p : Nat → Bool) {g : Nat} (hg : g < 6) : bits p 6 &&& ((1 <<< (nI g &&& 31)) ^^^ (-1)) = bits (fun i => if i = g then false else p i) 6 := by
  have key : ∀ a b c d e f : Bool, ∀ g : Fin 6, bits (fun i => [a, b, c, d, e, f].getD i false) 6 &&& ((1 <<< (nI g.val &&& 31)) ^^^ (-1)) = bits (fun i => if i = g.val then false else [a, b, c, d, e, f].getD i false) 6 := by decide +kernel
  have h1 : ∀ i, i < 6 → p i = [p 0, p 1, p 2, p 3, p 4, p 5].getD i false := fun i hi => by
    rcases (show i = 0 ∨ i = 1 ∨ i = 2 ∨ i = 3 ∨ i = 4 ∨ i = 5 by omega) with rfl | rfl | rfl | rfl | rfl | rfl <;> rfl
  have h2 := key (p 0) (p 1) (p 2) (p 3) (p 4) (p 5) ⟨g, hg⟩
  rw [bits_cong 6 h1, h2]
  exact bits_cong 6 (fun i hi => by rw [h1 i hi])
theorem bits_none : bits (fun _ => false) 6 = 0 := by decide +kernel
/-! memory -/
theorem ms_same (M : Mem) (o k : Nat) (v : Int32) : mset M o k v o = upd (M o) k v := by simp [mset, va_up]
theorem ms_other (M : Mem) {o q : Nat} (k : Nat) (v : Int32) (h : q ≠ o) : mset M o k v q = M q := by simp [mset, va_up, h]
theorem ms_at (M : Mem) (o k q i : Nat) (v : Int32) : mset M o k v q i = if q = o ∧ i = k then v else M q i := by
  by_cases h : q = o
  · subst h
    rw [ms_same]
    by_cases h2 : i = k
    · subst h2; rw [pk_us, if_pos ⟨rfl, rfl⟩]
    · rw [pk_un h2, if_neg (fun z => h2 z.2)]
  · rw [ms_other M k v h, if_neg (fun z => h z.1)]
theorem up_at (f : Nat → Int32) (k i : Nat) (v : Int32) : upd f k v i = if i = k then v else f i := rfl
