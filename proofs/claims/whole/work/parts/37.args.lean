/-! arguments: junctions and groups that are there; what is needed -/
def inJ (A : Ar) (p : Int32) : Bool := decide (0 ≤ p) && decide (p ≤ A 2 - 1)
def inG (A : Ar) (j : Nat) (g : Int32) : Bool := decide (0 ≤ g) && decide (g ≤ A (ix j 2) - 1)
theorem Val.b2 {A : Ar} (h : Val A) : bt (A 2) 0 2000000 := ⟨h.1.2.2.1.1, by have := h.1.2.2.1.2; omega⟩
theorem VJ.bs {A : Ar} {j : Nat} (h : VJ A j) : bt (A (ix j 2)) 0 2000000 := ⟨h.2.2.1.1, by have := h.2.2.1.2; omega⟩
theorem Val.c0 {A : Ar} (h : Val A) : 0 < (A 0).toInt := by have := h.1.1.1; omega
theorem inJ_ex {A : Ar} (v : Val A) {p : Int32} (h : inJ A p = true) : ∃ j : Nat, p = nI j ∧ j < 4 ∧ nI j < A 2 := by
  obtain ⟨j, h1, h2, h3⟩ := arg_in v.b2 h
  exact ⟨j, h1, by have := v.1.2.2.1.2; omega, h3⟩
theorem inJ_T {A : Ar} (v : Val A) {j : Nat} (hj : j < 4) (hl : nI j < A 2) : inJ A (nI j) = true := in_of v.b2 hl (by omega)
theorem inG_ex {A : Ar} {j : Nat} (v : VJ A j) {p : Int32} (h : inG A j p = true) : ∃ g : Nat, p = nI g ∧ g < 6 ∧ nI g < A (ix j 2) := by
  obtain ⟨g, h1, h2, h3⟩ := arg_in v.bs h
  exact ⟨g, h1, by have := v.2.2.1.2; omega, h3⟩
theorem inG_T {A : Ar} {j : Nat} (v : VJ A j) {g : Nat} (hg : g < 6) (hl : nI g < A (ix j 2)) : inG A j (nI g) = true := in_of v.bs hl (by omega)
theorem VJ.sz {A : Ar} {j : Nat} (v : VJ A j) : ∃ n : Nat, n ≤ 6 ∧ A (ix j 2) = nI n := by
  obtain ⟨n, h1, h2, h3⟩ := bt_nI v.2.2.1
  exact ⟨n, by omega, h1⟩
theorem Val.ct {A : Ar} (v : Val A) : ∃ n : Nat, n ≤ 4 ∧ A 2 = nI n := by
  obtain ⟨n, h1, h2, h3⟩ := bt_nI v.1.2.2.1
  exact ⟨n, by omega, h1⟩
theorem lt_sz {A : Ar} {j n g : Nat} (hn : A (ix j 2) = nI n) (h6 : n ≤ 6) (hg : g < n) : nI g < A (ix j 2) := by rw [hn]; exact nI_lt hg (by omega)
theorem sz_lt {A : Ar} {j n g : Nat} (hn : A (ix j 2) = nI n) (h6 : n ≤ 6) (hg : g < 6) (h : nI g < A (ix j 2)) : g < n := by rw [hn] at h; exact (nI_ltI (by omega) (by omega)).mp h
section AG
variable {M : Mem} {A : Ar}
theorem RS.w0 {t : Nat} (h : RS M t A) : M t 0 = A 0 := h.1
theorem RS.w1 {t : Nat} (h : RS M t A) : M t 1 = A 1 := h.2.1
theorem RS.w3 {t : Nat} (h : RS M t A) : M t 3 = A 2 := h.2.2.1
theorem RS.w2 {t : Nat} (h : RS M t A) : M t 2 = A 3 := h.2.2.2.1
theorem RS.j {t : Nat} (h : RS M t A) {j : Nat} (hj : j < 4) : RJ M (t + 2 + 10 * j) A j := h.2.2.2.2.1 j hj
theorem jb {j : Nat} (hj : j < 4) : isJb (1 + 2 + 10 * j) = true := by
  rcases (show j = 0 ∨ j = 1 ∨ j = 2 ∨ j = 3 by omega) with rfl | rfl | rfl | rfl <;> decide
theorem f_inJ (A : Ar) (p : Int32) : fX9_isWithin M p 0 (A 2 - 1) = some (b01 (inJ A p)) := f_isWithin M p 0 (A 2 - 1)
theorem x_hg {J j : Nat} (h : RJ M J A j) (g : Int32) : fX2_hasGroup M J g = some (b01 (inG A j g)) := x_hasGroup h g
theorem m_ij (p : Int32) : fX10_isJunction M p = some (b01 (inJ (M 1) p)) := m_isJunction p
theorem m_ig {j : Nat} (hj : j < 4) (hl : inJ (M 1) (nI j) = true) (g : Int32) : fX10_isGroup M (nI j) g = some (b01 (inG (M 1) j g)) := m_isGroup_j hj hl g
theorem m_ig_no {p : Int32} (hl : inJ (M 1) p = false) (g : Int32) : fX10_isGroup M p g = some 0 := m_isGroup_no hl g
theorem m_ip {p : Int32} (hl : inJ (M 1) p = true) (q : Int32) : fX10_isPlan M p q = some (b01 (decide (0 ≤ q) && decide (q ≤ 1))) := m_isPlan_j hl q
theorem m_ip_no {p : Int32} (hl : inJ (M 1) p = false) (q : Int32) : fX10_isPlan M p q = some 0 := m_isPlan_no hl q
theorem x_find_no (hR : RS M 1 A) {p : Int32} (h : inJ A p = false) : fX6_find M 1 p = some none := by
  unfold fX6_find
  rw [hR.w3, f_inJ, clp_e, b01_ite, if_neg (by rw [h]; decide)]
theorem x_find (hR : RS M 1 A) (v : Val A) {j : Nat} (hj : j < 4) (hl : nI j < A 2) : fX6_find M 1 (nI j) = some (some (1 + 2 + 10 * j)) := by
  unfold fX6_find
  rw [hR.w3, f_inJ, clp_e, b01_ite, if_pos (inJ_T v hj hl), grd_T (inb_nI hj (by omega)), nI_clamp (by omega)]
theorem x_found_no (hR : RS M 1 A) {p : Int32} (h : inJ A p = false) : fX9_found M p = some (.inl 0) := by
  unfold fX9_found
  rw [x_find_no hR h, clpn_n]
theorem x_found (hR : RS M 1 A) (v : Val A) {j : Nat} (hj : j < 4) (hl : nI j < A 2) : fX9_found M (nI j) = some (.inr (1 + 2 + 10 * j)) := by
  unfold fX9_found
  rw [x_find hR v hj hl, clpn_s, grd_T (jb hj)]
theorem need_T (f : Int32) : fX9_need M (b01 true) f = some (.inr ()) := by
  unfold fX9_need; rw [jn_e, b01_ite]; rfl
theorem need_1 : fX9_need M (b01 false) 1 = some (.inl 0) := by
  unfold fX9_need; rw [jn_e, b01_ite]; rfl
theorem need_2 : fX9_need M (b01 false) 2 = some (.inl 1) := by
  unfold fX9_need; rw [jn_e, b01_ite]; rfl
theorem need_3 : fX9_need M (b01 false) 3 = some (.inl 2) := by
  unfold fX9_need; rw [jn_e, b01_ite]; rfl
theorem need_5 : fX9_need M (b01 false) 5 = some (.inl 4) := by
  unfold fX9_need; rw [jn_e, b01_ite]; rfl
theorem need_1' : fX9_need M 0 1 = some (.inl 0) := need_1
theorem need_2' : fX9_need M 0 2 = some (.inl 1) := need_2
theorem need_3' : fX9_need M 0 3 = some (.inl 2) := need_3
theorem need_5' : fX9_need M 0 5 = some (.inl 4) := need_5
theorem need_T' (f : Int32) : fX9_need M 1 f = some (.inr ()) := need_T f
theorem raise_0 : fX9_raise M 0 = some (.inr ()) := rfl
theorem raise_1 : fX9_raise M 1 = some (.inl 0) := rfl
theorem raise_2 : fX9_raise M 2 = some (.inl 1) := rfl
theorem raise_3 : fX9_raise M 3 = some (.inl 2) := rfl
theorem raise_4 : fX9_raise M 4 = some (.inl 3) := rfl
theorem raise_5 : fX9_raise M 5 = some (.inl 4) := rfl
theorem x_fw_noj (hR : RS M 1 A) {p : Int32} (h : inJ A p = false) (g : Int32) : fX9_foundWith M p g = some (.inl 0) := by
  unfold fX9_foundWith
  rw [x_found_no hR h, clpx_l]
theorem x_fw_nog (hR : RS M 1 A) (v : Val A) {j : Nat} (hj : j < 4) (hl : nI j < A 2) {g : Int32} (h : inG A j g = false) : fX9_foundWith M (nI j) g = some (.inl 0) := by
  unfold fX9_foundWith
  rw [x_found hR v hj hl, clpx_r, grd_T (jb hj), x_hg (hR.j hj), clp_e, h, need_1, clpx_l]
theorem x_fw (hR : RS M 1 A) (v : Val A) {j : Nat} (hj : j < 4) (hl : nI j < A 2) {g : Int32} (h : inG A j g = true) : fX9_foundWith M (nI j) g = some (.inr (1 + 2 + 10 * j)) := by
  unfold fX9_foundWith
  rw [x_found hR v hj hl, clpx_r, grd_T (jb hj), x_hg (hR.j hj), clp_e, h, need_T, clpx_r]
end AG
/-! searches -/
def al (p : Nat → Bool) : Nat → Bool
  | 0 => true
  | n + 1 => al p n && p n
theorem al_T {p : Nat → Bool} : ∀ {n : Nat}, al p n = true ↔ ∀ i, i < n → p i = true
  | 0 => ⟨fun _ i hi => absurd hi (by omega), fun _ => rfl⟩
  | n + 1 => by
    show (al p n && p n) = true ↔ _
    rw [Bool.and_eq_true, al_T]
    constructor
    · intro h i hi
      by_cases e : i = n
      · subst e; exact h.2
      · exact h.1 i (by omega)
    · intro h
      exact ⟨fun i hi => h i (by omega), h n (by omega)⟩
theorem al_F {p : Nat → Bool} : ∀ {n : Nat}, al p n = false → ∃ i, i < n ∧ p i = false ∧ ∀ k, k < i → p k = true
  | 0, h => by cases h
  | n + 1, h => by
    by_cases c : al p n = true
    · refine ⟨n, by omega, ?_, al_T.mp c⟩
      have h' : (al p n && p n) = false := h
      rw [c, Bool.true_and] at h'
      exact h'
    · obtain ⟨i, h1, h2, h3⟩ := al_F (p := p) (n := n) (Bool.not_eq_true _ |>.mp c)
      exact ⟨i, by omega, h2, h3⟩
theorem lp_srch {S β : Type} {f : (S → Option β) → S → Option β} {s0 : S} (st : Nat → S) (p : Nat → Bool) {rt : Option β} {rf : Nat → Option β} (N : Nat) (hN : N < 100000) (h0 : s0 = st 0) (hs : ∀ i, i < N → p i = true → ∀ k, f k (st i) = k (st (i + 1))) (hb : ∀ i, i < N → p i = false → ∀ k, f k (st i) = rf i) (he : ∀ k, f k (st N) = rt) : (al p N = true ∧ lp f FU s0 = rt) ∨ ∃ i, i < N ∧ p i = false ∧ (∀ k, k < i → p k = true) ∧ lp f FU s0 = rf i := by
  by_cases c : al p N = true
  · exact Or.inl ⟨c, lp_at st N hN h0 (fun i hi => hs i hi (al_T.mp c i hi)) he⟩
  · obtain ⟨i, h1, h2, h3⟩ := al_F (Bool.not_eq_true _ |>.mp c)
    exact Or.inr ⟨i, h1, h2, h3, lp_at st i (by omega) h0 (fun q hq => hs q (by omega) (h3 q hq)) (hb i h1 h2)⟩
