/-! call: text : the parser as a function; the class's small steps -/
def ltr (x : Int32) : Bool := decide (97 ≤ x) && decide (x ≤ 122)
def dgt (x : Int32) : Bool := decide (48 ≤ x) && decide (x ≤ 57)
def rl (P : Nat → Bool) : Nat → Nat
  | 0 => 0
  | k + 1 => if rl P k = k ∧ P k = true then k + 1 else rl P k
theorem rl_le (P : Nat → Bool) : ∀ n, rl P n ≤ n
  | 0 => Nat.le_refl _
  | n + 1 => by
    have := rl_le P n
    unfold rl
    split <;> omega
theorem rl_all (P : Nat → Bool) : ∀ n i, i < rl P n → P i = true
  | 0, i, h => absurd h (by unfold rl; omega)
  | n + 1, i, h => by
    unfold rl at h
    split at h
    · rename_i z
      by_cases e : i = n
      · subst e; exact z.2
      · exact rl_all P n i (by omega)
    · exact rl_all P n i h
theorem rl_end (P : Nat → Bool) : ∀ n, rl P n < n → P (rl P n) = false
  | 0, h => absurd h (by omega)
  | n + 1, h => by
    unfold rl at h ⊢
    by_cases z : rl P n = n ∧ P n = true
    · rw [if_pos z] at h; omega
    · rw [if_neg z] at h ⊢
      by_cases e : rl P n = n
      · rw [e]
        exact Bool.not_eq_true _ |>.mp (fun y => z ⟨e, y⟩)
      · exact rl_end P n (by have := rl_le P n; omega)
def lcond (s : Nat → Int32) (l p i : Nat) : Bool := decide (p + i < l) && ltr (s (p + i))
def wlen (s : Nat → Int32) (l p : Nat) : Nat := rl (lcond s l p) 60
def weq (s : Nat → Int32) (p n o : Nat) : Bool := decide (sl (29 + o) = n) && al (fun i => decide ((TX (29 + o)).getD i 0 = s (p + i))) (sl (29 + o))
def widx (s : Nat → Int32) (p n : Nat) : Option Nat := fs1 (fun o => if weq s p n o then some o else none) 6
/-- a place and the error's place -/
abbrev Sg : Type := Nat × Option Nat
def sgn (s : Nat → Int32) (l : Nat) (c : Int32) (σ : Sg) : Sg := if σ.2 = none then (if (decide (σ.1 < l) && decide (s σ.1 = c)) = true then (σ.1 + 1, none) else (σ.1, some σ.1)) else σ
def dcond (s : Nat → Int32) (l p k : Nat) (v : Int32) : Bool := (decide (k = 0) || !decide (v = 0)) && (decide (p + k < l) && dgt (s (p + k)))
def dst (s : Nat → Int32) (l p : Nat) : Nat → Nat × Int32
  | 0 => (0, 0)
  | k + 1 => if (dst s l p k).1 = k ∧ dcond s l p k (dst s l p k).2 = true then (k + 1, 10 * (dst s l p k).2 + s (p + k) - 48) else dst s l p k
def nmb (s : Nat → Int32) (l : Nat) (σ : Sg) : Sg × Int32 := if σ.2 = none then (if (dst s l σ.1 4).1 = 0 then ((σ.1, some σ.1), 0) else ((σ.1 + (dst s l σ.1 4).1, none), (dst s l σ.1 4).2)) else (σ, 0)
def itc (s : Nat → Int32) (l i : Nat) (σ : Sg) : Sg × Int32 := nmb s l (if i = 0 then σ else sgn s l 44 σ)
def itl (s : Nat → Int32) (l : Nat) (σ : Sg) : Nat → Sg × (Nat → Int32)
  | 0 => (σ, fun _ => 0)
  | i + 1 => ((itc s l i (itl s l σ i).1).1, fun k => if k = i then (itc s l i (itl s l σ i).1).2 else (itl s l σ i).2 k)
def nwn (o : Nat) : Nat := [5, 2, 2, 1, 1, 3].getD o 0
theorem nw_e {o : Nat} (h : o < 6) : nw o = nI (nwn o) ∧ 1 ≤ nwn o ∧ nwn o ≤ 5 := by
  have key : ∀ o : Fin 6, nw o.val = nI (nwn o.val) ∧ 1 ≤ nwn o.val ∧ nwn o.val ≤ 5 := by decide
  exact key ⟨o, h⟩
def cmw (s : Nat → Int32) (l p o : Nat) : Sg × (Nat → Int32) := (sgn s l 59 (itl s l (sgn s l 58 (p + wlen s l p, none)) (nwn o)).1, (itl s l (sgn s l 58 (p + wlen s l p, none)) (nwn o)).2)
/-! small facts -/
theorem dst_le (s : Nat → Int32) (l p : Nat) : ∀ k, (dst s l p k).1 ≤ k
  | 0 => Nat.le_refl _
  | k + 1 => by
    have := dst_le s l p k
    unfold dst
    split <;> omega
theorem dst_in (s : Nat → Int32) (l p : Nat) : ∀ k, p + (dst s l p k).1 ≤ max p l
  | 0 => by show p + 0 ≤ _; omega
  | k + 1 => by
    have := dst_in s l p k
    unfold dst
    split
    · rename_i h
      have h2 := h.2
      unfold dcond at h2
      rw [Bool.and_eq_true, Bool.and_eq_true, decide_eq_true_iff] at h2
      have := h2.2.1
      show p + (k + 1) ≤ _
      omega
    · exact this
theorem dgt_n {x : Int32} (h : dgt x = true) : ∃ d : Nat, d < 10 ∧ x = nI (48 + d) := by
  have hb := dec_ct h
  have e1 : Int32.toInt 48 = 48 := rfl
  have e2 : Int32.toInt 57 = 57 := rfl
  rw [e1, e2] at hb
  obtain ⟨n, h1, h2, h3⟩ := bt_nI (x := x) (hi := 57) ⟨by have := hb.1; omega, hb.2⟩
  subst h1
  have := hb.1
  rw [nI_toInt h3] at this
  exact ⟨n - 48, by omega, by congr 1; omega⟩
theorem dst_v (s : Nat → Int32) (l p : Nat) : ∀ k, k ≤ 4 → ∃ v : Nat, (dst s l p k).2 = nI v ∧ v < 10 ^ k
  | 0, _ => ⟨0, rfl, by decide⟩
  | k + 1, hk => by
    obtain ⟨v, h1, h2⟩ := dst_v s l p k (by omega)
    have hp : (10 : Nat) ^ k ≤ 10 ^ 3 := Nat.pow_le_pow_right (by omega) (by omega)
    unfold dst
    split
    · rename_i h
      have hc := h.2
      unfold dcond at hc
      rw [Bool.and_eq_true, Bool.and_eq_true] at hc
      obtain ⟨d, d1, d2⟩ := dgt_n hc.2.2
      refine ⟨10 * v + d, ?_, ?_⟩
      · show 10 * (dst s l p k).2 + s (p + k) - 48 = _
        rw [h1, d2, show (10 : Int32) = nI 10 from rfl, nI_mul, nI_add, show (48 : Int32) = nI 48 from rfl, nI_sub (by omega)]
        congr 1; omega
      · rw [Nat.pow_succ]; omega
    · exact ⟨v, h1, Nat.lt_of_lt_of_le h2 (Nat.pow_le_pow_right (by omega) (by omega))⟩
theorem sgn_in {s : Nat → Int32} {l : Nat} {c : Int32} {σ : Sg} (h : σ.1 ≤ max σ.1 l) {B : Nat} (hB : σ.1 ≤ B) (hl : l ≤ B) (he : ∀ x, σ.2 = some x → x ≤ B) : (sgn s l c σ).1 ≤ B ∧ ∀ x, (sgn s l c σ).2 = some x → x ≤ B := by
  unfold sgn
  split
  · split
    · rename_i z
      rw [Bool.and_eq_true, decide_eq_true_iff] at z
      exact ⟨by show σ.1 + 1 ≤ B; omega, fun x hx => by cases hx⟩
    · exact ⟨hB, fun x hx => by cases hx; exact hB⟩
  · exact ⟨hB, he⟩
theorem nmb_in {s : Nat → Int32} {l : Nat} {σ : Sg} {B : Nat} (hB : σ.1 ≤ B) (hl : l ≤ B) (he : ∀ x, σ.2 = some x → x ≤ B) : (nmb s l σ).1.1 ≤ B ∧ ∀ x, (nmb s l σ).1.2 = some x → x ≤ B := by
  have := dst_in s l σ.1 4
  unfold nmb
  split
  · split
    · exact ⟨hB, fun x hx => by cases hx; exact hB⟩
    · exact ⟨by show σ.1 + _ ≤ B; omega, fun x hx => by cases hx⟩
  · exact ⟨hB, he⟩
theorem itc_in {s : Nat → Int32} {l i : Nat} {σ : Sg} {B : Nat} (hB : σ.1 ≤ B) (hl : l ≤ B) (he : ∀ x, σ.2 = some x → x ≤ B) : (itc s l i σ).1.1 ≤ B ∧ ∀ x, (itc s l i σ).1.2 = some x → x ≤ B := by
  unfold itc
  split
  · exact nmb_in hB hl he
  · obtain ⟨a, b⟩ := sgn_in (s := s) (c := 44) (by omega) hB hl he
    exact nmb_in a hl b
theorem itl_in {s : Nat → Int32} {l : Nat} {σ : Sg} {B : Nat} (hB : σ.1 ≤ B) (hl : l ≤ B) (he : ∀ x, σ.2 = some x → x ≤ B) : ∀ n, (itl s l σ n).1.1 ≤ B ∧ ∀ x, (itl s l σ n).1.2 = some x → x ≤ B
  | 0 => ⟨hB, he⟩
  | n + 1 => by
    obtain ⟨a, b⟩ := itl_in hB hl he n
    exact itc_in a hl b
/-! the class: reading -/
def ee : Option Nat → Int32
  | none => -1
  | some x => nI x
theorem ee_n {o : Option Nat} (h : ∀ x, o = some x → x ≤ 60) : (ee o = -1) ↔ o = none := by
  cases o with
  | none => exact ⟨fun _ => rfl, fun _ => rfl⟩
  | some x =>
    have := h x rfl
    constructor
    · intro z
      have z' : nI x = -1 := z
      rw [ti_eq, nI_toInt (by omega)] at z'
      have e : Int32.toInt (-1) = -1 := by decide
      omega
    · intro z; cases z
/-- the class's script at a place: its text, the place, the error -/
def CP (s : Nat → Int32) (l : Nat) (M : Mem) (σ : Sg) : Prop := l ≤ 60 ∧ M 472 0 = nI l ∧ (∀ k, k < l → M 473 k = s k) ∧ M 472 2 = nI σ.1 ∧ M 472 3 = ee σ.2 ∧ σ.1 ≤ 60 ∧ (∀ x, σ.2 = some x → x ≤ 60)
section P91
variable {s : Nat → Int32} {l : Nat} {M : Mem} {σ : Sg}
theorem x_next (h : CP s l M σ) (a b : Int32) : fX5_isNextWithin M a b = some (b01 (decide (σ.1 < l) && (decide (a ≤ s σ.1) && decide (s σ.1 ≤ b)))) := by
  obtain ⟨h1, h2, h3, h4, h5, h6, h7⟩ := h
  unfold fX5_isNextWithin
  simp only [jn_e]
  rw [h2, h4]
  by_cases c : σ.1 < l
  · rw [if_neg (nI_ge c (by omega)), if_neg (show ¬ (60 : Int32) ≤ nI σ.1 from nI_ge (b := 60) (by omega) (by omega)), grd_T (inb_nI (by omega) (by omega)), nI_clamp (by omega), h3 _ c, f_isWithin, clp_e, b01_ite, decide_eq_true c, Bool.true_and]
    cases (decide (a ≤ s σ.1) && decide (s σ.1 ≤ b)) <;> rfl
  · rw [if_pos (nI_le (by omega) (by omega)), decide_eq_false c]; rfl
theorem x_nextc (h : CP s l M σ) (c : Int32) : fX5_isNextWithin M c c = some (b01 (decide (σ.1 < l) && decide (s σ.1 = c))) := by
  rw [x_next h]
  congr 2
  congr 1
  by_cases e : s σ.1 = c
  · rw [decide_eq_true e, e, decide_eq_true (by rw [ti_le]; omega)]; rfl
  · rw [decide_eq_false e]
    by_cases z : c ≤ s σ.1
    · rw [decide_eq_true z, Bool.true_and]
      refine decide_eq_false (fun y => e ?_)
      rw [ti_le] at z y
      rw [ti_eq]; omega
    · rw [decide_eq_false z]; rfl
theorem CP.set {k : Nat} {v : Int32} {o : Nat} (h : CP s l M σ) (ho : o ≠ 472 ∧ o ≠ 473) : CP s l (mset M o k v) σ := by
  obtain ⟨h1, h2, h3, h4, h5, h6, h7⟩ := h
  exact ⟨h1, by rw [ms_other _ _ _ (by omega)]; exact h2, fun k hk => by rw [ms_other _ _ _ (by omega)]; exact h3 k hk, by rw [ms_other _ _ _ (by omega)]; exact h4, by rw [ms_other _ _ _ (by omega)]; exact h5, h6, h7⟩
theorem CP.pl (h : CP s l M σ) {p : Nat} (hp : p ≤ 60) : CP s l (mset M 472 2 (nI p)) (p, σ.2) := by
  obtain ⟨h1, h2, h3, h4, h5, h6, h7⟩ := h
  exact ⟨h1, by rw [ms_at, if_neg (by omega)]; exact h2, fun k hk => by rw [ms_other _ _ _ (by omega)]; exact h3 k hk, by rw [ms_at, if_pos ⟨rfl, rfl⟩], by rw [ms_at, if_neg (by omega)]; exact h5, hp, h7⟩
theorem CP.er (h : CP s l M σ) {x : Nat} (hx : x ≤ 60) : CP s l (mset M 472 3 (nI x)) (σ.1, some x) := by
  obtain ⟨h1, h2, h3, h4, h5, h6, h7⟩ := h
  exact ⟨h1, by rw [ms_at, if_neg (by omega)]; exact h2, fun k hk => by rw [ms_other _ _ _ (by omega)]; exact h3 k hk, by rw [ms_at, if_neg (by omega)]; exact h4, by rw [ms_at, if_pos ⟨rfl, rfl⟩]; rfl, h6, fun y hy => by cases hy; exact hx⟩
/-- all but place and error stays -/
def Kp (M M' : Mem) : Prop := (∀ o, o ≠ 472 → M' o = M o) ∧ ∀ k, k ≠ 2 → k ≠ 3 → M' 472 k = M 472 k
theorem Kp.rf (M : Mem) : Kp M M := ⟨fun _ _ => rfl, fun _ _ _ => rfl⟩
theorem Kp.tr {M N K : Mem} (h : Kp M N) (h' : Kp N K) : Kp M K := ⟨fun o ho => (h'.1 o ho).trans (h.1 o ho), fun k a b => (h'.2 k a b).trans (h.2 k a b)⟩
theorem Kp.st (M : Mem) {k : Nat} (v : Int32) (hk : k = 2 ∨ k = 3) : Kp M (mset M 472 k v) := ⟨fun o ho => ms_other _ _ _ ho, fun q a b => by rw [ms_at, if_neg (by omega)]⟩
theorem x_rsign (h : CP s l M σ) (c : Int32) : ∃ M', fX5_readSign M c = some ((), M') ∧ CP s l M' (sgn s l c σ) ∧ Kp M M' := by
  have hx := x_nextc h c
  obtain ⟨h1, h2, h3, h4, h5, h6, h7⟩ := id h
  unfold fX5_readSign
  rw [jn_e, h5]
  by_cases e : σ.2 = none
  · rw [if_pos ((ee_n h7).mpr e), hx, clp_e, b01_ite]
    unfold sgn
    rw [if_pos e]
    by_cases z : (decide (σ.1 < l) && decide (s σ.1 = c)) = true
    · rw [if_pos z, if_pos z, bnd_e, h4, nI_1]
      have hlt : σ.1 < l := by rw [Bool.and_eq_true, decide_eq_true_iff] at z; exact z.1
      have := h.pl (p := σ.1 + 1) (by omega)
      rw [e] at this
      exact ⟨_, rfl, this, Kp.st M _ (Or.inl rfl)⟩
    · rw [if_neg z, if_neg z, bnd_e, h4]
      exact ⟨_, rfl, h.er h6, Kp.st M _ (Or.inr rfl)⟩
  · rw [if_neg (fun z => e ((ee_n h7).mp z))]
    unfold sgn
    rw [if_neg e]
    exact ⟨M, rfl, h, Kp.rf M⟩
theorem x_rnum (h : CP s l M σ) : ∃ M', fX5_readNumber M = some ((nmb s l σ).2, M') ∧ CP s l M' (nmb s l σ).1 ∧ Kp M M' := by
  obtain ⟨h1, h2, h3, h4, h5, h6, h7⟩ := id h
  unfold fX5_readNumber
  rw [jn_e]
  by_cases e : σ.2 = none
  · -- the digits
    obtain ⟨p, er⟩ := σ
    dsimp only at e
    subst e
    have key : ∀ k2 : Int32 × Int32 × Mem → Option (Int32 × Mem), ∃ K, CP s l K (p + (dst s l p 4).1, none) ∧ Kp M K ∧ lp (fX5_readNumber_L1 k2) FU (0, 0, M) = k2 ((dst s l p 4).2, nI (dst s l p 4).1, K) := fun k2 => by
      have stp : ∀ (t : Nat) (v : Int32) (K : Mem), t ≤ 4 → CP s l K (p + t, none) → ∀ k, fX5_readNumber_L1 k2 k (v, nI t, K) = if t < 4 ∧ dcond s l p t v = true then k (10 * v + s (p + t) - 48, nI (t + 1), mset K 472 2 (nI (p + t + 1))) else k2 (v, nI t, K) := fun t v K ht hK k => by
        have hn := x_next hK 48 57
        obtain ⟨g1, g2, g3, g4, g5, g6, g7⟩ := hK
        simp only [fX5_readNumber_L1]
        rw [g5, if_pos (show ee none = -1 from rfl)]
        by_cases c4 : t < 4
        · rw [if_neg (show ¬ (4 : Int32) ≤ nI t from nI_ge (b := 4) c4 (by omega)), jn_e, hn, clp_e, b01_ite]
          by_cases t0 : t = 0
          · subst t0
            rw [if_pos (show nI 0 ≤ 0 by decide)]
            by_cases z : (decide (p + 0 < l) && (decide ((48 : Int32) ≤ s (p + 0)) && decide (s (p + 0) ≤ 57))) = true
            · have hlt : p + 0 < l := by rw [Bool.and_eq_true, decide_eq_true_iff] at z; exact z.1
              rw [if_pos z, if_pos ⟨c4, show dcond s l p 0 v = true by unfold dcond dgt; rw [z]; rfl⟩, g4]
              dsimp only
              rw [grd_T (inb_nI (by omega) (by omega)), nI_clamp (by omega), g3 _ hlt, bnd_e, bnd_e, nI_1, bnd_e, nI_1]
            · rw [if_neg z, if_neg (fun y => z (by have := y.2; unfold dcond dgt at this; rw [Bool.and_eq_true] at this; exact this.2))]
          · rw [if_neg (nI_nle (by omega) (by omega))]
            by_cases v0 : v = 0
            · rw [if_pos v0, if_neg (fun y => by have := y.2; unfold dcond at this; rw [decide_eq_false t0, decide_eq_true v0] at this; simp at this)]
            · rw [if_neg v0]
              have e0 : (decide (t = 0) || !decide (v = 0)) = true := by rw [decide_eq_false v0]; simp
              by_cases z : (decide (p + t < l) && (decide ((48 : Int32) ≤ s (p + t)) && decide (s (p + t) ≤ 57))) = true
              · have hlt : p + t < l := by rw [Bool.and_eq_true, decide_eq_true_iff] at z; exact z.1
                rw [if_pos z, if_pos ⟨c4, show dcond s l p t v = true by unfold dcond dgt; rw [z, e0]; rfl⟩, g4]
                dsimp only
                rw [grd_T (inb_nI (by omega) (by omega)), nI_clamp (by omega), g3 _ hlt, bnd_e, bnd_e, nI_1, bnd_e, nI_1]
              · rw [if_neg z, if_neg (fun y => z (by have := y.2; unfold dcond dgt at this; rw [Bool.and_eq_true] at this; exact this.2))]
        · rw [if_pos (show (4 : Int32) ≤ nI t from nI_le (a := 4) (by omega) (by omega)), if_neg (fun y => c4 y.1)]
      -- while the digits go on, dst counts them
      have fin : ∀ t, t ≤ 4 → (dst s l p t).1 = t → (t = 4 ∨ dcond s l p t (dst s l p t).2 = false) → dst s l p 4 = dst s l p t := fun t ht h1 h2 => by
        have ex : ∀ q, t ≤ q → q ≤ 4 → (t = 4 ∨ dst s l p q = dst s l p t) := fun q hq1 hq2 => by
          rcases h2 with h2 | h2
          · exact Or.inl h2
          · refine Or.inr ?_
            clear hq2
            induction q with
            | zero => rw [show t = 0 by omega]
            | succ q ih =>
              by_cases eq : t = q + 1
              · rw [eq]
              · have := ih (by omega)
                show (if (dst s l p q).1 = q ∧ dcond s l p q (dst s l p q).2 = true then _ else dst s l p q) = _
                rw [this, h1]
                rw [if_neg]
                rintro ⟨y1, y2⟩
                subst y1
                rw [h2] at y2; cases y2
        rcases ex 4 ht (Nat.le_refl _) with z | z
        · rw [z]
        · exact z
      have main := lp_inv (f := fX5_readNumber_L1 k2) (fun t (r : Int32 × Int32 × Mem) => r.1 = (dst s l p t).2 ∧ r.2.1 = nI t ∧ (dst s l p t).1 = t ∧ CP s l r.2.2 (p + t, none) ∧ Kp M r.2.2) (fun r => ∃ K, CP s l K (p + (dst s l p 4).1, none) ∧ Kp M K ∧ r = k2 ((dst s l p 4).2, nI (dst s l p 4).1, K)) 4 (by omega) (fun t ht r hr => by
        obtain ⟨v, x, K⟩ := r
        obtain ⟨r1, r2, r3, r4, r5⟩ := hr
        dsimp only at r1 r2 r3 r4 r5
        subst r1 r2
        by_cases z : dcond s l p t (dst s l p t).2 = true
        · have e1 : dst s l p (t + 1) = (t + 1, 10 * (dst s l p t).2 + s (p + t) - 48) := if_pos ⟨r3, z⟩
          refine Or.inl ⟨(10 * (dst s l p t).2 + s (p + t) - 48, nI (t + 1), mset K 472 2 (nI (p + t + 1))), ⟨by rw [e1], rfl, by rw [e1], r4.pl (by
            have z2 := z
            unfold dcond at z2
            rw [Bool.and_eq_true, Bool.and_eq_true, decide_eq_true_iff] at z2
            have := z2.2.1
            have := r4.1
            omega), r5.tr (Kp.st K _ (Or.inl rfl))⟩, fun k => ?_⟩
          rw [stp t _ K (by omega) r4, if_pos ⟨ht, z⟩]
        · have e1 := fin t (by omega) r3 (Or.inr (Bool.not_eq_true _ |>.mp z))
          refine Or.inr ⟨k2 ((dst s l p t).2, nI t, K), ⟨K, by rw [e1, r3]; exact r4, r5, by rw [e1, r3]⟩, fun k => ?_⟩
          rw [stp t _ K (by omega) r4, if_neg (fun y => z y.2)]) (fun r hr => by
        obtain ⟨v, x, K⟩ := r
        obtain ⟨r1, r2, r3, r4, r5⟩ := hr
        dsimp only at r1 r2 r3 r4 r5
        subst r1 r2
        refine ⟨k2 ((dst s l p 4).2, nI 4, K), ⟨K, by rw [r3]; exact r4, r5, by rw [r3]⟩, fun k => ?_⟩
        rw [stp 4 _ K (by omega) r4, if_neg (fun y => absurd y.1 (by omega))]) (0, 0, M) ⟨rfl, rfl, rfl, h, Kp.rf M⟩
      exact main
    obtain ⟨K, k1, k2, k3⟩ := key (fun a1 => jn (fun (a3 : Mem) => some (a1.1, a3)) (fun k4 => if a1.2.2 472 3 = (-1) then (if a1.2.1 = 0 then (bnd (mset a1.2.2 472 3 (a1.2.2 472 2)) (fun M5 => k4 M5)) else (k4 a1.2.2)) else (k4 a1.2.2)))
    rw [k3]
    dsimp only
    have hd := dst_le s l p 4
    have kk := k1
    obtain ⟨g1, g2, g3, g4, g5, g6, g7⟩ := k1
    rw [jn_e, if_pos (show K 472 3 = -1 from g5)]
    unfold nmb
    dsimp only
    rw [if_pos rfl]
    by_cases t0 : (dst s l p 4).1 = 0
    · have v0 : (dst s l p 4).2 = 0 := by
        have : ∀ k, (dst s l p k).1 = 0 → (dst s l p k).2 = 0 := by
          intro k
          induction k with
          | zero => intro _; rfl
          | succ k ih =>
            intro hz
            unfold dst at hz ⊢
            split
            · rename_i y; rw [if_pos y] at hz; simp at hz
            · rename_i y; rw [if_neg y] at hz; exact ih hz
        exact this 4 t0
      rw [t0, if_pos (show nI 0 = 0 from rfl), bnd_e, if_pos rfl, v0]
      rw [t0] at kk g4
      refine ⟨_, rfl, ?_, k2.tr (Kp.st K _ (Or.inr rfl))⟩
      rw [g4]
      exact kk.er h6
    · rw [if_neg (nI_ne0 (by omega) (by omega)), if_neg t0]
      exact ⟨K, rfl, kk, k2⟩
  · have e3 : ¬ M 472 3 = -1 := by rw [h5]; exact fun z => e ((ee_n h7).mp z)
    rw [show lp (fX5_readNumber_L1 (fun a1 => jn (fun (a3 : Mem) => some (a1.1, a3)) (fun k4 => if a1.2.2 472 3 = (-1) then (if a1.2.1 = 0 then (bnd (mset a1.2.2 472 3 (a1.2.2 472 2)) (fun M5 => k4 M5)) else (k4 a1.2.2)) else (k4 a1.2.2)))) FU (0, 0, M) = some (0, M) from lp_at (fun _ => (0, 0, M)) 0 (by omega) rfl (fun i hi => absurd hi (by omega)) (fun k => by
      simp only [fX5_readNumber_L1]
      rw [if_neg e3, jn_e]
      dsimp only
      rw [if_neg e3])]
    unfold nmb
    rw [if_neg e]
    exact ⟨M, rfl, h, Kp.rf M⟩
end P91
