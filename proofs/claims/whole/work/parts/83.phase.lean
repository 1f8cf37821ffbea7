/-! calls: phase, make : the first colouring, with all colours and with used ones and the next -/
def fs1 {α : Type} (g : Nat → Option α) : Nat → Option α
  | 0 => none
  | i + 1 => match fs1 g i with
    | some x => some x
    | none => g i
theorem fs1_some {α : Type} {g : Nat → Option α} {i : Nat} {x : α} (h0 : fs1 g i = none) (h : g i = some x) : ∀ n, i < n → fs1 g n = some x
  | 0, hn => absurd hn (by omega)
  | n + 1, hn => by
    by_cases e : i = n
    · subst e; simp only [fs1]; rw [h0]; exact h
    · have := fs1_some h0 h n (by omega)
      simp only [fs1]; rw [this]
theorem fs1_none {α : Type} {g : Nat → Option α} : ∀ n, fs1 g n = none ↔ ∀ i, i < n → g i = none
  | 0 => ⟨fun _ i hi => absurd hi (by omega), fun _ => rfl⟩
  | n + 1 => by
    have ih := fs1_none (g := g) n
    constructor
    · intro h
      simp only [fs1] at h
      cases e : fs1 g n with
      | some x => rw [e] at h; cases h
      | none =>
        rw [e] at h
        intro i hi
        by_cases c : i = n
        · subst c; exact h
        · exact ih.mp e i (by omega)
    · intro h
      simp only [fs1]
      rw [ih.mpr (fun i hi => h i (by omega))]
      exact h n (by omega)
theorem fs1_s {α : Type} {g : Nat → Option α} {i : Nat} (h0 : fs1 g i = none) (h : g i = none) : fs1 g (i + 1) = none := by
  simp only [fs1]; rw [h0]; exact h
theorem fs1_cong {α : Type} {g h : Nat → Option α} : ∀ n, (∀ i, i < n → g i = h i) → fs1 g n = fs1 h n
  | 0, _ => rfl
  | n + 1, e => by simp only [fs1]; rw [fs1_cong n (fun i hi => e i (by omega)), e n (by omega)]
/-- beyond m nothing succeeds that has no success at m or below -/
theorem fs1_cut {α : Type} {g : Nat → Option α} {m : Nat} : ∀ n, m ≤ n → (∀ p, m ≤ p → p < n → g p ≠ none → ∃ q, q < m ∧ g q ≠ none) → fs1 g n = fs1 g m
  | 0, h, _ => by rw [show m = 0 by omega]
  | n + 1, h, hc => by
    by_cases e : m = n + 1
    · rw [e]
    · have ih := fs1_cut n (by omega) (fun p h1 h2 => hc p h1 (by omega))
      simp only [fs1]
      rw [ih]
      cases c : fs1 g m with
      | some x => rfl
      | none =>
        show g n = none
        cases d : g n with
        | none => rfl
        | some y =>
          obtain ⟨q, q1, q2⟩ := hc n (by omega) (by omega) (by rw [d]; exact fun z => by cases z)
          exact absurd ((fs1_none m).mp c q q1) q2
def okp (c : Nat → Nat → Bool) (pre : List Nat) (p : Nat) : Bool := al (fun o => !(decide (pre.getD o 0 = p) && c pre.length o)) pre.length
def usd (pre : List Nat) : Nat := pre.foldl (fun a p => max a (p + 1)) 0
def fnd (c : Nat → Nat → Bool) (L : Nat) : Nat → List Nat → Option (List Nat)
  | 0, pre => some pre
  | d + 1, pre => fs1 (fun p => if okp c pre p then fnd c L d (pre ++ [p]) else none) L
def fnd2 (c : Nat → Nat → Bool) (L : Nat) : Nat → List Nat → Option (List Nat)
  | 0, pre => some pre
  | d + 1, pre => fs1 (fun p => if okp c pre p then fnd2 c L d (pre ++ [p]) else none) (min (usd pre + 1) L)
def Ex (c : Nat → Nat → Bool) (L : Nat) : Nat → List Nat → Prop
  | 0, _ => True
  | d + 1, pre => ∃ p, p < L ∧ okp c pre p = true ∧ Ex c L d (pre ++ [p])
theorem fnd_ex (c : Nat → Nat → Bool) (L : Nat) : ∀ d pre, fnd c L d pre ≠ none ↔ Ex c L d pre
  | 0, pre => ⟨fun _ => trivial, fun _ z => by cases z⟩
  | d + 1, pre => by
    constructor
    · intro h
      have : ¬ ∀ i, i < L → (fun p => if okp c pre p then fnd c L d (pre ++ [p]) else none) i = none := fun z => h ((fs1_none L).mpr z)
      by_cases e : ∃ i, i < L ∧ ¬ (if okp c pre i then fnd c L d (pre ++ [i]) else none) = none
      · obtain ⟨i, h1, h2⟩ := e
        by_cases k : okp c pre i = true
        · rw [if_pos k] at h2
          exact ⟨i, h1, k, (fnd_ex c L d _).mp h2⟩
        · rw [if_neg k] at h2; exact absurd rfl h2
      · exact absurd (fun i hi => by
          by_cases z : (if okp c pre i then fnd c L d (pre ++ [i]) else none) = none
          · exact z
          · exact absurd ⟨i, hi, z⟩ e) this
    · rintro ⟨p, h1, h2, h3⟩ z
      have := (fs1_none L).mp z p h1
      simp only [h2, if_true] at this
      exact (fnd_ex c L d _).mpr h3 this
theorem getD_map (s : Nat → Nat) (pre : List Nat) {o : Nat} (h : o < pre.length) : (pre.map s).getD o 0 = s (pre.getD o 0) := by
  simp [List.getD, List.getElem?_eq_getElem h]
theorem okp_map (c : Nat → Nat → Bool) {s : Nat → Nat} (hs : ∀ a b, s a = s b → a = b) (pre : List Nat) (p : Nat) (h : okp c pre p = true) : okp c (pre.map s) (s p) = true := by
  unfold okp at h ⊢
  rw [al_T] at h ⊢
  intro o ho
  rw [List.length_map] at ho ⊢
  have := h o ho
  rw [getD_map s pre ho]
  by_cases e : pre.getD o 0 = p
  · rw [e] at this ⊢
    simpa using this
  · have e' : ¬ s (pre.getD o 0) = s p := fun z => e (hs _ _ z)
    rw [decide_eq_false e']; rfl
theorem Ex_map (c : Nat → Nat → Bool) (L : Nat) {s : Nat → Nat} (hs : ∀ a b, s a = s b → a = b) (hL : ∀ a, a < L → s a < L) : ∀ d pre, Ex c L d pre → Ex c L d (pre.map s)
  | 0, _, _ => trivial
  | d + 1, pre, ⟨p, h1, h2, h3⟩ => ⟨s p, hL p h1, okp_map c hs pre p h2, by
      have := Ex_map c L hs hL d _ h3
      simpa using this⟩
theorem usd_foldl : ∀ (pre : List Nat) (a : Nat), pre.foldl (fun a p => max a (p + 1)) a = max a (usd pre)
  | [], a => by simp [usd]
  | x :: t, a => by
    show t.foldl (fun a p => max a (p + 1)) (max a (x + 1)) = _
    rw [usd_foldl t]
    have : usd (x :: t) = max (max 0 (x + 1)) (usd t) := by
      show t.foldl (fun a p => max a (p + 1)) (max 0 (x + 1)) = _
      rw [usd_foldl t]
    rw [this]; omega
theorem usd_app (pre : List Nat) (p : Nat) : usd (pre ++ [p]) = max (usd pre) (p + 1) := by
  unfold usd; rw [List.foldl_append]; rfl
theorem usd_mem : ∀ {pre : List Nat} {x : Nat}, x ∈ pre → x < usd pre
  | [], _, h => absurd h (by simp)
  | y :: t, x, h => by
    have e : usd (y :: t) = max (max 0 (y + 1)) (usd t) := by
      show t.foldl (fun a p => max a (p + 1)) (max 0 (y + 1)) = _
      rw [usd_foldl t]
    rw [e]
    rcases List.mem_cons.mp h with h | h
    · omega
    · have := usd_mem h; omega
def swp (u p x : Nat) : Nat := if x = u then p else if x = p then u else x
theorem swp_inj (u p : Nat) : ∀ a b, swp u p a = swp u p b → a = b := by
  intro a b h
  unfold swp at h
  split at h <;> split at h <;> (try split at h) <;> (try split at h) <;> omega
theorem map_id_mem {s : Nat → Nat} : ∀ {pre : List Nat}, (∀ x, x ∈ pre → s x = x) → pre.map s = pre
  | [], _ => rfl
  | x :: t, h => by
    rw [List.map_cons, h x (List.mem_cons_self), map_id_mem (fun y hy => h y (List.mem_cons_of_mem _ hy))]
theorem getD_mem {pre : List Nat} {o : Nat} (h : o < pre.length) : pre.getD o 0 ∈ pre := by
  have : pre.getD o 0 = pre[o] := by simp [List.getD, List.getElem?_eq_getElem h]
  rw [this]; exact List.getElem_mem h
theorem okp_new (c : Nat → Nat → Bool) {pre : List Nat} {u : Nat} (hu : usd pre ≤ u) : okp c pre u = true := by
  unfold okp
  rw [al_T]
  intro o ho
  have := usd_mem (getD_mem ho)
  rw [decide_eq_false (by omega)]; rfl
theorem fnd_fnd2 (c : Nat → Nat → Bool) (L : Nat) : ∀ d pre, fnd c L d pre = fnd2 c L d pre
  | 0, _ => rfl
  | d + 1, pre => by
    show fs1 _ L = fs1 _ (min (usd pre + 1) L)
    rw [← fs1_cong (g := fun p => if okp c pre p then fnd c L d (pre ++ [p]) else none) (min (usd pre + 1) L) (fun i _ => by rw [fnd_fnd2 c L d])]
    refine fs1_cut L (Nat.min_le_right _ _) (fun p h1 h2 h3 => ?_)
    have hp : usd pre + 1 ≤ p := by omega
    by_cases k : okp c pre p = true
    · rw [if_pos k] at h3
      have h4 := (fnd_ex c L d _).mp h3
      have h5 := Ex_map c L (swp_inj (usd pre) p) (fun a ha => by unfold swp; split <;> (try split) <;> omega) d _ h4
      have h6 : (pre ++ [p]).map (swp (usd pre) p) = pre ++ [usd pre] := by
        rw [List.map_append, map_id_mem (fun x hx => by
          have := usd_mem hx
          unfold swp; rw [if_neg (by omega), if_neg (by omega)])]
        show pre ++ [swp (usd pre) p p] = _
        unfold swp; rw [if_neg (by omega), if_pos rfl]
      rw [h6] at h5
      refine ⟨usd pre, by omega, ?_⟩
      show (if okp c pre (usd pre) then fnd c L d (pre ++ [usd pre]) else none) ≠ none
      rw [if_pos (okp_new c (Nat.le_refl _))]
      exact (fnd_ex c L d _).mpr h5
    · rw [if_neg k] at h3; exact absurd rfl h3
theorem usd_range : ∀ g, usd (List.range g) = g
  | 0 => rfl
  | g + 1 => by rw [List.range_succ, usd_app, usd_range g]; omega
theorem Ex_range (c : Nat → Nat → Bool) (L : Nat) : ∀ d g, g + d ≤ L → Ex c L d (List.range g)
  | 0, _, _ => trivial
  | d + 1, g, h => ⟨g, by omega, okp_new c (by rw [usd_range]; exact Nat.le_refl _), by rw [← List.range_succ]; exact Ex_range c L d (g + 1) (by omega)⟩
theorem fnd_n (c : Nat → Nat → Bool) (n : Nat) : fnd c n n [] ≠ none := (fnd_ex c n n []).mpr (Ex_range c n n 0 (by omega))
/-- a found list: longer by d, colours below L, no two in conflict alike -/
theorem fnd_len (c : Nat → Nat → Bool) (L : Nat) : ∀ d pre w, fnd c L d pre = some w → w.length = pre.length + d ∧ (∀ o, o < pre.length → w.getD o 0 = pre.getD o 0) ∧ (∀ o, pre.length ≤ o → o < pre.length + d → w.getD o 0 < L ∧ ∀ q, q < o → w.getD q 0 = w.getD o 0 → c o q = false)
  | 0, pre, w, h => by
    cases h
    exact ⟨rfl, fun _ _ => rfl, fun o h1 h2 => absurd h1 (by omega)⟩
  | d + 1, pre, w, h => by
    have h' : fs1 (fun p => if okp c pre p then fnd c L d (pre ++ [p]) else none) L = some w := h
    have ex : ∃ p, p < L ∧ (if okp c pre p then fnd c L d (pre ++ [p]) else none) = some w := by
      clear h
      have key : ∀ n, fs1 (fun p => if okp c pre p then fnd c L d (pre ++ [p]) else none) n = some w → ∃ p, p < n ∧ (if okp c pre p then fnd c L d (pre ++ [p]) else none) = some w := by
        intro n
        induction n with
        | zero => intro z; cases z
        | succ n ih =>
          intro z
          simp only [fs1] at z
          cases e : fs1 (fun p => if okp c pre p then fnd c L d (pre ++ [p]) else none) n with
          | some x =>
            rw [e] at z
            cases z
            obtain ⟨p, a, b⟩ := ih e
            exact ⟨p, by omega, b⟩
          | none =>
            rw [e] at z
            exact ⟨n, by omega, z⟩
      exact key L h'
    obtain ⟨p, p1, p2⟩ := ex
    by_cases k : okp c pre p = true
    · rw [if_pos k] at p2
      obtain ⟨a1, a2, a3⟩ := fnd_len c L d _ w p2
      rw [List.length_append, List.length_singleton] at a1 a2 a3
      have wp : w.getD pre.length 0 = p := by
        rw [a2 pre.length (by omega)]
        simp [List.getD]
      have wl : ∀ o, o < pre.length → w.getD o 0 = pre.getD o 0 := fun o ho => by
        rw [a2 o (by omega)]
        simp [List.getD, List.getElem?_append_left ho]
      refine ⟨by omega, wl, fun o h1 h2 => ?_⟩
      by_cases e : o = pre.length
      · subst e
        rw [wp]
        refine ⟨p1, fun q hq hz => ?_⟩
        unfold okp at k
        have := al_T.mp k q hq
        rw [wl q hq] at hz
        rw [hz] at this
        simpa using this
      · exact a3 o (by omega) (by omega)
    · rw [if_neg k] at p2; cases p2
