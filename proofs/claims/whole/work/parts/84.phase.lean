/-! calls: phase, make : the two searches -/
def OA (M : Mem) (o : Nat) (w : List Nat) : Prop := ∀ k, k < w.length → M o k = nI (w.getD k 0)
theorem OA_app {M : Mem} {o : Nat} {w : List Nat} {p : Nat} (h : OA M o w) : OA (mset M o w.length (nI p)) o (w ++ [p]) := by
  intro k hk
  rw [ms_at]
  by_cases e : k = w.length
  · subst e; rw [if_pos ⟨rfl, rfl⟩]; simp [List.getD]
  · have hk' : k < w.length := by simp at hk; omega
    rw [if_neg (fun z => e z.2), h k hk']
    simp [List.getD, List.getElem?_append_left hk']
theorem OA_pre {M : Mem} {o : Nat} {w : List Nat} {p : Nat} (h : OA M o (w ++ [p])) : OA M o w := by
  intro k hk
  rw [h k (by simp; omega)]
  simp [List.getD, List.getElem?_append_left hk]
def sm6 (w : List Nat) : Prop := ∀ k, k < w.length → w.getD k 0 < 6
theorem sm6_app {w : List Nat} {p : Nat} (h : sm6 w) (hp : p < 6) : sm6 (w ++ [p]) := by
  intro k hk
  by_cases e : k = w.length
  · subst e; simpa [List.getD] using hp
  · have hk' : k < w.length := by simp at hk; omega
    have := h k hk'
    simpa [List.getD, List.getElem?_append_left hk'] using this
theorem usd6 : ∀ {w : List Nat}, sm6 w → usd w ≤ 6 := by
  intro w h
  have key : ∀ (t : List Nat) (a : Nat), a ≤ 6 → (∀ x, x ∈ t → x < 6) → t.foldl (fun a p => max a (p + 1)) a ≤ 6 := by
    intro t
    induction t with
    | nil => intro a ha _; exact ha
    | cons x t ih =>
      intro a ha hx
      have hx0 := hx x (List.mem_cons_self)
      exact ih (max a (x + 1)) (by omega) (fun y hy => hx y (List.mem_cons_of_mem _ hy))
  refine key w 0 (by omega) (fun x hx => ?_)
  obtain ⟨k, hk, e⟩ := List.getElem_of_mem hx
  have := h k hk
  rw [show w.getD k 0 = w[k] by simp [List.getD, List.getElem?_eq_getElem hk], e] at this
  exact this
section P84
variable {A : Ar} {J j n : Nat}
theorem x_peaceful {M : Mem} {w : List Nat} {p : Nat} (h : RJ M J A j) (hl : nI j < A 2) (v : VJ A j) (hw : OA M 466 w) (h6 : sm6 w) (hp : p < 6) (hg : w.length < 6) : fX3_isPeaceful M J (nI w.length) (nI p) = some (b01 (okp (cf A j) w p)) := by
  unfold fX3_isPeaceful
  have main := lp_fst (f := fX3_isPeaceful_L1 J (nI w.length) (nI p) M) (s0 := (0 : Int32)) (fun i => nI i) (fun o => !(decide (w.getD o 0 = p) && cf A j w.length o)) (rt := some 1) (rf := fun _ => some 0) w.length (by omega) rfl
    (fun i hi ht k => by
      simp only [fX3_isPeaceful_L1]
      have hi6 := h6 i hi
      rw [if_neg (nI_ge hi (by omega)), grd_T (inb_nI (by omega) (by omega)), jn_e, nI_clamp (by omega), hw i hi, x_conf h hl v hg (show i < 6 by omega), clp_e, b01_ite]
      dsimp only
      by_cases e : w.getD i 0 = p
      · rw [if_pos (by rw [e]), if_neg (by rw [e] at ht; simpa using ht), bnd_e, nI_1]
      · rw [if_neg (fun z => e ((nI_eq (by omega) (by omega)).mp z)), bnd_e, nI_1])
    (fun i hi ht k => by
      simp only [fX3_isPeaceful_L1]
      have hi6 := h6 i hi
      rw [if_neg (nI_ge hi (by omega)), grd_T (inb_nI (by omega) (by omega)), jn_e, nI_clamp (by omega), hw i hi, x_conf h hl v hg (show i < 6 by omega), clp_e, b01_ite]
      dsimp only
      have ht' : w.getD i 0 = p ∧ cf A j w.length i = true := by simpa using ht
      rw [if_pos (by rw [ht'.1]), if_pos ht'.2])
    (fun k => by
      simp only [fX3_isPeaceful_L1]
      rw [if_pos (nI_le (Nat.le_refl _) (by omega))])
  rw [main]
  unfold okp
  cases al (fun o => !(decide (w.getD o 0 = p) && cf A j w.length o)) w.length <;> rfl
theorem nI_max {a b : Nat} (ha : a < 2 ^ 31) (hb : b < 2 ^ 31) : (if nI a < nI b then nI b else nI a) = nI (max a b) := by
  by_cases h : a < b
  · rw [if_pos (nI_lt h hb)]; congr 1; omega
  · rw [if_neg (nI_nlt (by omega) ha)]; congr 1; omega
theorem x_placed (hl : nI j < A 2) (v : VJ A j) (hn : A (ix j 2) = nI n) (hn6 : n ≤ 6) (hJ : J + 10 ≤ 466) {L : Nat} (hL : L ≤ 6) : ∀ (d fuel : Nat) (M : Mem) (w : List Nat), d < fuel → w.length + d = n → RJ M J A j → OA M 466 w → sm6 w → ∃ M', fX3_isPlaced J fuel M (nI w.length) (nI (usd w)) (nI L) = some (b01 (fnd2 (cf A j) L d w).isSome, M') ∧ (∀ o, o ≠ 466 → M' o = M o) ∧ OA M' 466 w ∧ (∀ u, fnd2 (cf A j) L d w = some u → OA M' 466 u) := by
  intro d
  induction d with
  | zero =>
    intro fuel M w hf hw hR hO h6
    obtain ⟨fuel, rfl⟩ : ∃ z, fuel = z + 1 := ⟨fuel - 1, by omega⟩
    refine ⟨M, ?_, fun _ _ => rfl, hO, fun u hu => by cases hu; exact hO⟩
    show fX3_isPlaced_B J (fX3_isPlaced J fuel) M _ _ _ = _
    unfold fX3_isPlaced_B
    rw [jn_e, hR.w (by omega), hn, if_pos (nI_le (by omega) (by omega))]
    rfl
  | succ d ih =>
    intro fuel M w hf hw hR hO h6
    obtain ⟨fuel, rfl⟩ : ∃ z, fuel = z + 1 := ⟨fuel - 1, by omega⟩
    have hu6 := usd6 h6
    show ∃ M', fX3_isPlaced_B J (fX3_isPlaced J fuel) M _ _ _ = _ ∧ _
    unfold fX3_isPlaced_B
    rw [jn_e, hR.w (by omega), hn, if_neg (nI_ge (by omega) (by omega)), if_pos (show nI w.length < (6 : Int32) from nI_lt (b := 6) (by omega) (by omega)), jn_e]
    show ∃ M', _ = some (b01 (fs1 (fun p => if okp (cf A j) w p then fnd2 (cf A j) L d (w ++ [p]) else none) (min (usd w + 1) L)).isSome, M') ∧ _ ∧ _ ∧ (∀ u, fs1 (fun p => if okp (cf A j) w p then fnd2 (cf A j) L d (w ++ [p]) else none) (min (usd w + 1) L) = some u → _)
    obtain ⟨g, hg⟩ : ∃ g : Nat → Option (List Nat), g = fun p => if okp (cf A j) w p then fnd2 (cf A j) L d (w ++ [p]) else none := ⟨_, rfl⟩
    rw [← hg]
    refine lp_inv (f := fX3_isPlaced_L1 J (nI w.length) (nI (usd w)) (nI L) (fun a3 => some (0, a3)) (fX3_isPlaced J fuel)) (fun p (s : Int32 × Mem) => s.1 = nI p ∧ (∀ o, o ≠ 466 → s.2 o = M o) ∧ OA s.2 466 w ∧ fs1 g p = none) (fun r => ∃ M', r = some (b01 (fs1 g (min (usd w + 1) L)).isSome, M') ∧ (∀ o, o ≠ 466 → M' o = M o) ∧ OA M' 466 w ∧ (∀ u, fs1 g (min (usd w + 1) L) = some u → OA M' 466 u)) (min (usd w + 1) L) (by omega) (fun p hp s hs => ?_) (fun s hs => ?_) (0, M) ⟨rfl, fun _ _ => rfl, hO, rfl⟩
    · obtain ⟨x, K⟩ := s
      obtain ⟨a1, a2, a3, a4⟩ := hs
      dsimp only at a1 a2 a3
      subst a1
      have hRK : RJ K J A j := RJ_copy (fun o k ho _ => by rw [a2 (J + o) (by omega)]) hR
      have hpc := x_peaceful (p := p) hRK hl v a3 h6 (by omega) (by omega)
      have head : ∀ k, fX3_isPlaced_L1 J (nI w.length) (nI (usd w)) (nI L) (fun a3 => some (0, a3)) (fX3_isPlaced J fuel) k (nI p, K) = if okp (cf A j) w p = true then cl (fX3_isPlaced J fuel (mset K 466 w.length (nI p)) (nI (w ++ [p]).length) (nI (usd (w ++ [p]))) (nI L)) (fun x13 M14 => if x13 = 0 then k (nI (p + 1), M14) else some (1, M14)) else k (nI (p + 1), K) := fun k => by
        simp only [fX3_isPlaced_L1]
        rw [if_neg (nI_nlt (by omega) (by omega)), if_neg (nI_ge (by omega) (by omega)), hpc, clp_e, jn_e, b01_ite]
        dsimp only
        rw [grd_T (inb_nI (by omega) (by omega)), nI_clamp (by omega), bnd_e, f_max, nI_1, nI_max (by omega) (by omega), clp_e, bnd_e, nI_1, usd_app]
        have el : (w ++ [p]).length = w.length + 1 := by simp
        rw [el]
        rfl
      by_cases k : okp (cf A j) w p = true
      · obtain ⟨M', b1, b2, b3, b4⟩ := ih fuel (mset K 466 w.length (nI p)) (w ++ [p]) (by omega) (by simp; omega) (RJ_copy (fun o k ho _ => by rw [ms_other _ _ _ (by omega)]) hRK) (OA_app a3) (sm6_app h6 (by omega))
        have gp : g p = fnd2 (cf A j) L d (w ++ [p]) := by rw [hg]; exact if_pos k
        have fr : ∀ o, o ≠ 466 → M' o = M o := fun o ho => (b2 o ho).trans ((ms_other _ _ _ ho).trans (a2 o ho))
        cases e : fnd2 (cf A j) L d (w ++ [p]) with
        | none =>
          refine Or.inl ⟨(nI (p + 1), M'), ⟨rfl, fr, OA_pre b3, fs1_s a4 (by rw [gp, e])⟩, fun k' => ?_⟩
          rw [head, if_pos k, b1, e, cl_e]; rfl
        | some u =>
          have hs := fs1_some a4 (by rw [gp, e]) (min (usd w + 1) L) hp
          refine Or.inr ⟨some (1, M'), ⟨M', by rw [hs]; rfl, fr, OA_pre b3, fun u' hu' => by rw [hs] at hu'; cases hu'; exact b4 u e⟩, fun k' => ?_⟩
          rw [head, if_pos k, b1, e, cl_e]; rfl
      · refine Or.inl ⟨(nI (p + 1), K), ⟨rfl, a2, a3, fs1_s a4 (by rw [hg]; exact if_neg k)⟩, fun k' => ?_⟩
        rw [head, if_neg k]
    · obtain ⟨x, K⟩ := s
      obtain ⟨a1, a2, a3, a4⟩ := hs
      dsimp only at a1 a2 a3
      subst a1
      refine ⟨some (0, K), ⟨K, by rw [a4]; rfl, a2, a3, fun u hu => by rw [a4] at hu; cases hu⟩, fun k => ?_⟩
      simp only [fX3_isPlaced_L1]
      by_cases c : usd w < min (usd w + 1) L
      · rw [if_pos (nI_lt c (by omega))]
      · rw [if_neg (nI_nlt (by omega) (by omega)), if_pos (nI_le (by omega) (by omega))]
/-! the reference -/
theorem m_mayp {N : Mem} {w : List Nat} {p : Nat} (hj : j < 4) (h1 : N 1 = A) (v : VJ A j) (hw : OA N 8 w) (h6 : sm6 w) (hp : p < 6) (hg : w.length < 6) (k5 : Int32 → Option (Int32 × Mem)) : lp (fX10_puts__L1 (nI j) (nI w.length) (nI p, N) k5) FU (1, 0) = k5 (b01 (okp (cf A j) w p)) := by
  unfold okp
  refine lp_at (fun i => (b01 (al (fun o => !(decide (w.getD o 0 = p) && cf A j w.length o)) i), nI i)) w.length (by omega) rfl (fun i hi k => ?_) (fun k => ?_)
  · simp only [fX10_puts__L1]
    have hi6 := h6 i hi
    have hk : (kl (N 1) j w.length i < 0) ↔ cf A j w.length i = false := by
      rw [h1]
      unfold cf
      rw [decide_eq_false_iff_not, ti_lt, ti_le]
      constructor <;> intro <;> omega
    rw [if_neg (nI_ge hi (by omega)), grd_T (inb_nI (by omega) (by omega)), jn_e, nI_clamp (by omega), hw i hi, m_clear hj hg (show i < 6 by omega), clp_e]
    dsimp only
    show _ = k (b01 (al _ i && !(decide (w.getD i 0 = p) && cf A j w.length i)), nI (i + 1))
    by_cases e : w.getD i 0 = p
    · rw [if_pos (by rw [e]), decide_eq_true e, Bool.true_and]
      cases hc : cf A j w.length i with
      | false => rw [if_pos (hk.mpr hc), bnd_e, nI_1, Bool.not_false, Bool.and_true]
      | true => rw [if_neg (fun z => by rw [hk.mp z] at hc; cases hc), bnd_e, nI_1, Bool.not_true, Bool.and_false]; rfl
    · rw [if_neg (fun z => e ((nI_eq (by omega) (by omega)).mp z)), bnd_e, nI_1, decide_eq_false e, Bool.false_and, Bool.not_false, Bool.and_true]
  · simp only [fX10_puts__L1]
    rw [if_pos (nI_le (Nat.le_refl _) (by omega))]
theorem m_puts_ (hj : j < 4) (v : VJ A j) (hn : A (ix j 2) = nI n) (hn6 : n ≤ 6) {L : Nat} (hL : L ≤ 6) : ∀ (d fuel : Nat) (N : Mem) (w : List Nat), d < fuel → w.length + d = n → N 1 = A → OA N 8 w → sm6 w → ∃ N', fX10_puts_ fuel N (nI j) (nI w.length) (nI L) = some (b01 (fnd (cf A j) L d w).isSome, N') ∧ (∀ o, o ≠ 8 → N' o = N o) ∧ OA N' 8 w ∧ (∀ u, fnd (cf A j) L d w = some u → OA N' 8 u) := by
  intro d
  induction d with
  | zero =>
    intro fuel N w hf hw h1 hO h6
    obtain ⟨fuel, rfl⟩ : ∃ z, fuel = z + 1 := ⟨fuel - 1, by omega⟩
    refine ⟨N, ?_, fun _ _ => rfl, hO, fun u hu => by cases hu; exact hO⟩
    show fX10_puts__B (fX10_puts_ fuel) N _ _ _ = _
    unfold fX10_puts__B
    rw [m_of2 hj, clp_e, h1, hn, if_pos (by rw [show w.length = n by omega])]
    rfl
  | succ d ih =>
    intro fuel N w hf hw h1 hO h6
    obtain ⟨fuel, rfl⟩ : ∃ z, fuel = z + 1 := ⟨fuel - 1, by omega⟩
    show ∃ N', fX10_puts__B (fX10_puts_ fuel) N _ _ _ = _ ∧ _
    unfold fX10_puts__B
    rw [m_of2 hj, clp_e, h1, hn, if_neg (fun z => by have := (nI_eq (by omega) (by omega)).mp z; omega)]
    show ∃ N', _ = some (b01 (fs1 (fun p => if okp (cf A j) w p then fnd (cf A j) L d (w ++ [p]) else none) L).isSome, N') ∧ _ ∧ _ ∧ (∀ u, fs1 (fun p => if okp (cf A j) w p then fnd (cf A j) L d (w ++ [p]) else none) L = some u → _)
    obtain ⟨g, hg⟩ : ∃ g : Nat → Option (List Nat), g = fun p => if okp (cf A j) w p then fnd (cf A j) L d (w ++ [p]) else none := ⟨_, rfl⟩
    rw [← hg]
    refine lp_inv (f := fX10_puts__L2 (nI j) (nI w.length) (nI L) (fX10_puts_ fuel)) (fun p (s : Int32 × Mem) => s.1 = nI p ∧ (∀ o, o ≠ 8 → s.2 o = N o) ∧ OA s.2 8 w ∧ fs1 g p = none) (fun r => ∃ N', r = some (b01 (fs1 g L).isSome, N') ∧ (∀ o, o ≠ 8 → N' o = N o) ∧ OA N' 8 w ∧ (∀ u, fs1 g L = some u → OA N' 8 u)) L (by omega) (fun p hp s hs => ?_) (fun s hs => ?_) (0, N) ⟨rfl, fun _ _ => rfl, hO, rfl⟩
    · obtain ⟨x, K⟩ := s
      obtain ⟨a1, a2, a3, a4⟩ := hs
      dsimp only at a1 a2 a3
      subst a1
      have hK1 : K 1 = A := (a2 1 (by omega)).trans h1
      have head : ∀ k, fX10_puts__L2 (nI j) (nI w.length) (nI L) (fX10_puts_ fuel) k (nI p, K) = if okp (cf A j) w p = true then cl (fX10_puts_ fuel (mset K 8 w.length (nI p)) (nI j) (nI (w ++ [p]).length) (nI L)) (fun x13 M14 => if x13 = 0 then k (nI (p + 1), M14) else some (1, M14)) else k (nI (p + 1), K) := fun k => by
        simp only [fX10_puts__L2]
        rw [if_neg (nI_ge (by omega) (by omega)), jn_e]
        rw [m_mayp hj hK1 v a3 h6 (show p < 6 by omega) (by omega), jn_e, b01_ite]
        dsimp only
        rw [grd_T (inb_nI (by omega) (by omega)), nI_clamp (by omega), bnd_e, bnd_e, nI_1, nI_1]
        have el : (w ++ [p]).length = w.length + 1 := by simp
        rw [el]
        rfl
      by_cases k : okp (cf A j) w p = true
      · obtain ⟨N', b1, b2, b3, b4⟩ := ih fuel (mset K 8 w.length (nI p)) (w ++ [p]) (by omega) (by simp; omega) ((ms_other _ _ _ (by omega)).trans hK1) (OA_app a3) (sm6_app h6 (by omega))
        have gp : g p = fnd (cf A j) L d (w ++ [p]) := by rw [hg]; exact if_pos k
        have fr : ∀ o, o ≠ 8 → N' o = N o := fun o ho => (b2 o ho).trans ((ms_other _ _ _ ho).trans (a2 o ho))
        cases e : fnd (cf A j) L d (w ++ [p]) with
        | none =>
          refine Or.inl ⟨(nI (p + 1), N'), ⟨rfl, fr, OA_pre b3, fs1_s a4 (by rw [gp, e])⟩, fun k' => ?_⟩
          rw [head, if_pos k, b1, e, cl_e]; rfl
        | some u =>
          have hs := fs1_some a4 (by rw [gp, e]) L hp
          refine Or.inr ⟨some (1, N'), ⟨N', by rw [hs]; rfl, fr, OA_pre b3, fun u' hu' => by rw [hs] at hu'; cases hu'; exact b4 u e⟩, fun k' => ?_⟩
          rw [head, if_pos k, b1, e, cl_e]; rfl
      · refine Or.inl ⟨(nI (p + 1), K), ⟨rfl, a2, a3, fs1_s a4 (by rw [hg]; exact if_neg k)⟩, fun k' => ?_⟩
        rw [head, if_neg k]
    · obtain ⟨x, K⟩ := s
      obtain ⟨a1, a2, a3, a4⟩ := hs
      dsimp only at a1 a2 a3
      subst a1
      refine ⟨some (0, K), ⟨K, by rw [a4]; rfl, a2, a3, fun u hu => by rw [a4] at hu; cases hu⟩, fun k => ?_⟩
      simp only [fX10_puts__L2]
      rw [if_pos (nI_le (Nat.le_refl _) (by omega))]
/-! the fewest phases -/
def Min (A : Ar) (j n L : Nat) (w : List Nat) : Prop := 1 ≤ L ∧ L ≤ n ∧ fnd (cf A j) L n [] = some w ∧ ∀ i, 1 ≤ i → i < L → fnd (cf A j) i n [] = none
theorem min_ex (A : Ar) (j : Nat) {n : Nat} (h : 1 ≤ n) : ∃ L w, Min A j n L w := by
  have hf : ¬ al (fun i => !(fnd (cf A j) (i + 1) n []).isSome) n = true := fun z => by
    have := al_T.mp z (n - 1) (by omega)
    rw [show n - 1 + 1 = n by omega] at this
    have h2 := fnd_n (cf A j) n
    cases e : fnd (cf A j) n n [] with
    | none => exact h2 e
    | some u => rw [e] at this; simp at this
  obtain ⟨i, h1, h2, h3⟩ := al_F (Bool.not_eq_true _ |>.mp hf)
  cases e : fnd (cf A j) (i + 1) n [] with
  | none => rw [e] at h2; simp at h2
  | some w =>
    refine ⟨i + 1, w, by omega, by omega, e, fun q q1 q2 => ?_⟩
    have := h3 (q - 1) (by omega)
    rw [show q - 1 + 1 = q by omega] at this
    cases e2 : fnd (cf A j) q n [] with
    | none => rfl
    | some u => rw [e2] at this; simp at this
theorem x_divide {M : Mem} {L : Nat} {w : List Nat} (hR : RJ M J A j) (hl : nI j < A 2) (v : VJ A j) (hn : A (ix j 2) = nI n) (hn6 : n ≤ 6) (hJ : J + 10 ≤ 465) (hm : Min A j n L w) : ∃ M', fX3_divide M J = some ((), M') ∧ (∀ o, o ≠ 465 → o ≠ 466 → M' o = M o) ∧ M' 465 0 = nI L ∧ OA M' 466 w := by
  obtain ⟨h1, h2, h3, h4⟩ := hm
  unfold fX3_divide
  simp only [jn_e, bnd_e]
  refine lp_inv (f := fX3_divide_L1 J (fun a1 => some ((), mset a1 465 0 0)) (fun a4 => some ((), mset a4.2 465 0 a4.1))) (fun i (s : Int32 × Mem) => s.1 = nI (i + 1) ∧ ∀ o, o ≠ 466 → s.2 o = M o) (fun r => ∃ M', r = some ((), M') ∧ (∀ o, o ≠ 465 → o ≠ 466 → M' o = M o) ∧ M' 465 0 = nI L ∧ OA M' 466 w) (L - 1) (by omega) (fun i hi s hs => Or.inl ?_) (fun s hs => ?_) (1, M) ⟨rfl, fun _ _ => rfl⟩
  · obtain ⟨x, K⟩ := s
    obtain ⟨a1, a2⟩ := hs
    dsimp only at a1 a2
    subst a1
    have hRK : RJ K J A j := RJ_copy (fun o k ho _ => by rw [a2 (J + o) (by omega)]) hR
    obtain ⟨M', b1, b2, b3, b4⟩ := x_placed hl v hn hn6 (by omega) (L := i + 1) (by omega) n 8 K [] (by omega) (by simp) hRK (fun k hk => absurd hk (by simp)) (fun k hk => absurd hk (by simp))
    rw [← fnd_fnd2, h4 (i + 1) (by omega) (by omega)] at b1
    refine ⟨(nI (i + 1 + 1), M'), ⟨rfl, fun o ho => (b2 o ho).trans (a2 o ho)⟩, fun k => ?_⟩
    simp only [fX3_divide_L1]
    rw [hRK.w (by omega), hn, if_neg (nI_nlt (by omega) (by omega)), show fX3_isPlaced J 8 K 0 0 (nI (i + 1)) = some (b01 false, M') from b1, cl_e, if_pos (show b01 false = 0 from rfl), bnd_e, nI_1]
  · obtain ⟨x, K⟩ := s
    obtain ⟨a1, a2⟩ := hs
    dsimp only at a1 a2
    subst a1
    have hRK : RJ K J A j := RJ_copy (fun o k ho _ => by rw [a2 (J + o) (by omega)]) hR
    obtain ⟨M', b1, b2, b3, b4⟩ := x_placed hl v hn hn6 (by omega) (L := L) (by omega) n 8 K [] (by omega) (by simp) hRK (fun k hk => absurd hk (by simp)) (fun k hk => absurd hk (by simp))
    rw [← fnd_fnd2] at b1 b4
    rw [h3] at b1
    have eL : L - 1 + 1 = L := by omega
    refine ⟨_, ⟨mset M' 465 0 (nI L), rfl, fun o o1 o2 => (ms_other _ _ _ o1).trans ((b2 o o2).trans (a2 o o2)), by rw [ms_at, if_pos ⟨rfl, rfl⟩], fun k hk => by rw [ms_other _ _ _ (by omega)]; exact b4 w h3 k hk⟩, fun k => ?_⟩
    simp only [fX3_divide_L1]
    rw [eL, hRK.w (by omega), hn, if_neg (nI_nlt (by omega) (by omega)), show fX3_isPlaced J 8 K 0 0 (nI L) = some (b01 true, M') from b1, cl_e, if_neg (show ¬ b01 true = 0 by decide)]
theorem m_phases {N : Mem} {L : Nat} {w : List Nat} (hj : j < 4) (h1 : N 1 = A) (v : VJ A j) (hn : A (ix j 2) = nI n) (hn6 : n ≤ 6) (hm : Min A j n L w) : ∃ N', fX10_phases N (nI j) = some (nI L, N') ∧ (∀ o, o ≠ 8 → N' o = N o) ∧ OA N' 8 w := by
  obtain ⟨m1, m2, m3, m4⟩ := hm
  unfold fX10_phases
  refine lp_inv (f := fX10_phases_L1 (nI j)) (fun i (s : Int32 × Mem) => s.1 = nI (i + 1) ∧ ∀ o, o ≠ 8 → s.2 o = N o) (fun r => ∃ N', r = some (nI L, N') ∧ (∀ o, o ≠ 8 → N' o = N o) ∧ OA N' 8 w) (L - 1) (by omega) (fun i hi s hs => Or.inl ?_) (fun s hs => ?_) (1, N) ⟨rfl, fun _ _ => rfl⟩
  · obtain ⟨x, K⟩ := s
    obtain ⟨a1, a2⟩ := hs
    dsimp only at a1 a2
    subst a1
    obtain ⟨N', b1, b2, b3, b4⟩ := m_puts_ hj v hn hn6 (L := i + 1) (by omega) n 8 K [] (by omega) (by simp) ((a2 1 (by omega)).trans h1) (fun k hk => absurd hk (by simp)) (fun k hk => absurd hk (by simp))
    rw [m4 (i + 1) (by omega) (by omega)] at b1
    refine ⟨(nI (i + 1 + 1), N'), ⟨rfl, fun o ho => (b2 o ho).trans (a2 o ho)⟩, fun k => ?_⟩
    simp only [fX10_phases_L1]
    rw [show fX10_puts_ 8 K (nI j) 0 (nI (i + 1)) = some (b01 false, N') from b1, cl_e, if_pos (show b01 false = 0 from rfl), bnd_e, nI_1]
  · obtain ⟨x, K⟩ := s
    obtain ⟨a1, a2⟩ := hs
    dsimp only at a1 a2
    subst a1
    obtain ⟨N', b1, b2, b3, b4⟩ := m_puts_ hj v hn hn6 (L := L) (by omega) n 8 K [] (by omega) (by simp) ((a2 1 (by omega)).trans h1) (fun k hk => absurd hk (by simp)) (fun k hk => absurd hk (by simp))
    rw [m3] at b1
    have eL : L - 1 + 1 = L := by omega
    refine ⟨_, ⟨N', rfl, fun o ho => (b2 o ho).trans (a2 o ho), b4 w m3⟩, fun k => ?_⟩
    simp only [fX10_phases_L1]
    rw [eL, show fX10_puts_ 8 K (nI j) 0 (nI L) = some (b01 true, N') from b1, cl_e, if_neg (show ¬ b01 true = 0 by decide)]
end P84
theorem Inv_ph {Mx Mx' Mm Mm' : Mem} (I : Inv Mx Mm) (hx : ∀ o, o < 465 ∨ 472 ≤ o → Mx' o = Mx o) (h1 : Mm' 1 = Mm 1) (hm : MF Mm Mm') : Inv Mx' Mm' :=
  ⟨by rw [h1]; exact RS_frame (fun o _ _ => hx o (by omega)) I.1, by rw [h1]; exact I.2.1, HR_frame (fun o _ _ => hx o (by omega)) hm.2.1 (hm.1 3 (by omega)) I.2.2.1, Rest_frame (fun k _ _ => by rw [hx 0 (by omega)]) (fun o _ _ => hx o (by omega)) (fun o _ => hx o (by omega)) (fun k hk => hm.1 k (by omega)) hm.2.2.1 hm.2.2.2.1 hm.2.2.2.2 I.2.2.2⟩
theorem st_phase {Mx Mm : Mem} (I : Inv Mx Mm) (p g : Int32) : ∃ rx Mx' vm Mm', fX9_phase Mx p g = some (rx, Mx') ∧ fX10_phase Mm p g = some (vm, Mm') ∧ Agr [0] rx vm Mm' ∧ Inv Mx' Mm' := by
  have I0 := I.th 0
  obtain ⟨N, hN⟩ : ∃ z, z = mset Mm 0 0 0 := ⟨_, rfl⟩
  rw [← hN] at I0
  obtain ⟨hR, hV, hH, hT⟩ := id I0
  have h00 : N 0 0 = 0 := by rw [hN, ms_at, if_pos ⟨rfl, rfl⟩]
  unfold fX9_phase fX10_phase
  simp only [bnd_e, ← hN]
  by_cases hj : inJ (N 1) p = true
  · obtain ⟨j, rfl, hj4, hl⟩ := inJ_ex hV hj
    have hJ := hV.2.1 j hj4 hl
    obtain ⟨n, hn6, hn⟩ := hJ.sz
    rw [m_ig hj4 (inJ_T hV hj4 hl), clp_e, b01_ite]
    by_cases ha : inG (N 1) j g = true
    · rw [if_pos ha, x_fw hR hV hj4 hl ha, clpm_r, grd_T (jb hj4)]
      obtain ⟨g, rfl, hg6, hgl⟩ := inG_ex hJ ha
      have gn := sz_lt hn hn6 hg6 hgl
      obtain ⟨L, w, hm⟩ := min_ex (N 1) j (n := n) (by omega)
      obtain ⟨Mx', a1, a2, a3, a4⟩ := x_divide (hR.j hj4) hl hJ hn hn6 (by omega) hm
      obtain ⟨N', b1, b2, b3⟩ := m_phases hj4 rfl hJ hn hn6 hm
      have wl := (fnd_len (cf (N 1) j) L n [] w hm.2.2.1).1
      rw [List.length_nil, Nat.zero_add] at wl
      rw [a1, cl_e, grd_T (inb_nI hg6 (by omega)), nI_clamp (by omega), b1, cl_e, grd_T (inb_nI hg6 (by omega)), a4 g (by omega), b3 g (by omega)]
      refine ⟨_, _, _, _, rfl, rfl, ⟨by rw [b2 0 (by omega)]; exact h00, rfl⟩, Inv_ph I0 (fun o ho => a2 o (by omega) (by omega)) (b2 1 (by omega)) ⟨fun k _ => by rw [b2 0 (by omega)], b2 2 (by omega), b2 3 (by omega), b2 5 (by omega), b2 6 (by omega)⟩⟩
    · rw [if_neg ha, x_fw_nog hR hV hj4 hl (Bool.not_eq_true _ |>.mp ha), clpm_l, m_raises, cl_e]
      exact ⟨_, _, _, _, rfl, rfl, fin_x I0 0 rfl _ _ rfl⟩
  · have hj' := Bool.not_eq_true _ |>.mp hj
    rw [x_fw_noj hR hj', clpm_l, m_ig_no hj', clp_e, if_pos rfl, m_raises, cl_e]
    exact ⟨_, _, _, _, rfl, rfl, fin_x I0 0 rfl _ _ rfl⟩
