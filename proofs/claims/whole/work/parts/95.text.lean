/-! call: text : all commands of a text; what each does -/
section P95
variable {s : Nat → Int32} {l : Nat}
theorem itc_grow {i : Nat} {p : Nat} (h : (itc s l i (p, none)).1.2 = none) : p + 1 ≤ (itc s l i (p, none)).1.1 := by
  have key : ∀ p', (nmb s l (p', none)).1.2 = none → p' + 1 ≤ (nmb s l (p', none)).1.1 := fun p' h => by
    unfold nmb at h ⊢
    rw [if_pos rfl] at h ⊢
    by_cases z : (dst s l (p', (none : Option Nat)).1 4).1 = 0
    · rw [if_pos z] at h; cases h
    · rw [if_neg z]
      show p' + 1 ≤ p' + (dst s l p' 4).1
      have z' : (dst s l p' 4).1 ≠ 0 := z
      omega
  unfold itc at h ⊢
  by_cases e : i = 0
  · rw [if_pos e] at h ⊢; exact key p h
  · rw [if_neg e] at h ⊢
    unfold sgn at h ⊢
    rw [if_pos rfl] at h ⊢
    by_cases z : (decide ((p, (none : Option Nat)).1 < l) && decide (s (p, (none : Option Nat)).1 = 44)) = true
    · rw [if_pos z] at h ⊢
      have := key (p + 1) h
      exact Nat.le_trans (by omega) this
    · rw [if_neg z] at h
      unfold nmb at h
      rw [if_neg (fun y => by cases y)] at h
      cases h
theorem itl_grow {p : Nat} : ∀ n, (itl s l (p, none) n).1.2 = none → p + n ≤ (itl s l (p, none) n).1.1
  | 0, _ => Nat.le_refl _
  | n + 1, h => by
    cases e : (itl s l (p, none) n).1.2 with
    | some x =>
      rw [itl_err e (n + 1) (by omega), e] at h; cases h
    | none =>
      have ih := itl_grow n e
      have hσ : (itl s l (p, none) n).1 = ((itl s l (p, none) n).1.1, none) := Prod.ext rfl e
      have h' : (itc s l n (itl s l (p, none) n).1).1.2 = none := h
      rw [hσ] at h'
      have g := itc_grow h'
      show p + (n + 1) ≤ (itc s l n (itl s l (p, none) n).1).1.1
      rw [hσ]
      omega
theorem adv {p q o : Nat} {f : Nat → Int32} (hw : widx s p (wlen s l p) = some o) (hc : cmw s l p o = ((q, none), f)) : p + 6 ≤ q ∧ q ≤ l := by
  obtain ⟨o6, w2⟩ := widx_o hw
  obtain ⟨k1, k2, k3, k4, k5⟩ := kof_ok ⟨o, o6⟩
  dsimp only at k2
  unfold weq at w2
  rw [Bool.and_eq_true, decide_eq_true_iff] at w2
  obtain ⟨n1, n2, n3⟩ := nw_e o6
  have h1 : sgn s l 59 (itl s l (sgn s l 58 (p + wlen s l p, none)) (nwn o)).1 = (q, none) := congrArg Prod.fst hc
  cases e1 : (sgn s l 58 (p + wlen s l p, none)).2 with
  | some x =>
    have := itl_err (s := s) (l := l) (σ := sgn s l 58 (p + wlen s l p, none)) (i := 0) (x := x) e1 (nwn o) (by omega)
    rw [this] at h1
    have h2 : sgn s l 59 (sgn s l 58 (p + wlen s l p, none)) = sgn s l 58 (p + wlen s l p, none) := sgn_err e1
    have h3 : sgn s l 58 (p + wlen s l p, none) = (q, none) := h2.symm.trans h1
    rw [h3] at e1; cases e1
  | none =>
    have e2 : sgn s l 58 (p + wlen s l p, none) = (p + wlen s l p + 1, none) := by
      unfold sgn at e1 ⊢
      rw [if_pos rfl] at e1 ⊢
      by_cases z : (decide ((p + wlen s l p, (none : Option Nat)).1 < l) && decide (s (p + wlen s l p, (none : Option Nat)).1 = 58)) = true
      · rw [if_pos z]
      · rw [if_neg z] at e1; cases e1
    rw [e2] at h1
    cases e3 : (itl s l (p + wlen s l p + 1, none) (nwn o)).1.2 with
    | some x =>
      rw [sgn_err e3] at h1
      rw [h1] at e3; cases e3
    | none =>
      have g := itl_grow (s := s) (l := l) (p := p + wlen s l p + 1) (nwn o) e3
      unfold sgn at h1
      rw [if_pos e3] at h1
      by_cases z : (decide ((itl s l (p + wlen s l p + 1, none) (nwn o)).1.1 < l) && decide (s (itl s l (p + wlen s l p + 1, none) (nwn o)).1.1 = 59)) = true
      · rw [if_pos z] at h1
        have h2 := congrArg Prod.fst h1
        dsimp only at h2
        have hlt : (itl s l (p + wlen s l p + 1, none) (nwn o)).1.1 < l := by rw [Bool.and_eq_true, decide_eq_true_iff] at z; exact z.1
        omega
      · rw [if_neg z] at h1
        have := congrArg Prod.snd h1
        cases this
def Chn (s : Nat → Int32) (l m : Nat) (pos ws : Nat → Nat) (nu : Nat → Nat → Int32) : Prop := pos 0 = 0 ∧ ∀ k, k < m → (k = 0 ∨ pos k < l) ∧ widx s (pos k) (wlen s l (pos k)) = some (ws k) ∧ cmw s l (pos k) (ws k) = ((pos (k + 1), none), nu k)
def FinO (l m : Nat) (pos : Nat → Nat) : Prop := 1 ≤ m ∧ l ≤ pos m
def FinE (s : Nat → Int32) (l m : Nat) (pos : Nat → Nat) (e : Nat) : Prop := (m = 0 ∨ pos m < l) ∧ m < 10 ∧ e ≤ 60 ∧ ((widx s (pos m) (wlen s l (pos m)) = none ∧ e = pos m) ∨ ∃ o, widx s (pos m) (wlen s l (pos m)) = some o ∧ (cmw s l (pos m) o).1.2 = some e)
theorem Chn.pos {m : Nat} {pos ws : Nat → Nat} {nu : Nat → Nat → Int32} (h : Chn s l m pos ws nu) : ∀ k, k ≤ m → 6 * k ≤ pos k ∧ (1 ≤ k → pos k ≤ l)
  | 0, _ => ⟨by omega, fun z => absurd z (by omega)⟩
  | k + 1, hk => by
    obtain ⟨a, b⟩ := h.pos k (by omega)
    obtain ⟨c1, c2, c3⟩ := h.2 k (by omega)
    obtain ⟨d1, d2⟩ := adv c2 c3
    exact ⟨by omega, fun _ => d2⟩
theorem cmw_in {p o : Nat} (hp : p ≤ 60) (hl : l ≤ 60) : (cmw s l p o).1.1 ≤ 60 ∧ ∀ x, (cmw s l p o).1.2 = some x → x ≤ 60 := by
  have hb := wlen_b s l p
  obtain ⟨a1, a2⟩ := sgn_in (s := s) (l := l) (c := 58) (σ := (p + wlen s l p, none)) (by omega) (B := 60) (by show p + wlen s l p ≤ 60; omega) hl (fun x hx => by cases hx)
  obtain ⟨b1, b2⟩ := itl_in (s := s) (l := l) (B := 60) a1 hl a2 (nwn o)
  exact sgn_in (s := s) (l := l) (c := 59) (by omega) (B := 60) b1 hl b2
theorem chn_ex (s : Nat → Int32) {l : Nat} (hl : l ≤ 60) : ∃ m pos ws nu, Chn s l m pos ws nu ∧ m ≤ 10 ∧ (FinO l m pos ∨ ∃ e, FinE s l m pos e) := by
  have key : ∀ d m, m + d = 10 → ∀ pos ws nu, Chn s l m pos ws nu → ∃ m pos ws nu, Chn s l m pos ws nu ∧ m ≤ 10 ∧ (FinO l m pos ∨ ∃ e, FinE s l m pos e) := by
    intro d
    induction d with
    | zero =>
      intro m hm pos ws nu hC
      have := (hC.pos m (Nat.le_refl _)).1
      exact ⟨m, pos, ws, nu, hC, by omega, Or.inl ⟨by omega, by omega⟩⟩
    | succ d ih =>
      intro m hm pos ws nu hC
      obtain ⟨p1, p2⟩ := hC.pos m (Nat.le_refl _)
      by_cases f1 : 1 ≤ m ∧ l ≤ pos m
      · exact ⟨m, pos, ws, nu, hC, by omega, Or.inl f1⟩
      · have hp60 : pos m ≤ 60 := by
          by_cases z : m = 0
          · rw [z, hC.1]; omega
          · have := p2 (by omega); omega
        have hgo : m = 0 ∨ pos m < l := by omega
        cases e : widx s (pos m) (wlen s l (pos m)) with
        | none => exact ⟨m, pos, ws, nu, hC, by omega, Or.inr ⟨pos m, hgo, by omega, hp60, Or.inl ⟨e, rfl⟩⟩⟩
        | some o =>
          cases e2 : (cmw s l (pos m) o).1.2 with
          | some x => exact ⟨m, pos, ws, nu, hC, by omega, Or.inr ⟨x, hgo, by omega, (cmw_in hp60 hl).2 x e2, Or.inr ⟨o, e, e2⟩⟩⟩
          | none =>
            refine ih (m + 1) (by omega) (fun k => if k = m + 1 then (cmw s l (pos m) o).1.1 else pos k) (fun k => if k = m then o else ws k) (fun k => if k = m then (cmw s l (pos m) o).2 else nu k) ⟨?_, fun k hk => ?_⟩
            · dsimp only; rw [if_neg (by omega)]; exact hC.1
            · dsimp only
              rw [if_neg (show ¬ k = m + 1 by omega)]
              by_cases z : k = m
              · subst z
                rw [if_pos rfl, if_pos rfl, if_pos rfl]
                exact ⟨hgo, e, Prod.ext (Prod.ext rfl e2) rfl⟩
              · rw [if_neg z, if_neg z, if_neg (show ¬ k + 1 = m + 1 by omega)]
                exact hC.2 k (by omega)
  exact key 10 0 (by omega) (fun _ => 0) (fun _ => 0) (fun _ _ => 0) ⟨rfl, fun k hk => absurd hk (by omega)⟩
/-- the class's lists for the commands below m -/
def Lst (M : Mem) (m : Nat) (pos ws : Nat → Nat) (nu : Nat → Nat → Int32) : Prop := ∀ k, k < m → M 474 k = nI (pos k) ∧ M 475 k = nI (ws k) ∧ ∀ q, q < nwn (ws k) → M 476 (5 * k + q) = nu k q
theorem x_read {M : Mem} {m : Nat} {pos ws : Nat → Nat} {nu : Nat → Nat → Int32} (hl : l ≤ 60) (h0 : M 472 0 = nI l) (h3 : ∀ k, k < l → M 473 k = s k) (hC : Chn s l m pos ws nu) (hm : m ≤ 10) {e : Nat} (hf : FinO l m pos ∨ FinE s l m pos e) : ∃ M' r, fX5_read M = some (r, M') ∧ (∀ o, o < 472 ∨ 477 ≤ o → M' o = M o) ∧ Lst M' m pos ws nu ∧ ((FinO l m pos ∧ r = -1 ∧ M' 472 1 = nI m) ∨ (FinE s l m pos e ∧ r = nI e)) := by
  unfold fX5_read
  rw [bnd_e, bnd_e, bnd_e, jn_e]
  obtain ⟨M3, hM3⟩ : ∃ z, z = mset (mset (mset M 472 2 0) 472 1 0) 472 3 (-1) := ⟨_, rfl⟩
  rw [← hM3]
  have c0 : CP s l M3 (0, none) := by
    refine ⟨hl, ?_, fun k hk => ?_, ?_, ?_, by show 0 ≤ 60; omega, fun x hx => by cases hx⟩
    · rw [hM3, ms_at, if_neg (by omega), ms_at, if_neg (by omega), ms_at, if_neg (by omega)]; exact h0
    · rw [hM3, ms_other _ _ _ (by omega), ms_other _ _ _ (by omega), ms_other _ _ _ (by omega)]; exact h3 k hk
    · rw [hM3, ms_at, if_neg (by omega), ms_at, if_neg (by omega), ms_at, if_pos ⟨rfl, rfl⟩]; rfl
    · rw [hM3, ms_at, if_pos ⟨rfl, rfl⟩]; rfl
  have f0 : ∀ o, o < 472 ∨ 477 ≤ o → M3 o = M o := fun o ho => by rw [hM3, ms_other _ _ _ (by omega), ms_other _ _ _ (by omega), ms_other _ _ _ (by omega)]
  have n0 : M3 472 1 = nI 0 := by rw [hM3, ms_at, if_neg (by omega), ms_at, if_pos ⟨rfl, rfl⟩]; rfl
  refine lp_inv (f := fX5_read_L1 (fun a4 => some (a4 472 3, a4))) (fun i (t : Int32 × Mem) => t.1 = nI i ∧ (∀ o, o < 472 ∨ 477 ≤ o → t.2 o = M o) ∧ ((i ≤ m ∧ CP s l t.2 (pos i, none) ∧ t.2 472 1 = nI i ∧ Lst t.2 i pos ws nu) ∨ (i = m + 1 ∧ FinE s l m pos e ∧ t.2 472 3 = nI e ∧ Lst t.2 m pos ws nu))) (fun q => ∃ M' r, q = some (r, M') ∧ (∀ o, o < 472 ∨ 477 ≤ o → M' o = M o) ∧ Lst M' m pos ws nu ∧ ((FinO l m pos ∧ r = -1 ∧ M' 472 1 = nI m) ∨ (FinE s l m pos e ∧ r = nI e))) (m + 1) (by omega) (fun i hi t ht => ?_) (fun t ht => ?_) (0, M3) ⟨rfl, f0, Or.inl ⟨by omega, by rw [hC.1]; exact c0, n0, fun k hk => absurd hk (by omega)⟩⟩
  · obtain ⟨x, K⟩ := t
    obtain ⟨t1, t2, t3⟩ := ht
    dsimp only at t1 t2 t3
    subst t1
    rcases t3 with ⟨t3, t4, t5, t6⟩ | ⟨t3, _⟩
    · have go : ∀ (hgo : i = 0 ∨ pos i < l) (hi10 : i < 10) k, fX5_read_L1 (fun a4 => some (a4 472 3, a4)) k (nI i, K) = cl (fX5_readCommand K (nI i)) (fun u10 M11 => bnd (nI i + 1) (fun x12 => k (x12, M11))) := fun hgo hi10 k => by
        simp only [fX5_read_L1]
        rw [if_neg (show ¬ (10 : Int32) ≤ nI i from nI_ge (b := 10) hi10 (by omega)), if_pos (show K 472 3 = -1 from t4.2.2.2.2.1), jn_e]
        by_cases z : i = 0
        · rw [if_pos (by rw [z]; rfl)]
        · rw [if_neg (nI_ne0 (by omega) (by omega)), t4.2.1, t4.2.2.2.1, if_neg (nI_ge (show pos i < l by omega) (by omega))]
      by_cases hlt : i < m
      · obtain ⟨c1, c2, c3⟩ := hC.2 i hlt
        obtain ⟨K', r1, r2, r3, r4, r5, r6⟩ := x_rcmd t4 (k := i) (by omega)
        rcases r6 with ⟨r6, _⟩ | ⟨o, r6, r7, r8, r9, r10⟩
        · rw [c2] at r6; cases r6
        · rw [c2] at r6; cases r6
          rw [c3] at r7 r10
          refine Or.inl ⟨(nI (i + 1), K'), ⟨rfl, fun o ho => (r2 o ho).trans (t2 o ho), Or.inl ⟨by omega, r7, by show K' 472 1 = _; rw [r8, t5, nI_1], fun k hk => ?_⟩⟩, fun k => by rw [go c1 (by omega), r1, cl_e, bnd_e, nI_1]⟩
          by_cases z : k = i
          · subst z; exact ⟨r3, r9, r10⟩
          · obtain ⟨y1, y2, y3⟩ := t6 k (by omega)
            obtain ⟨z1, z2⟩ := r4 k z
            have h5 := nw_e (widx_o (hC.2 k (by omega)).2.1).1
            exact ⟨z1.trans y1, z2.trans y2, fun q hq => (r5 _ (by omega)).trans (y3 q hq)⟩
      · have him : i = m := by omega
        subst him
        rcases hf with hf | hf
        · refine Or.inr ⟨_, ⟨K, -1, rfl, t2, t6, Or.inl ⟨hf, rfl, t5⟩⟩, fun k => ?_⟩
          have h33 : K 472 3 = -1 := t4.2.2.2.2.1
          simp only [fX5_read_L1]
          by_cases z10 : i < 10
          · rw [if_neg (show ¬ (10 : Int32) ≤ nI i from nI_ge (b := 10) z10 (by omega)), if_pos h33, jn_e, if_neg (nI_ne0 hf.1 (by omega)), t4.2.1, t4.2.2.2.1, if_pos (nI_le hf.2 (by have := (hC.pos i (Nat.le_refl _)).2 hf.1; show pos i < _; omega)), h33]
          · rw [if_pos (show (10 : Int32) ≤ nI i from nI_le (a := 10) (by omega) (by omega)), h33]
        · obtain ⟨c1, c2, c3, c4⟩ := id hf
          obtain ⟨K', r1, r2, r3, r4, r5, r6⟩ := x_rcmd t4 (k := i) (by omega)
          have l' : Lst K' i pos ws nu := fun k hk => by
            obtain ⟨y1, y2, y3⟩ := t6 k hk
            obtain ⟨z1, z2⟩ := r4 k (by omega)
            have h5 := nw_e (widx_o (hC.2 k hk).2.1).1
            exact ⟨z1.trans y1, z2.trans y2, fun q hq => (r5 _ (by omega)).trans (y3 q hq)⟩
          have he : K' 472 3 = nI e := by
            rcases r6 with ⟨r6, r7⟩ | ⟨o, r6, r7, r8, r9, r10⟩
            · rcases c4 with ⟨c4, c5⟩ | ⟨o', c4, c5⟩
              · rw [c5]; exact r7.2.2.2.2.1
              · rw [r6] at c4; cases c4
            · rcases c4 with ⟨c4, c5⟩ | ⟨o', c4, c5⟩
              · rw [r6] at c4; cases c4
              · rw [r6] at c4; cases c4
                have := r7.2.2.2.2.1
                rw [c5] at this
                exact this
          exact Or.inl ⟨(nI (i + 1), K'), ⟨rfl, fun o ho => (r2 o ho).trans (t2 o ho), Or.inr ⟨rfl, hf, he, l'⟩⟩, fun k => by rw [go c1 c2, r1, cl_e, bnd_e, nI_1]⟩
    · omega
  · obtain ⟨x, K⟩ := t
    obtain ⟨t1, t2, t3⟩ := ht
    dsimp only at t1 t2 t3
    subst t1
    rcases t3 with ⟨t3, _⟩ | ⟨_, t4, t5, t6⟩
    · omega
    · refine ⟨_, ⟨K, nI e, rfl, t2, t6, Or.inr ⟨t4, rfl⟩⟩, fun k => ?_⟩
      have e60 := t4.2.2.1
      simp only [fX5_read_L1]
      by_cases z10 : m + 1 < 10
      · rw [if_neg (show ¬ (10 : Int32) ≤ nI (m + 1) from nI_ge (b := 10) z10 (by omega)), if_neg (show ¬ K 472 3 = -1 by
          rw [t5]; intro z
          rw [ti_eq, nI_toInt (by omega)] at z
          have : Int32.toInt (-1) = -1 := by decide
          omega), t5]
      · rw [if_pos (show (10 : Int32) ≤ nI (m + 1) from nI_le (a := 10) (by omega) (by omega)), t5]
end P95
/-! what a command does -/
def mfw (o : Nat) (f : Nat → Int32) (N : Mem) : Option (Int32 × Mem) := if o = 0 then fX10_greened N (f 0) (f 1) (f 2) (f 3) (f 4) else if o = 1 then fX10_offsets N (f 0) (f 1) else if o = 2 then fX10_presses N (f 0) (f 1) else if o = 3 then fX10_runs N (f 0) else if o = 4 then fX10_plans N (f 0) else fX10_roads N (f 0) (f 1) (f 2)
def flt (o : Nat) (f : Nat → Int32) : Mem → Option (Int32 × Mem) := if o = 0 then (fun M => fX9_greenFault M (f 0) (f 1) (f 2) (f 3) (f 4)) else if o = 1 then liftF (fun M => fX9_offsetFault M (f 0) (f 1)) else if o = 2 then liftF (fun M => fX9_pressFault M (f 0) (f 1)) else if o = 3 then liftF (fun M => fX9_runFault M (f 0)) else if o = 4 then liftF (fun M => fX9_changeFault M (f 0)) else liftF (fun M => fX9_roadFault M (f 0) (f 1) (f 2))
def sto (o : Nat) (f : Nat → Int32) : Mem → Option ((Nat ⊕ Int32) × Mem) := if o = 0 then (fun M => fX9_giveGreen M (f 0) (f 1) (f 2) (f 3) (f 4)) else if o = 1 then (fun M => fX9_setOffset M (f 0) (f 1)) else if o = 2 then (fun M => fX9_makeRequest M (f 0) (f 1)) else if o = 3 then setRun (f 0) else if o = 4 then (fun M => fX9_planChange M (f 0)) else (fun M => fX9_setRoadGroups M (f 0) (f 1) (f 2))
theorem cmd_all {N : Mem} (V : Val (N 1)) (o : Nat) (f : Nat → Int32) : ∃ xs, CmdOk N xs (flt o f) (sto o f) (mfw o f N) := by
  unfold flt sto mfw
  by_cases h0 : o = 0
  · rw [if_pos h0, if_pos h0, if_pos h0]; exact ⟨_, cmd_green V _ _ _ _ _⟩
  · rw [if_neg h0, if_neg h0, if_neg h0]
    by_cases h1 : o = 1
    · rw [if_pos h1, if_pos h1, if_pos h1]; exact ⟨_, cmd_offset V _ _⟩
    · rw [if_neg h1, if_neg h1, if_neg h1]
      by_cases h2 : o = 2
      · rw [if_pos h2, if_pos h2, if_pos h2]; exact ⟨_, cmd_press V _ _⟩
      · rw [if_neg h2, if_neg h2, if_neg h2]
        by_cases h3 : o = 3
        · rw [if_pos h3, if_pos h3, if_pos h3]; exact ⟨_, cmd_run V _⟩
        · rw [if_neg h3, if_neg h3, if_neg h3]
          by_cases h4 : o = 4
          · rw [if_pos h4, if_pos h4, if_pos h4]; exact ⟨_, cmd_change V _⟩
          · rw [if_neg h4, if_neg h4, if_neg h4]; exact ⟨_, cmd_road V _ _ _⟩
theorem cl_eta {α : Type} (x : Option (α × Mem)) : cl x (fun a M => some (a, M)) = x := by
  cases x with
  | none => rfl
  | some v => rfl
theorem m_does {N : Mem} {o : Nat} (ho : o < 6) {f : Nat → Int32} (h : ∀ q, q < nwn o → N 7 q = f q) : fX10_does N (nI o) = mfw o f N := by
  unfold fX10_does mfw
  have g0 : inb 0 5 = true := by decide
  have g1 : inb 1 5 = true := by decide
  have g2 : inb 2 5 = true := by decide
  have g3 : inb 3 5 = true := by decide
  have g4 : inb 4 5 = true := by decide
  rcases (show o = 0 ∨ o = 1 ∨ o = 2 ∨ o = 3 ∨ o = 4 ∨ o = 5 by omega) with rfl | rfl | rfl | rfl | rfl | rfl
  · rw [if_pos (by decide), if_pos rfl, grd_T g0, grd_T g1, grd_T g2, grd_T g3, grd_T g4, tc0, tc1, tc2, tc3, tc4, h 0 (by decide), h 1 (by decide), h 2 (by decide), h 3 (by decide), h 4 (by decide), cl_eta]
  · rw [if_neg (by decide), if_pos (by decide), if_neg (by decide), if_pos rfl, grd_T g0, grd_T g1, tc0, tc1, h 0 (by decide), h 1 (by decide), cl_eta]
  · rw [if_neg (by decide), if_neg (by decide), if_pos (by decide), if_neg (by decide), if_neg (by decide), if_pos rfl, grd_T g0, grd_T g1, tc0, tc1, h 0 (by decide), h 1 (by decide), cl_eta]
  · rw [if_neg (by decide), if_neg (by decide), if_neg (by decide), if_pos (by decide), if_neg (by decide), if_neg (by decide), if_neg (by decide), if_pos rfl, grd_T g0, tc0, h 0 (by decide), cl_eta]
  · rw [if_neg (by decide), if_neg (by decide), if_neg (by decide), if_neg (by decide), if_pos (by decide), if_neg (by decide), if_neg (by decide), if_neg (by decide), if_neg (by decide), if_pos rfl, grd_T g0, tc0, h 0 (by decide), cl_eta]
  · rw [if_neg (by decide), if_neg (by decide), if_neg (by decide), if_neg (by decide), if_neg (by decide), if_neg (by decide), if_neg (by decide), if_neg (by decide), if_neg (by decide), if_neg (by decide), grd_T g0, grd_T g1, grd_T g2, tc0, tc1, tc2, h 0 (by decide), h 1 (by decide), h 2 (by decide), cl_eta]
theorem x_numAt (M : Mem) {k q : Nat} (hk : k < 10) (hq : q < 5) : fX5_numberAt M (nI k) (nI q) = some (M 476 (5 * k + q)) := by
  unfold fX5_numberAt
  rw [i5, grd_T (inb_nI (by omega) (by omega)), nI_clamp (by omega)]
theorem x_fault {M : Mem} {k o : Nat} (hk : k < 10) (ho : o < 6) (h5 : M 475 k = nI o) {f : Nat → Int32} (h : ∀ q, q < nwn o → M 476 (5 * k + q) = f q) : fX9_commandFault M (nI k) = flt o f M := by
  unfold fX9_commandFault
  have a0 : fX5_numberAt M (nI k) 0 = some (M 476 (5 * k + 0)) := x_numAt M hk (q := 0) (by omega)
  have a1 : fX5_numberAt M (nI k) 1 = some (M 476 (5 * k + 1)) := x_numAt M hk (q := 1) (by omega)
  have a2 : fX5_numberAt M (nI k) 2 = some (M 476 (5 * k + 2)) := x_numAt M hk (q := 2) (by omega)
  have a3 : fX5_numberAt M (nI k) 3 = some (M 476 (5 * k + 3)) := x_numAt M hk (q := 3) (by omega)
  have a4 : fX5_numberAt M (nI k) 4 = some (M 476 (5 * k + 4)) := x_numAt M hk (q := 4) (by omega)
  rw [grd_T (inb_nI hk (by omega)), nI_clamp (by omega), h5, if_neg (nI_pos (by omega)), nI_clamp (by omega), grd_T (decide_eq_true ho), a0, clp_e, a1, clp_e, a2, clp_e, clp_e, grd_T (inb_nI ho (by omega)), nI_clamp (by omega)]
  unfold flt
  rcases (show o = 0 ∨ o = 1 ∨ o = 2 ∨ o = 3 ∨ o = 4 ∨ o = 5 by omega) with rfl | rfl | rfl | rfl | rfl | rfl
  · rw [if_pos (by decide), if_pos rfl, a3, clp_e, a4, clp_e, cl_eta, h 0 (by decide), h 1 (by decide), h 2 (by decide), h 3 (by decide), h 4 (by decide)]
  · rw [if_neg (by decide), if_pos (by decide), if_neg (by decide), if_pos rfl, h 0 (by decide), h 1 (by decide)]; rfl
  · rw [if_neg (by decide), if_neg (by decide), if_pos (by decide), if_neg (by decide), if_neg (by decide), if_pos rfl, h 0 (by decide), h 1 (by decide)]; rfl
  · rw [if_neg (by decide), if_neg (by decide), if_neg (by decide), if_pos (by decide), if_neg (by decide), if_neg (by decide), if_neg (by decide), if_pos rfl, h 0 (by decide)]; rfl
  · rw [if_neg (by decide), if_neg (by decide), if_neg (by decide), if_neg (by decide), if_pos (by decide), if_neg (by decide), if_neg (by decide), if_neg (by decide), if_neg (by decide), if_pos rfl, h 0 (by decide)]; rfl
  · rw [if_neg (by decide), if_neg (by decide), if_neg (by decide), if_neg (by decide), if_neg (by decide), if_neg (by decide), if_neg (by decide), if_neg (by decide), if_neg (by decide), if_neg (by decide), h 0 (by decide), h 1 (by decide), h 2 (by decide)]; rfl
theorem x_carry {M M' : Mem} {k o : Nat} (hk : k < 10) (ho : o < 6) (h5 : M 475 k = nI o) {f : Nat → Int32} (h : ∀ q, q < nwn o → M 476 (5 * k + q) = f q) {v : Int32} (hs : sto o f M = some (.inr v, M')) : fX9_carryOut M (nI k) = some (.inr (), M') := by
  unfold fX9_carryOut
  have a0 : fX5_numberAt M (nI k) 0 = some (M 476 (5 * k + 0)) := x_numAt M hk (q := 0) (by omega)
  have a1 : fX5_numberAt M (nI k) 1 = some (M 476 (5 * k + 1)) := x_numAt M hk (q := 1) (by omega)
  have a2 : fX5_numberAt M (nI k) 2 = some (M 476 (5 * k + 2)) := x_numAt M hk (q := 2) (by omega)
  have a3 : fX5_numberAt M (nI k) 3 = some (M 476 (5 * k + 3)) := x_numAt M hk (q := 3) (by omega)
  have a4 : fX5_numberAt M (nI k) 4 = some (M 476 (5 * k + 4)) := x_numAt M hk (q := 4) (by omega)
  rw [grd_T (inb_nI hk (by omega)), nI_clamp (by omega), h5, if_neg (nI_pos (by omega)), nI_clamp (by omega), grd_T (decide_eq_true ho), a0, clp_e, a1, clp_e, a2, clp_e, clp_e, grd_T (inb_nI ho (by omega)), nI_clamp (by omega), jn_e]
  unfold sto at hs
  rcases (show o = 0 ∨ o = 1 ∨ o = 2 ∨ o = 3 ∨ o = 4 ∨ o = 5 by omega) with rfl | rfl | rfl | rfl | rfl | rfl
  · rw [if_pos rfl] at hs
    rw [if_pos (by decide), a3, clp_e, a4, clp_e, h 0 (by decide), h 1 (by decide), h 2 (by decide), h 3 (by decide), h 4 (by decide), hs, clx_r]
  · rw [if_neg (by decide), if_pos rfl] at hs
    rw [if_neg (by decide), if_pos (by decide), h 0 (by decide), h 1 (by decide), hs, clx_r]
  · rw [if_neg (by decide), if_neg (by decide), if_pos rfl] at hs
    rw [if_neg (by decide), if_neg (by decide), if_pos (by decide), h 0 (by decide), h 1 (by decide), hs, clx_r]
  · rw [if_neg (by decide), if_neg (by decide), if_neg (by decide), if_pos rfl] at hs
    rw [if_neg (by decide), if_neg (by decide), if_neg (by decide), if_pos (by decide), h 0 (by decide)]
    unfold setRun at hs
    cases e : fX6_letPass M 1 (f 0) with
    | none => rw [e] at hs; cases hs
    | some r =>
      obtain ⟨x, K⟩ := r
      rw [e, cl_e] at hs
      cases hs
      rw [cl_e]
  · rw [if_neg (by decide), if_neg (by decide), if_neg (by decide), if_neg (by decide), if_pos rfl] at hs
    rw [if_neg (by decide), if_neg (by decide), if_neg (by decide), if_neg (by decide), if_pos (by decide), h 0 (by decide), hs, clx_r]
  · rw [if_neg (by decide), if_neg (by decide), if_neg (by decide), if_neg (by decide), if_neg (by decide)] at hs
    rw [if_neg (by decide), if_neg (by decide), if_neg (by decide), if_neg (by decide), if_neg (by decide), h 0 (by decide), h 1 (by decide), h 2 (by decide), hs, clx_r]
