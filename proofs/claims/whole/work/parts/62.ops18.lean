/-! call: tripAgain, second by second -/
theorem lp_seg {S β : Type} {f : (S → Option β) → S → Option β} (st : Nat → S) : ∀ (N F : Nat), (∀ i, i < N → ∀ k, f k (st i) = k (st (i + 1))) → lp f (F + N) (st 0) = lp f F (st N)
  | 0, F, _ => rfl
  | N + 1, F, h => by
    have e : F + (N + 1) = (F + N) + 1 := by omega
    rw [e, lp_s, h 0 (by omega)]
    exact lp_seg (fun i => st (i + 1)) N F (fun i hi k => h (i + 1) (by omega) k)
def wi (A : Ar) (d j : Nat) (x : Int) : Int := if (x - (A (ix j 1)).toInt - (fs A j (pl A j) (ro A d j)).toInt) % (A 0).toInt < (ln A j (pl A j) (ro A d j)).toInt then 0 else (A 0).toInt - (x - (A (ix j 1)).toInt - (fs A j (pl A j) (ro A d j)).toInt) % (A 0).toInt
theorem psb_d {A : Ar} {d j : Nat} (v : VJ A j) (hd : d < 2) (h : psb A d j = true) : ro A d j < 6 ∧ pl A j < 2 ∧ 0 < (ln A j (pl A j) (ro A d j)).toInt := by
  unfold psb at h
  rw [Bool.and_eq_true, decide_eq_true_iff] at h
  have z0 : Int32.toInt 0 = 0 := rfl
  have h2 := of_decide_eq_true h.2
  rw [ti_lt, z0] at h2
  exact ⟨(ro_e v hd h.1).1, (pl_e v).1, h2⟩
theorem wa_ti {A : Ar} (V : Val A) {d j : Nat} (v : VJ A j) (hd : d < 2) (h : psb A d j = true) {t : Int32} (ht : bt t 0 200000) : (wa A d j t).toInt = wi A d j t.toInt := by
  obtain ⟨r1, p1, l1⟩ := psb_d v hd h
  have hc := V.1.1
  have hc0 := V.c0
  have o := v.2.1
  have f := ((v.2.2.2.2.2.2.1 _ r1).2.2.2.2.2.2.2.1 _ p1).1
  have o1 := o.1
  have o2 := o.2
  have f1 := f.1
  have f2 := f.2
  have t1 := ht.1
  have t2 := ht.2
  have c2 := hc.2
  have e1 : (t - A (ix j 1)).toInt = t.toInt - (A (ix j 1)).toInt := ti_sub (by omega) (by omega)
  have e2 : (wr (wr (t - A (ix j 1)) (A 0) - fs A j (pl A j) (ro A d j)) (A 0)).toInt = (t.toInt - (A (ix j 1)).toInt - (fs A j (pl A j) (ro A d j)).toInt) % (A 0).toInt := by
    rw [wr_wr V (by rw [e1]; omega) ⟨by omega, by omega⟩, wr_ti hc0, ti_sub (by rw [e1]; omega) (by rw [e1]; omega), e1]
  have b1 := Int.emod_nonneg (t.toInt - (A (ix j 1)).toInt - (fs A j (pl A j) (ro A d j)).toInt) (show (A 0).toInt ≠ 0 by omega)
  have b2 := Int.emod_lt_of_pos (t.toInt - (A (ix j 1)).toInt - (fs A j (pl A j) (ro A d j)).toInt) hc0
  unfold wa uo wi
  by_cases c : wr (wr (t - A (ix j 1)) (A 0) - fs A j (pl A j) (ro A d j)) (A 0) < ln A j (pl A j) (ro A d j)
  · rw [if_pos c]
    rw [ti_lt, e2] at c
    rw [if_pos c]; rfl
  · rw [if_neg c]
    rw [ti_lt, e2] at c
    rw [if_neg c, ti_sub (by rw [e2]; omega) (by rw [e2]; omega), e2]
/-- a wait grows shorter by a second each second -/
theorem wi_dec {A : Ar} (V : Val A) {d j : Nat} (hl0 : 0 < (ln A j (pl A j) (ro A d j)).toInt) (x u : Int) (hu : 0 ≤ u) (h : u ≤ wi A d j x) : wi A d j (x + u) = wi A d j x - u := by
  have hc0 := V.c0
  have b1 := Int.emod_nonneg (x - (A (ix j 1)).toInt - (fs A j (pl A j) (ro A d j)).toInt) (show (A 0).toInt ≠ 0 by omega)
  have b2 := Int.emod_lt_of_pos (x - (A (ix j 1)).toInt - (fs A j (pl A j) (ro A d j)).toInt) hc0
  have e : (x + u - (A (ix j 1)).toInt - (fs A j (pl A j) (ro A d j)).toInt) % (A 0).toInt = ((x - (A (ix j 1)).toInt - (fs A j (pl A j) (ro A d j)).toInt) % (A 0).toInt + u) % (A 0).toInt := by
    rw [em_add]; congr 1; omega
  unfold wi at h ⊢
  rw [e]
  by_cases c : (x - (A (ix j 1)).toInt - (fs A j (pl A j) (ro A d j)).toInt) % (A 0).toInt < (ln A j (pl A j) (ro A d j)).toInt
  · rw [if_pos c] at h ⊢
    have : u = 0 := by omega
    subst this
    rw [Int.add_zero, Int.emod_eq_of_lt b1 b2, if_pos c]; rfl
  · rw [if_neg c] at h ⊢
    by_cases z : (x - (A (ix j 1)).toInt - (fs A j (pl A j) (ro A d j)).toInt) % (A 0).toInt + u = (A 0).toInt
    · rw [z, Int.emod_self, if_pos hl0]; omega
    · rw [Int.emod_eq_of_lt (by omega) (by omega), if_neg (by omega)]; omega
theorem wi_bt {A : Ar} (V : Val A) (d j : Nat) (x : Int) : 0 ≤ wi A d j x ∧ wi A d j x ≤ (A 0).toInt := by
  have hc0 := V.c0
  have b1 := Int.emod_nonneg (x - (A (ix j 1)).toInt - (fs A j (pl A j) (ro A d j)).toInt) (show (A 0).toInt ≠ 0 by omega)
  have b2 := Int.emod_lt_of_pos (x - (A (ix j 1)).toInt - (fs A j (pl A j) (ro A d j)).toInt) hc0
  unfold wi
  split <;> omega
theorem tp_E {A : Ar} (V : Val A) {n d : Nat} (hn : A 2 = nI n) (hn4 : n ≤ 4) (hd : d < 2) (hp : al (psb A d) n = true) {t0 : Int32} (h0 : bt t0 0 99999) : ∃ E : Nat → Nat, E 0 = 0 ∧ (∀ i, i ≤ n → (tp A d n t0 i).1.toInt = t0.toInt + E i ∧ E i ≤ 2125 * i) ∧ ∀ i, i < n → (E (i + 1) : Int) = E i + (tt A d n i).toInt + wi A d (jd d n i) (t0.toInt + E i + (tt A d n i).toInt) := by
  have a1 := h0.1
  have a2 := h0.2
  have main : ∀ i, i ≤ n → 0 ≤ (tp A d n t0 i).1.toInt - t0.toInt ∧ (tp A d n t0 i).1.toInt - t0.toInt ≤ 2125 * i ∧ (∀ k, k + 1 = i → (tp A d n t0 i).1.toInt = (tp A d n t0 k).1.toInt + (tt A d n k).toInt + wi A d (jd d n k) ((tp A d n t0 k).1.toInt + (tt A d n k).toInt)) := by
    intro i
    induction i with
    | zero => intro _; exact ⟨by show 0 ≤ t0.toInt - t0.toInt; omega, by show t0.toInt - t0.toInt ≤ _; omega, fun k hk => absurd hk (by omega)⟩
    | succ i ih =>
      intro hi
      obtain ⟨i1, i2, _⟩ := ih (by omega)
      have hb := tt_bt V (d := d) hn hn4 (show i < n by omega)
      have hb1 := hb.1
      have hb2 := hb.2
      have hjl := jd_lt (d := d) (show i < n by omega)
      have v := V.2.1 _ (show jd d n i < 4 by omega) (lj hn hn4 hjl)
      have e1 : ((tp A d n t0 i).1 + tt A d n i).toInt = (tp A d n t0 i).1.toInt + (tt A d n i).toInt := ti_add (by omega) (by omega)
      have e2 := wa_ti V v hd (al_T.mp hp _ hjl) (t := (tp A d n t0 i).1 + tt A d n i) ⟨by omega, by omega⟩
      rw [e1] at e2
      have hw := wi_bt V d (jd d n i) ((tp A d n t0 i).1.toInt + (tt A d n i).toInt)
      have hc := V.1.1.2
      have e3 : (tp A d n t0 (i + 1)).1.toInt = (tp A d n t0 i).1.toInt + (tt A d n i).toInt + wi A d (jd d n i) ((tp A d n t0 i).1.toInt + (tt A d n i).toInt) := by
        show ((tp A d n t0 i).1 + tt A d n i + wa A d (jd d n i) ((tp A d n t0 i).1 + tt A d n i)).toInt = _
        rw [ti_add (by rw [e1, e2]; omega) (by rw [e1, e2]; omega), e1, e2]
      refine ⟨by omega, by omega, fun k hk => ?_⟩
      have : k = i := by omega
      subst this
      exact e3
  refine ⟨fun i => ((tp A d n t0 i).1.toInt - t0.toInt).toNat, by show (t0.toInt - t0.toInt).toNat = 0; omega, fun i hi => ?_, fun i hi => ?_⟩
  · obtain ⟨i1, i2, i3⟩ := main i hi
    dsimp only
    omega
  · obtain ⟨i1, i2, i3⟩ := main i (by omega)
    obtain ⟨j1, j2, j3⟩ := main (i + 1) (by omega)
    have := j3 i rfl
    dsimp only
    have e : t0.toInt + (((tp A d n t0 i).1.toInt - t0.toInt).toNat : Int) = (tp A d n t0 i).1.toInt := by omega
    rw [e]
    omega
theorem ds_pos {A : Ar} (V : Val A) {n d i : Nat} (hn : A 2 = nI n) (hn4 : n ≤ 4) (hi : i < n) (h0 : 0 < i) : 1 ≤ (ds A d n i).toInt := by
  have z0 : Int32.toInt 0 = 0 := rfl
  have mono : ∀ b a, a < b → b < n → (A (ix a 0)).toInt < (A (ix b 0)).toInt := by
    intro b
    induction b with
    | zero => intro a h; omega
    | succ b ih =>
      intro a h hb
      have h1 := V.2.2.2 b (by omega) (lj hn hn4 hb)
      rw [ti_lt] at h1
      by_cases c : a = b
      · subst c; exact h1
      · have := ih a (by omega) (by omega); omega
  have j1 := jd_lt (d := d) hi
  have j2 := jd_lt (d := d) (show i - 1 < n by omega)
  have p1 := (V.2.1 _ (by omega) (lj hn hn4 j1)).1
  have p2 := (V.2.1 _ (by omega) (lj hn hn4 j2)).1
  have a1 := p1.1
  have a2 := p1.2
  have a3 := p2.1
  have a4 := p2.2
  have e : (A (ix (jd d n i) 0) - A (ix (jd d n (i - 1)) 0)).toInt = (A (ix (jd d n i) 0)).toInt - (A (ix (jd d n (i - 1)) 0)).toInt := ti_sub (by omega) (by omega)
  have hne : (A (ix (jd d n i) 0)).toInt ≠ (A (ix (jd d n (i - 1)) 0)).toInt := by
    rcases Nat.lt_trichotomy (jd d n i) (jd d n (i - 1)) with c | c | c
    · have := mono _ _ c j2; omega
    · have := jd_inj (d := d) hi (by omega) c; omega
    · have := mono _ _ c j1; omega
  unfold ds
  rw [if_neg (by omega)]
  unfold ab
  by_cases c : 0 ≤ A (ix (jd d n i) 0) - A (ix (jd d n (i - 1)) 0)
  · rw [if_pos c]
    rw [ti_le, z0, e] at c
    rw [e]; omega
  · rw [if_neg c]
    rw [ti_le, z0, e] at c
    rw [Int32.toInt_neg, e, tb (by omega) (by omega)]; omega
/-- the seconds on the way reach the distance, one less doesn't -/
theorem tt_reach {A : Ar} (V : Val A) {n d i : Nat} (hn : A 2 = nI n) (hn4 : n ≤ 4) (hi : i < n) (m : Int) : (m * (A 1).toInt < (ds A d n i).toInt) ↔ m < (tt A d n i).toInt := by
  have hs := V.1.2.1
  have h3 := hs.1
  rw [tt_ti V hn hn4 hi]
  have e1 := Int.mul_ediv_add_emod ((ds A d n i).toInt + (A 1).toInt - 1) (A 1).toInt
  have e2 := Int.emod_nonneg ((ds A d n i).toInt + (A 1).toInt - 1) (show (A 1).toInt ≠ 0 by omega)
  have e3 := Int.emod_lt_of_pos ((ds A d n i).toInt + (A 1).toInt - 1) (show 0 < (A 1).toInt by omega)
  have e4 : (A 1).toInt * (((ds A d n i).toInt + (A 1).toInt - 1) / (A 1).toInt) = (((ds A d n i).toInt + (A 1).toInt - 1) / (A 1).toInt) * (A 1).toInt := Int.mul_comm _ _
  generalize ((ds A d n i).toInt + (A 1).toInt - 1) / (A 1).toInt = q at *
  constructor
  · intro h
    by_cases c : m < q
    · exact c
    · have := Int.mul_le_mul_of_nonneg_right (show q ≤ m by omega) (show 0 ≤ (A 1).toInt by omega)
      omega
  · intro h
    have : (m + 1) * (A 1).toInt ≤ q * (A 1).toInt := Int.mul_le_mul_of_nonneg_right (by omega) (by omega)
    rw [Int.add_mul, Int.one_mul] at this
    omega
