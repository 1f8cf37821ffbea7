/-! call: bestOffset -/
theorem Inv.scr {Mx Mx' Mm : Mem} (I : Inv Mx Mm) (h : ∀ o, o < 464 ∨ 472 ≤ o → Mx' o = Mx o) : Inv Mx' Mm :=
  ⟨RS_frame (fun o _ _ => h o (by omega)) I.1, I.2.1, HR_frame (fun o _ _ => h o (by omega)) rfl rfl I.2.2.1, Rest_frame (fun k _ _ => by rw [h 0 (by omega)]) (fun o _ _ => h o (by omega)) (fun o _ => h o (by omega)) (fun _ _ => rfl) rfl rfl rfl I.2.2.2⟩
theorem ds_bt {A : Ar} (V : Val A) {n d i : Nat} (hn : A 2 = nI n) (hn4 : n ≤ 4) (hi : i < n) : bt (ds A d n i) 0 9999 := by
  have z0 : Int32.toInt 0 = 0 := rfl
  unfold ds
  by_cases h : i = 0
  · rw [if_pos h]; unfold bt; decide
  · rw [if_neg h]
    have j1 := jd_lt (d := d) hi
    have j2 := jd_lt (d := d) (show i - 1 < n by omega)
    have p1 := (V.2.1 _ (by omega) (lj hn hn4 j1)).1
    have p2 := (V.2.1 _ (by omega) (lj hn hn4 j2)).1
    have a1 := p1.1
    have a2 := p1.2
    have a3 := p2.1
    have a4 := p2.2
    have e : (A (ix (jd d n i) 0) - A (ix (jd d n (i - 1)) 0)).toInt = (A (ix (jd d n i) 0)).toInt - (A (ix (jd d n (i - 1)) 0)).toInt := ti_sub (by omega) (by omega)
    unfold ab
    by_cases c : 0 ≤ A (ix (jd d n i) 0) - A (ix (jd d n (i - 1)) 0)
    · rw [if_pos c]
      rw [ti_le, z0, e] at c
      unfold bt; rw [e]; omega
    · rw [if_neg c]
      rw [ti_le, z0, e] at c
      have e2 : (-(A (ix (jd d n i) 0) - A (ix (jd d n (i - 1)) 0))).toInt = -((A (ix (jd d n i) 0)).toInt - (A (ix (jd d n (i - 1)) 0)).toInt) := by rw [Int32.toInt_neg, e, tb (by omega) (by omega)]
      unfold bt; rw [e2]; omega
/-- the seconds on the way: the least that reach the distance -/
theorem tt_ti {A : Ar} (V : Val A) {n d i : Nat} (hn : A 2 = nI n) (hn4 : n ≤ 4) (hi : i < n) : (tt A d n i).toInt = ((ds A d n i).toInt + (A 1).toInt - 1) / (A 1).toInt := by
  have hb := ds_bt V (d := d) hn hn4 hi
  have hs := V.1.2.1
  have h1 := hb.1
  have h2 := hb.2
  have h3 := hs.1
  have h4 := hs.2
  have z1 : Int32.toInt 1 = 1 := rfl
  have e1 : (ds A d n i + A 1).toInt = (ds A d n i).toInt + (A 1).toInt := ti_add (by omega) (by omega)
  have e2 : (ds A d n i + A 1 - 1).toInt = (ds A d n i).toInt + (A 1).toInt - 1 := by rw [ti_sub (by rw [e1, z1]; omega) (by rw [e1, z1]; omega), e1, z1]
  unfold tt
  rw [Int32.toInt_div_of_ne_right _ _ (by intro z; rw [z] at h3; exact absurd h3 (by decide)), e2, Int.tdiv_eq_ediv_of_nonneg (by omega)]
theorem tt_bt {A : Ar} (V : Val A) {n d i : Nat} (hn : A 2 = nI n) (hn4 : n ≤ 4) (hi : i < n) : bt (tt A d n i) 0 2005 := by
  have hb := ds_bt V (d := d) hn hn4 hi
  have hs := V.1.2.1
  have h1 := hb.1
  have h2 := hb.2
  have h3 := hs.1
  have h4 := hs.2
  unfold bt
  rw [tt_ti V hn hn4 hi]
  refine ⟨Int.ediv_nonneg (by omega) (by omega), ?_⟩
  refine Int.le_of_lt_add_one (Int.ediv_lt_of_lt_mul (by omega) ?_)
  have : 2006 * (A 1).toInt ≥ 2006 * 5 := by omega
  omega
theorem fn_add (A : Ar) (d n : Nat) (t0 : Int32) : ∀ i, fn A d n t0 i = t0 + fn A d n 0 i
  | 0 => by show t0 = t0 + 0; simp
  | i + 1 => by
    show fn A d n t0 i + tt A d n i = t0 + (fn A d n 0 i + tt A d n i)
    rw [fn_add A d n t0 i, Int32.add_assoc]
theorem fn_bt {A : Ar} (V : Val A) {n d : Nat} (hn : A 2 = nI n) (hn4 : n ≤ 4) {t0 : Int32} (h0 : bt t0 0 200000) : ∀ i, i ≤ n → bt (fn A d n t0 i) 0 (200000 + 2005 * i)
  | 0, _ => ⟨h0.1, by have := h0.2; show t0.toInt ≤ _; omega⟩
  | i + 1, hi => by
    have ih := fn_bt V (d := d) hn hn4 h0 i (by omega)
    have ht := tt_bt V (d := d) hn hn4 (show i < n by omega)
    have a1 := ih.1
    have a2 := ih.2
    have a3 := ht.1
    have a4 := ht.2
    show bt (fn A d n t0 i + tt A d n i) _ _
    unfold bt
    rw [ti_add (by omega) (by omega)]
    omega
theorem jd_jd {d n i : Nat} (h : i < n) : jd d n (jd d n i) = i := by unfold jd; split <;> omega
theorem jd_inj {d n i k : Nat} (hi : i < n) (hk : k < n) (h : jd d n i = jd d n k) : i = k := by rw [← jd_jd (d := d) hi, h, jd_jd hk]
/-- the offset of junction j is o -/
def Ao (A : Ar) (j : Nat) (o : Int32) : Ar := upd A (ix j 1) o
theorem Ao_k {A : Ar} {j k : Nat} {o : Int32} (h : k ≠ ix j 1) : Ao A j o k = A k := pk_un h
theorem Val_Ao {A : Ar} (V : Val A) {j : Nat} (hj : j < 4) (hl : nI j < A 2) {o : Int32} (ho : bt o 0 ((A 0).toInt - 1)) : Val (Ao A j o) :=
  Val_lift V hj hl (fun k hk => pk_un (by unfold ix at hk ⊢; omega)) (pk_un (by unfold ix; omega)) (V_ix (by omega) (V.2.1 j hj hl) (fun _ => ho) (by omega) (by omega) (by omega))
theorem tt_Ao (A : Ar) (j : Nat) (o : Int32) (d n i : Nat) : tt (Ao A j o) d n i = tt A d n i := by
  have e : ∀ q, Ao A j o (ix q 0) = A (ix q 0) := fun q => Ao_k (by unfold ix; omega)
  have e1 : Ao A j o 1 = A 1 := Ao_k (by unfold ix; omega)
  unfold tt ds
  rw [e, e, e1]
theorem fn_Ao (A : Ar) (j : Nat) (o : Int32) (d n : Nat) (t0 : Int32) : ∀ i, fn (Ao A j o) d n t0 i = fn A d n t0 i
  | 0 => rfl
  | i + 1 => by
    show fn (Ao A j o) d n t0 i + tt (Ao A j o) d n i = fn A d n t0 i + tt A d n i
    rw [fn_Ao A j o d n t0 i, tt_Ao]
theorem Ao_pl (A : Ar) (j : Nat) (o : Int32) (q : Nat) : pl (Ao A j o) q = pl A q := by unfold pl; rw [Ao_k (by unfold ix; omega)]
theorem Ao_ro (A : Ar) (j : Nat) (o : Int32) {d q : Nat} (hd : d < 2) : ro (Ao A j o) d q = ro A d q := by
  unfold ro; rw [Ao_k (by unfold ix; rcases Nat.lt_trichotomy q j with z | z | z <;> omega)]
theorem Ao_fs (A : Ar) (j : Nat) (o : Int32) {q p g : Nat} (hp : p < 2) (hg : g < 6) : fs (Ao A j o) q p g = fs A q p g := by
  unfold fs; exact Ao_k (by unfold gx ix; rcases Nat.lt_trichotomy q j with z | z | z <;> omega)
theorem Ao_ln (A : Ar) (j : Nat) (o : Int32) {q p g : Nat} (hp : p < 2) (hg : g < 6) : ln (Ao A j o) q p g = ln A q p g := by
  unfold ln; exact Ao_k (by unfold gx ix; rcases Nat.lt_trichotomy q j with z | z | z <;> omega)
theorem Ao_rd (A : Ar) (j : Nat) (o : Int32) {d q : Nat} (hd : d < 2) : Ao A j o (ix q (5 + d)) = A (ix q (5 + d)) := Ao_k (by unfold ix; rcases Nat.lt_trichotomy q j with z | z | z <;> omega)
theorem psb_Ao {A : Ar} {q : Nat} (v : VJ A q) (j : Nat) (o : Int32) {d : Nat} (hd : d < 2) : psb (Ao A j o) d q = psb A d q := by
  unfold psb
  rw [Ao_rd A j o hd]
  by_cases h : 0 ≤ A (ix q (5 + d))
  · obtain ⟨r1, r2, r3⟩ := ro_e v hd h
    obtain ⟨p1, p2⟩ := pl_e v
    unfold gr
    rw [Ao_pl, Ao_ro A j o hd, Ao_ln A j o p1 r1]
  · rw [decide_eq_false h, Bool.false_and, Bool.false_and]
theorem pos_Ao {A : Ar} (V : Val A) (j : Nat) (o : Int32) {d n : Nat} (hn : A 2 = nI n) (hn4 : n ≤ 4) (hd : d < 2) : pos (Ao A j o) d n = pos A d n := by
  unfold pos; rw [al_cong n (fun i hi => psb_Ao (V.2.1 i (by omega) (lj hn hn4 hi)) j o hd)]
/-- whether the junction is passed at once, its offset o -/
def pas (A : Ar) (d j : Nat) (t o : Int32) : Bool := on A j (pl A j) (ro A d j) (t - o)
theorem frp_Ao {A : Ar} (V : Val A) {j n d : Nat} (hn : A 2 = nI n) (hn4 : n ≤ 4) (hd : d < 2) (hj : j < n) (hp : pos A d n = true) {o t0 : Int32} (ho : bt o 0 ((A 0).toInt - 1)) (ht : bt t0 0 200000) : al (frp (Ao A j o) d n t0) n = (al (frx A d n (nI j) t0) n && pas A d j (fn A d n t0 (jd d n j + 1)) o) := by
  have hc0 := V.c0
  have VA := Val_Ao V (show j < 4 by omega) (lj hn hn4 hj) ho
  have hpp : pos A d n = true := hp
  unfold pos at hp
  rw [Bool.and_eq_true] at hp
  have e0 : Ao A j o 0 = A 0 := Ao_k (by unfold ix; omega)
  -- at every step
  have stp : ∀ i, i < n → frp (Ao A j o) d n t0 i = if jd d n i = j then pas A d j (fn A d n t0 (i + 1)) o else frp A d n t0 i := fun i hi => by
    have hji := jd_lt (d := d) hi
    have hJ := V.2.1 _ (show jd d n i < 4 by omega) (lj hn hn4 hji)
    have hps := al_T.mp hp.1 _ hji
    unfold psb at hps
    rw [Bool.and_eq_true, decide_eq_true_iff] at hps
    obtain ⟨r1, r2, r3⟩ := ro_e hJ hd hps.1
    obtain ⟨p1, p2⟩ := pl_e hJ
    have hw : ∀ B : Ar, Val B → B = B → (!decide (0 < wa B d (jd d n i) (fn A d n t0 (i + 1)))) = decide (wr (wr (fn A d n t0 (i + 1) - B (ix (jd d n i) 1)) (B 0) - fs B (jd d n i) (pl B (jd d n i)) (ro B d (jd d n i))) (B 0) < ln B (jd d n i) (pl B (jd d n i)) (ro B d (jd d n i))) := fun B hB _ => by
      have := wa_pos hB d (jd d n i) (fn A d n t0 (i + 1))
      by_cases z : wr (wr (fn A d n t0 (i + 1) - B (ix (jd d n i) 1)) (B 0) - fs B (jd d n i) (pl B (jd d n i)) (ro B d (jd d n i))) (B 0) < ln B (jd d n i) (pl B (jd d n i)) (ro B d (jd d n i))
      · rw [decide_eq_true z, decide_eq_false (fun y => this.mp y z)]; rfl
      · rw [decide_eq_false z, decide_eq_true (this.mpr z)]; rfl
    unfold frp
    rw [fn_Ao, hw _ VA rfl, Ao_pl, Ao_ro A j o hd, Ao_fs A j o p1 r1, Ao_ln A j o p1 r1, e0]
    by_cases c : jd d n i = j
    · rw [if_pos c]
      have e1 : Ao A j o (ix (jd d n i) 1) = o := by rw [c]; unfold Ao; rw [up_at, if_pos rfl]
      rw [e1]
      have fb := fn_bt V (d := d) hn hn4 ht (i + 1) (by omega)
      have f1 := fb.1
      have f2 := fb.2
      have o1 := ho.1
      have o2 := ho.2
      have hc := V.1.1.2
      have fsb := ((hJ.2.2.2.2.2.2.1 _ r1).2.2.2.2.2.2.2.1 _ p1).1
      have s1 := fsb.1
      have s2 := fsb.2
      rw [wr_wr V (by rw [ti_sub (by omega) (by omega)]; omega) ⟨by omega, by omega⟩]
      unfold pas on
      rw [c]
    · rw [if_neg c]
      have e1 : Ao A j o (ix (jd d n i) 1) = A (ix (jd d n i) 1) := Ao_k (by unfold ix; omega)
      rw [e1, hw A V rfl]
  have hi0 := jd_lt (d := d) hj
  have hjj := jd_jd (d := d) hj
  have key : al (frp (Ao A j o) d n t0) n = true ↔ (al (frx A d n (nI j) t0) n && pas A d j (fn A d n t0 (jd d n j + 1)) o) = true := by
    rw [Bool.and_eq_true, al_T, al_T]
    constructor
    · intro h
      refine ⟨fun i hi => ?_, ?_⟩
      · have := h i hi
        rw [stp i hi] at this
        unfold frx
        by_cases c : jd d n i = j
        · rw [decide_eq_true (by rw [c]), Bool.true_or]
        · rw [if_neg c] at this
          rw [this, Bool.or_true]
      · have := h _ hi0
        rw [stp _ hi0, if_pos hjj] at this
        exact this
    · rintro ⟨h1, h2⟩ i hi
      rw [stp i hi]
      by_cases c : jd d n i = j
      · have : i = jd d n j := jd_inj (d := d) hi hi0 (by rw [c, hjj])
        rw [if_pos c, this]; exact h2
      · rw [if_neg c]
        have := h1 i hi
        unfold frx at this
        rw [decide_eq_false (fun z => c ((nI_eq (by have := jd_lt (d := d) hi; omega) (by omega)).mp z)), Bool.false_or] at this
        exact this
  cases a : al (frp (Ao A j o) d n t0) n <;> cases b : (al (frx A d n (nI j) t0) n && pas A d j (fn A d n t0 (jd d n j + 1)) o)
  · rfl
  · have := key.mpr b; rw [a] at this; cases this
  · have := key.mp a; rw [b] at this; cases this
  · rfl
