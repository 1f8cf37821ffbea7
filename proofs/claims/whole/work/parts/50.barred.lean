/-! reasons: the reference's; calls hinders, green -/
theorem al_cong {p q : Nat → Bool} : ∀ n, (∀ i, i < n → p i = q i) → al p n = al q n
  | 0, _ => rfl
  | n + 1, h => by rw [al_1, al_1, al_cong n (fun i hi => h i (by omega)), h n (by omega)]
def bq (A : Ar) (j p g r o : Nat) : Bool := (!decide (o = g) && (cf A j g o && gr A j p o)) && (if r = 3 then mt (A 0) (fs A j p g) (ln A j p g) (fs A j p o) (ln A j p o) else if r = 4 then decide (wr (fs A j p g - fs A j p o - ln A j p o) (A 0) < kl A j o g) else decide (wr (fs A j p o - fs A j p g - ln A j p g) (A 0) < kl A j g o))
def BD (A : Ar) (j p n : Nat) : Prop := bt (A 0) 30 120 ∧ ∀ o, o < n → bt (fs A j p o) 0 ((A 0).toInt - 1) ∧ bt (ln A j p o) 0 (A 0).toInt
theorem gr_ne {A : Ar} {j p o : Nat} {hi : Int} (h : bt (ln A j p o) 0 hi) : gr A j p o = !decide (ln A j p o = 0) := by
  have h0 : Int32.toInt 0 = 0 := rfl
  have := h.1
  unfold gr
  by_cases c : ln A j p o = 0
  · rw [c]; rfl
  · rw [decide_eq_false c, decide_eq_true]; rfl
    rw [ti_eq] at c
    rw [ti_lt]
    omega
theorem m_bars {M : Mem} {j : Nat} (hj : j < 4) {p g o r n : Nat} (hp : p < 2) (hg : g < n) (ho : o < n) (h6 : n ≤ 6) (hr : 3 ≤ r ∧ r ≤ 5) (hb : BD (M 1) j p n) (hg0 : 0 < (ln (M 1) j p g).toInt) : fX10_bars M (nI j) (nI p) (nI g) (nI o) (nI r) = some (if bq (M 1) j p g r o = true then nI r else 0) := by
  have hc0 : 0 < (M 1 0).toInt := by have := hb.1.1; omega
  obtain ⟨b1, b2⟩ := hb.2 g hg
  obtain ⟨b3, b4⟩ := hb.2 o ho
  unfold fX10_bars
  simp only [jn_e]
  rw [m_clear hj (by omega) (by omega), clp_e, m_length hj hp (by omega), clp_e, m_gap hj hp (by omega) (by omega) hc0, clp_e, m_clear hj (by omega) (by omega), clp_e, m_gap hj hp (by omega) (by omega) hc0, clp_e, cf_neg]
  by_cases e : o = g
  · have hq : bq (M 1) j p g r o = false := by unfold bq; rw [decide_eq_true e]; rfl
    subst e
    rw [if_pos rfl, hq]; rfl
  · rw [if_neg (fun z => e ((nI_eq (by omega) (by omega)).mp z))]
    by_cases c : cf (M 1) j g o = true
    · rw [if_pos c]
      by_cases z : ln (M 1) j p o = 0
      · have hq : bq (M 1) j p g r o = false := by unfold bq; rw [gr_ne b4, decide_eq_true z, Bool.not_true, Bool.and_false, Bool.and_false, Bool.false_and]
        rw [if_pos z, hq]; rfl
      · rw [if_neg z]
        have hz : 0 < (ln (M 1) j p o).toInt := by
          have h0 : Int32.toInt 0 = 0 := rfl
          rw [ti_eq] at z
          have := b4.1
          omega
        have hgr : gr (M 1) j p o = true := by rw [gr_ne b4, decide_eq_false z]; rfl
        have e3 : bq (M 1) j p g 3 o = mt (M 1 0) (fs (M 1) j p g) (ln (M 1) j p g) (fs (M 1) j p o) (ln (M 1) j p o) := by
          show ((!decide (o = g) && (cf (M 1) j g o && gr (M 1) j p o)) && mt (M 1 0) (fs (M 1) j p g) (ln (M 1) j p g) (fs (M 1) j p o) (ln (M 1) j p o)) = _
          rw [decide_eq_false e, c, hgr]; rfl
        have e4 : bq (M 1) j p g 4 o = decide (wr (fs (M 1) j p g - fs (M 1) j p o - ln (M 1) j p o) (M 1 0) < kl (M 1) j o g) := by
          show ((!decide (o = g) && (cf (M 1) j g o && gr (M 1) j p o)) && decide (wr (fs (M 1) j p g - fs (M 1) j p o - ln (M 1) j p o) (M 1 0) < kl (M 1) j o g)) = _
          rw [decide_eq_false e, c, hgr]; rfl
        have e5 : bq (M 1) j p g 5 o = decide (wr (fs (M 1) j p o - fs (M 1) j p g - ln (M 1) j p g) (M 1 0) < kl (M 1) j g o) := by
          show ((!decide (o = g) && (cf (M 1) j g o && gr (M 1) j p o)) && decide (wr (fs (M 1) j p o - fs (M 1) j p g - ln (M 1) j p g) (M 1 0) < kl (M 1) j g o)) = _
          rw [decide_eq_false e, c, hgr]; rfl
        rcases (show r = 3 ∨ r = 4 ∨ r = 5 by omega) with rfl | rfl | rfl
        · rw [if_pos (show nI 3 = 3 from rfl), m_meet hj hp (by omega) (by omega) hb.1 b1 b3 hg0 hz, clp_e, b01_ite, e3]
          cases mt (M 1 0) (fs (M 1) j p g) (ln (M 1) j p g) (fs (M 1) j p o) (ln (M 1) j p o) <;> rfl
        · rw [if_neg (show ¬ nI 4 = 3 by decide), if_pos (show nI 4 = 4 from rfl), not01, e4]
          by_cases y : wr (fs (M 1) j p g - fs (M 1) j p o - ln (M 1) j p o) (M 1 0) < kl (M 1) j o g
          · rw [if_pos y, decide_eq_true y]; rfl
          · rw [if_neg y, decide_eq_false y]; rfl
        · rw [if_neg (show ¬ nI 5 = 3 by decide), if_neg (show ¬ nI 5 = 4 by decide), clp_e, not01, e5]
          by_cases y : wr (fs (M 1) j p o - fs (M 1) j p g - ln (M 1) j p g) (M 1 0) < kl (M 1) j g o
          · rw [if_pos y, decide_eq_true y]; rfl
          · rw [if_neg y, decide_eq_false y]; rfl
    · have hq : bq (M 1) j p g r o = false := by unfold bq; rw [Bool.not_eq_true _ |>.mp c, Bool.false_and, Bool.and_false, Bool.false_and]
      rw [if_neg c, hq]; rfl
theorem m_barred_1 {M : Mem} {j : Nat} (hj : j < 4) {p g r n : Nat} (hn : M 1 (ix j 2) = nI n) (h6 : n ≤ 6) (hp : p < 2) (hg : g < n) (hr : 3 ≤ r ∧ r ≤ 5) (hb : BD (M 1) j p n) (hg0 : 0 < (ln (M 1) j p g).toInt) (k5 : Unit → Option Int32) : lp (fX10_barred_L1 (nI j) (nI p) (nI g) M (nI r) k5) FU 0 = if al (fun o => !bq (M 1) j p g r o) n = true then k5 () else some (nI r) := by
  have main := lp_srch (f := fX10_barred_L1 (nI j) (nI p) (nI g) M (nI r) k5) (s0 := (0 : Int32)) (fun i => nI i) (fun o => !bq (M 1) j p g r o) (rt := k5 ()) (rf := fun _ => some (nI r)) n (by omega) rfl ?_ ?_ ?_
  · rcases main with ⟨m1, m2⟩ | ⟨i, m1, m2, m3, m4⟩
    · rw [m2, if_pos m1]
    · rw [m4, if_neg]
      intro z
      have := al_T.mp z i m1
      rw [m2] at this; cases this
  all_goals (try (intro i hi ht k))
  · simp only [fX10_barred_L1]
    rw [m_of2 hj, hn, clp_e, if_neg (nI_ge hi (by omega)), m_bars hj hp hg hi h6 hr hb hg0, clp_e]
    have : bq (M 1) j p g r i = false := by
      cases z : bq (M 1) j p g r i
      · rfl
      · rw [z] at ht; cases ht
    simp only [this, Bool.false_eq_true, if_false]
    rw [if_pos (by decide), bnd_e, nI_1]
  · simp only [fX10_barred_L1]
    rw [m_of2 hj, hn, clp_e, if_neg (nI_ge hi (by omega)), m_bars hj hp hg hi h6 hr hb hg0, clp_e]
    have : bq (M 1) j p g r i = true := by
      cases z : bq (M 1) j p g r i
      · rw [z] at ht; cases ht
      · rfl
    rw [this, if_pos rfl, if_neg (nI_nle (by omega) (by omega))]
  · intro k
    simp only [fX10_barred_L1]
    rw [m_of2 hj, hn, clp_e, if_pos (nI_le (Nat.le_refl _) (by omega))]
theorem m_barred {M : Mem} {j : Nat} (hj : j < 4) {p g n : Nat} (hn : M 1 (ix j 2) = nI n) (h6 : n ≤ 6) (hp : p < 2) (hg : g < n) (hb : BD (M 1) j p n) : fX10_barred M (nI j) (nI p) (nI g) = some (if ln (M 1) j p g = 0 then 0 else rsn (bq (M 1) j p g 3) (bq (M 1) j p g 4) (bq (M 1) j p g 5) n) := by
  unfold fX10_barred
  rw [m_length hj hp (by omega), clp_e]
  by_cases z : ln (M 1) j p g = 0
  · rw [if_pos z, if_pos z]
  · rw [if_neg z, if_neg z]
    have hg0 : 0 < (ln (M 1) j p g).toInt := by
      have h0 : Int32.toInt 0 = 0 := rfl
      rw [ti_eq] at z
      have := (hb.2 g hg).2.1
      omega
    have step : ∀ i, i < 3 → ∀ k : Int32 → Option Int32, fX10_barred_L2 (nI j) (nI p) (nI g) M k (nI (3 + i)) = if al (fun o => !bq (M 1) j p g (3 + i) o) n = true then k (nI (3 + (i + 1))) else some (nI (3 + i)) := fun i hi k => by
      simp only [fX10_barred_L2]
      rw [if_neg (show ¬ (5 : Int32) < nI (3 + i) from nI_nlt (a := 5) (by omega) (by omega)), jn_e, m_barred_1 hj hn h6 hp hg (by omega) hb hg0]
      simp only [bnd_e, nI_1]
      rfl
    have main := lp_srch (f := fX10_barred_L2 (nI j) (nI p) (nI g) M) (s0 := (3 : Int32)) (fun i => nI (3 + i)) (fun i => al (fun o => !bq (M 1) j p g (3 + i) o) n) (rt := some (0 : Int32)) (rf := fun i => some (nI (3 + i))) 3 (by omega) rfl (fun i hi ht k => by rw [step i hi k, if_pos ht]) (fun i hi ht k => by rw [step i hi k, if_neg (by rw [ht]; decide)]) (fun k => by
      simp only [fX10_barred_L2]
      rw [if_pos (by decide)])
    unfold rsn pick
    rcases main with ⟨m1, m2⟩ | ⟨i, m1, m2, m3, m4⟩
    · rw [m2, al_T.mp m1 0 (by omega), al_T.mp m1 1 (by omega), al_T.mp m1 2 (by omega)]; rfl
    · rw [m4]
      rcases (show i = 0 ∨ i = 1 ∨ i = 2 by omega) with rfl | rfl | rfl
      · rw [m2]; rfl
      · rw [m2, m3 0 (by omega)]; rfl
      · rw [m2, m3 0 (by omega), m3 1 (by omega)]; rfl
/-- a green put in its place -/
def Pg (A : Ar) (j p g : Nat) (f l : Int32) : Ar := upd (upd A (gx j g (9 + 2 * p)) f) (gx j g (10 + 2 * p)) l
theorem Pg_k {A : Ar} {j p g : Nat} {f l : Int32} {k : Nat} (h1 : k ≠ gx j g (9 + 2 * p)) (h2 : k ≠ gx j g (10 + 2 * p)) : Pg A j p g f l k = A k := by
  unfold Pg; rw [pk_un h2, pk_un h1]
theorem Pg_fs (A : Ar) (j p g : Nat) (f l : Int32) : fs (Pg A j p g f l) j p g = f := by
  unfold fs Pg; rw [pk_un (by unfold gx; omega), up_at, if_pos rfl]
theorem Pg_ln (A : Ar) (j p g : Nat) (f l : Int32) : ln (Pg A j p g f l) j p g = l := by
  unfold ln Pg; rw [up_at, if_pos rfl]
theorem Pg_g {A : Ar} {j p g q w : Nat} {f l : Int32} (hp : p < 2) (hw : w < 13) (h : ¬ (q = g ∧ (w = 9 + 2 * p ∨ w = 10 + 2 * p))) : Pg A j p g f l (gx j q w) = A (gx j q w) :=
  Pg_k (fun z => h (by have := gx_inj hw (by omega) z; omega)) (fun z => h (by have := gx_inj hw (by omega) z; omega))
theorem Pg_i {A : Ar} {j p g k : Nat} {f l : Int32} (hk : k < 7) : Pg A j p g f l (ix j k) = A (ix j k) := Pg_k (by unfold ix gx; omega) (by unfold ix gx; omega)
theorem Pg_c {A : Ar} {j p g a b : Nat} {f l : Int32} (hg : g < 6) (hp : p < 2) : kl (Pg A j p g f l) j a b = kl A j a b := Pg_k (by unfold cx gx; omega) (by unfold cx gx; omega)
theorem Pg_s {A : Ar} {j p g k : Nat} {f l : Int32} (hk : k < 6) : Pg A j p g f l k = A k := Pg_k (by unfold gx; omega) (by unfold gx; omega)
theorem Pg_back {A : Ar} {j p g : Nat} {f l : Int32} (hp : p < 2) : Pg (Pg A j p g f l) j p g (fs A j p g) (ln A j p g) = A := by
  funext k
  by_cases h1 : k = gx j g (9 + 2 * p)
  · subst h1; exact Pg_fs _ _ _ _ _ _
  · by_cases h2 : k = gx j g (10 + 2 * p)
    · subst h2; exact Pg_ln _ _ _ _ _ _
    · rw [Pg_k h1 h2, Pg_k h1 h2]
theorem rsn_Pg {A : Ar} {j : Nat} (v : VJ A j) {p g n : Nat} {f l : Int32} (hp : p < 2) (hg : g < n) (h6 : n ≤ 6) : rsn (bq (Pg A j p g f l) j p g 3) (bq (Pg A j p g f l) j p g 4) (bq (Pg A j p g f l) j p g 5) n = rsnG A j p g f l n := by
  have hcf : ∀ o, cf (Pg A j p g f l) j g o = cf A j g o := fun o => by unfold cf; rw [Pg_c (by omega) hp]
  have hne : ∀ o, o ≠ g → fs (Pg A j p g f l) j p o = fs A j p o ∧ ln (Pg A j p g f l) j p o = ln A j p o := fun o ho => ⟨Pg_g hp (by omega) (by omega), Pg_g hp (by omega) (by omega)⟩
  have hgr : ∀ o, o ≠ g → gr (Pg A j p g f l) j p o = gr A j p o := fun o ho => by unfold gr; rw [(hne o ho).2]
  have hirr := cf_irr v (show g < 6 by omega)
  unfold rsnG rsn
  congr 2
  · refine al_cong n (fun o ho => ?_)
    unfold bq d3
    by_cases e : o = g
    · subst e; rw [hcf, hirr]; simp
    · rw [hcf, hgr o e, Pg_fs, Pg_ln, (hne o e).1, (hne o e).2, Pg_s (by omega), decide_eq_false e]; rfl
  · refine al_cong n (fun o ho => ?_)
    unfold bq d4
    by_cases e : o = g
    · subst e; rw [hcf, hirr]; simp
    · rw [hcf, hgr o e, Pg_fs, (hne o e).1, (hne o e).2, Pg_s (by omega), decide_eq_false e, Pg_c (by omega) hp]; rfl
  · refine al_cong n (fun o ho => ?_)
    unfold bq d5
    by_cases e : o = g
    · subst e; rw [hcf, hirr]; simp
    · rw [hcf, hgr o e, Pg_fs, Pg_ln, (hne o e).1, Pg_s (by omega), decide_eq_false e, Pg_c (a := g) (b := o) (by omega) hp]; rfl
theorem m_hindered {N : Mem} (V : Val (N 1)) {j : Nat} (hj : j < 4) (hl : nI j < N 1 2) {p g n : Nat} (hn : N 1 (ix j 2) = nI n) (h6 : n ≤ 6) (hp : p < 2) (hg : g < n) {f l : Int32} (hf : bt f 0 ((N 1 0).toInt - 1)) (hll : bt l 1 (N 1 0).toInt) : ∃ N', fX10_hindered N (nI j) (nI p) (nI g) f l = some (if N 1 (gx j g 1) ≤ l then (if l ≤ N 1 0 - 5 then rsnG (N 1) j p g f l n else 2) else 1, N') ∧ N' 1 = Pg (N 1) j p g f l ∧ (∀ r, r ≠ 1 → N' r = N r) := by
  have v := V.2.1 j hj hl
  refine ⟨mset (mset N 1 (gx j g (9 + 2 * p)) f) 1 (gx j g (10 + 2 * p)) l, ?_, by rw [ms_same, ms_same]; rfl, fun r hr => by rw [ms_other _ _ _ hr, ms_other _ _ _ hr]⟩
  obtain ⟨K, hK⟩ : ∃ z, z = mset (mset N 1 (gx j g (9 + 2 * p)) f) 1 (gx j g (10 + 2 * p)) l := ⟨_, rfl⟩
  have k1 : K 1 = Pg (N 1) j p g f l := by rw [hK, ms_same, ms_same]; rfl
  unfold fX10_hindered
  rw [m_puts f l hj hp (by omega), cl_e, ← hK, m_g1 hj (by omega), clp_e, k1, Pg_g hp (by omega) (by omega), jn_e, grd_T ib0, tc0, Pg_s (by omega)]
  by_cases h1 : N 1 (gx j g 1) ≤ l
  · rw [if_pos h1, if_pos h1]
    by_cases h2 : l ≤ N 1 0 - 5
    · have hb : BD (K 1) j p n := by
        rw [k1]
        refine ⟨by rw [Pg_s (by omega)]; exact V.1.1, fun o ho => ?_⟩
        rw [Pg_s (by omega)]
        by_cases e : o = g
        · subst e; rw [Pg_fs, Pg_ln]; exact ⟨hf, by have := hll.1; omega, hll.2⟩
        · have e1 : fs (Pg (N 1) j p g f l) j p o = fs (N 1) j p o := Pg_g hp (by omega) (by omega)
          have e2 : ln (Pg (N 1) j p g f l) j p o = ln (N 1) j p o := Pg_g hp (by omega) (by omega)
          have := (v.2.2.2.2.2.2.1 o (by omega)).2.2.2.2.2.2.2.1 p hp
          rw [e1, e2]
          exact ⟨this.1, this.2.1.1, by have := this.2.1.2; omega⟩
      have hz : ¬ ln (K 1) j p g = 0 := by
        rw [k1, Pg_ln]
        intro z
        have h0 : Int32.toInt 0 = 0 := rfl
        have := hll.1
        rw [z] at this
        omega
      rw [if_pos h2, if_pos h2, m_barred hj (by rw [k1, Pg_i (by omega)]; exact hn) h6 hp hg hb, clp_e, if_neg hz, k1, rsn_Pg v hp hg h6]
    · rw [if_neg h2, if_neg h2]
  · rw [if_neg h1, if_neg h1]
