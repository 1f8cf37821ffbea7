/-! call: conflict -/
def Pc (A : Ar) (j a b : Nat) (x y : Int32) : Ar := upd (upd A (cx j a b) x) (cx j b a) y
theorem Pc_k {A : Ar} {j a b : Nat} {x y : Int32} {k : Nat} (h : k < ix j 85 ∨ ix j 121 ≤ k) (ha : a < 6) (hb : b < 6) : Pc A j a b x y k = A k := by
  unfold Pc; rw [pk_un (by unfold ix at h; unfold cx; omega), pk_un (by unfold ix at h; unfold cx; omega)]
theorem Pc_1 {A : Ar} {j a b : Nat} {x y : Int32} (ha : a < 6) (hb : b < 6) (hab : a ≠ b) : kl (Pc A j a b x y) j a b = x := by
  unfold kl Pc
  rw [pk_un (fun z => hab (cx_inj hb ha z).1), up_at, if_pos rfl]
theorem Pc_2 {A : Ar} {j a b : Nat} {x y : Int32} : kl (Pc A j a b x y) j b a = y := by
  unfold kl Pc
  rw [up_at, if_pos rfl]
theorem Pc_o {A : Ar} {j a b p q : Nat} {x y : Int32} (ha : a < 6) (hb : b < 6) (hq : q < 6) (n1 : ¬ (p = a ∧ q = b)) (n2 : ¬ (p = b ∧ q = a)) : kl (Pc A j a b x y) j p q = kl A j p q := by
  unfold kl Pc
  rw [pk_un (fun z => n2 (cx_inj hq ha z)), pk_un (fun z => n1 (cx_inj hq hb z))]
theorem Pc_g {A : Ar} {j a b g w : Nat} {x y : Int32} (ha : a < 6) (hb : b < 6) (hg : g < 6) (hw : w < 13) : Pc A j a b x y (gx j g w) = A (gx j g w) := Pc_k (by unfold ix gx; omega) ha hb
theorem Pc_i {A : Ar} {j a b k : Nat} {x y : Int32} (ha : a < 6) (hb : b < 6) (hk : k < 85) : Pc A j a b x y (ix j k) = A (ix j k) := Pc_k (by unfold ix; omega) ha hb
/-- all old conflicts are kept: only the new one can bar -/
theorem rsn_one {c3 c4 c5 : Nat → Bool} {n b : Nat} (hb : b < n) (h : ∀ o, o < n → o ≠ b → c3 o = false ∧ c4 o = false ∧ c5 o = false) : rsn c3 c4 c5 n = pick (c3 b) (c4 b) (c5 b) := by
  have key : ∀ c : Nat → Bool, (∀ o, o < n → o ≠ b → c o = false) → (!al (fun o => !c o) n) = c b := by
    intro c hc
    cases e : c b
    · have : al (fun o => !c o) n = true := al_T.mpr (fun i hi => by
        by_cases z : i = b
        · subst z; rw [e]; rfl
        · rw [hc i hi z]; rfl)
      rw [this]; rfl
    · cases z : al (fun o => !c o) n
      · rfl
      · have := al_T.mp z b hb
        rw [e] at this
        cases this
  unfold rsn
  rw [key c3 (fun o h1 h2 => (h o h1 h2).1), key c4 (fun o h1 h2 => (h o h1 h2).2.1), key c5 (fun o h1 h2 => (h o h1 h2).2.2)]
def cfw (A : Ar) (j p a b : Nat) (x y : Int32) : Int32 := if gr A j p a && gr A j p b then clash (A 0) (fs A j p a) (ln A j p a) (fs A j p b) (ln A j p b) x y else 0
theorem NC_not {A : Ar} {j : Nat} (v : VJ A j) {p a o : Nat} (hp : p < 2) (ha : a < 6) (ho : o < 6) (h1 : 0 ≤ kl A j a o) (h2 : 0 < ln A j p a) (h3 : 0 < ln A j p o) : mt (A 0) (fs A j p a) (ln A j p a) (fs A j p o) (ln A j p o) = false ∧ decide (wr (fs A j p a - fs A j p o - ln A j p o) (A 0) < kl A j o a) = false ∧ decide (wr (fs A j p o - fs A j p a - ln A j p a) (A 0) < kl A j a o) = false := by
  have c1 := (v.2.2.2.2.2.2.2 a ha o ho).2.2.2 h1 p hp h2 h3
  have h4 := (v.2.2.2.2.2.2.2 a ha o ho).2.1 h1
  have c2 := (v.2.2.2.2.2.2.2 o ho a ha).2.2.2 h4 p hp h3 h2
  unfold mt
  rw [Bool.or_eq_false_iff, decide_eq_false_iff_not, decide_eq_false_iff_not, decide_eq_false_iff_not, decide_eq_false_iff_not]
  simp only [ti_le, ti_lt] at c1 c2 ⊢
  omega
theorem Val.BD {A : Ar} (V : Val A) {j : Nat} (hj : j < 4) (hl : nI j < A 2) {p n : Nat} (hp : p < 2) (h6 : n ≤ 6) : BD A j p n :=
  ⟨V.1.1, fun o ho => by
    have := ((V.2.1 j hj hl).2.2.2.2.2.2.1 o (by omega)).2.2.2.2.2.2.2.1 p hp
    exact ⟨this.1, this.2.1.1, by have := this.2.1.2; omega⟩⟩
theorem m_barred_c {K : Mem} {A : Ar} (V : Val A) {j : Nat} (hj : j < 4) (hl : nI j < A 2) {p a b n : Nat} {x y : Int32} (hp : p < 2) (ha : a < n) (hb : b < n) (hab : a ≠ b) (hn : A (ix j 2) = nI n) (h6 : n ≤ 6) (hx : 0 ≤ x) (hk : K 1 = Pc A j a b x y) : fX10_barred K (nI j) (nI p) (nI a) = some (cfw A j p a b x y) := by
  have v := V.2.1 j hj hl
  have eg : ∀ g w, g < 6 → w < 13 → Pc A j a b x y (gx j g w) = A (gx j g w) := fun g w hg hw => Pc_g (by omega) (by omega) hg hw
  have ef : ∀ o, o < 6 → fs (Pc A j a b x y) j p o = fs A j p o := fun o ho => eg o _ ho (by omega)
  have el : ∀ o, o < 6 → ln (Pc A j a b x y) j p o = ln A j p o := fun o ho => eg o _ ho (by omega)
  have e0 : Pc A j a b x y 0 = A 0 := Pc_k (by unfold ix; omega) (by omega) (by omega)
  have hbd : BD (K 1) j p n := by
    have q := V.BD hj hl hp h6
    rw [hk]
    refine ⟨by rw [e0]; exact q.1, fun o ho => ?_⟩
    rw [ef o (by omega), el o (by omega), e0]; exact q.2 o ho
  rw [m_barred hj (by rw [hk, Pc_i (by omega) (by omega) (by omega)]; exact hn) h6 hp ha hbd, hk, el a (by omega)]
  have egr : ∀ o, o < 6 → gr (Pc A j a b x y) j p o = gr A j p o := fun o ho => by unfold gr; rw [el o ho]
  have la0 := ln0 v hp (show a < 6 by omega)
  unfold cfw
  by_cases z : ln A j p a = 0
  · rw [if_pos z, la0, decide_eq_true z]; rfl
  · rw [if_neg z, la0, decide_eq_false z]
    have hga : 0 < ln A j p a := by
      have : gr A j p a = true := by rw [la0, decide_eq_false z]; rfl
      exact of_decide_eq_true this
    have other : ∀ r, ∀ o, o < n → o ≠ b → (3 ≤ r ∧ r ≤ 5) → bq (Pc A j a b x y) j p a r o = false := by
      intro r o ho hob hr
      unfold bq
      by_cases e : o = a
      · rw [decide_eq_true e]; rfl
      · have k1 : kl (Pc A j a b x y) j a o = kl A j a o := Pc_o (by omega) (by omega) (by omega) (by omega) (by omega)
        have k2 : kl (Pc A j a b x y) j o a = kl A j o a := Pc_o (by omega) (by omega) (by omega) (by omega) (by omega)
        have kc : cf (Pc A j a b x y) j a o = cf A j a o := by unfold cf; rw [k1]
        rw [kc, egr o (by omega), ef a (by omega), el a (by omega), ef o (by omega), el o (by omega), k1, k2, e0]
        by_cases c1 : 0 ≤ kl A j a o
        · by_cases c2 : 0 < ln A j p o
          · obtain ⟨n1, n2, n3⟩ := NC_not v hp (show a < 6 by omega) (show o < 6 by omega) c1 hga c2
            rcases (show r = 3 ∨ r = 4 ∨ r = 5 by omega) with rfl | rfl | rfl
            · rw [if_pos rfl, n1, Bool.and_false]
            · rw [if_neg (by omega), if_pos rfl, n2, Bool.and_false]
            · rw [if_neg (by omega), if_neg (by omega), n3, Bool.and_false]
          · rw [show gr A j p o = false from decide_eq_false c2, Bool.and_false, Bool.and_false, Bool.false_and]
        · rw [show cf A j a o = false from decide_eq_false c1, Bool.false_and, Bool.and_false, Bool.false_and]
    rw [rsn_one hb (fun o h1 h2 => ⟨other 3 o h1 h2 (by omega), other 4 o h1 h2 (by omega), other 5 o h1 h2 (by omega)⟩)]
    have kcb : cf (Pc A j a b x y) j a b = true := by unfold cf; rw [Pc_1 (by omega) (by omega) hab]; exact decide_eq_true hx
    have q3 : bq (Pc A j a b x y) j p a 3 b = (gr A j p b && mt (A 0) (fs A j p a) (ln A j p a) (fs A j p b) (ln A j p b)) := by
      unfold bq
      rw [decide_eq_false (fun z => hab z.symm), kcb, egr b (by omega), ef a (by omega), el a (by omega), ef b (by omega), el b (by omega), e0]; rfl
    have q4 : bq (Pc A j a b x y) j p a 4 b = (gr A j p b && decide (wr (fs A j p a - fs A j p b - ln A j p b) (A 0) < y)) := by
      unfold bq
      rw [decide_eq_false (fun z => hab z.symm), kcb, egr b (by omega), ef a (by omega), ef b (by omega), el b (by omega), e0, Pc_2]; rfl
    have q5 : bq (Pc A j a b x y) j p a 5 b = (gr A j p b && decide (wr (fs A j p b - fs A j p a - ln A j p a) (A 0) < x)) := by
      unfold bq
      rw [decide_eq_false (fun z => hab z.symm), kcb, egr b (by omega), ef a (by omega), el a (by omega), ef b (by omega), e0, Pc_1 (by omega) (by omega) hab]; rfl
    rw [q3, q4, q5]
    unfold clash
    cases gr A j p b <;> rfl
theorem x_reasonC {M : Mem} {J : Nat} {A : Ar} {j : Nat} (h : RJ M J A j) {a b : Nat} (ha : a < 6) (hb : b < 6) (x y : Int32) (hc : 0 < (A 0).toInt) : fX2_reasonAgainstConflict M J (nI a) (nI b) x y (A 0) = some (if cfw A j 0 a b x y = 0 then cfw A j 1 a b x y else cfw A j 0 a b x y) := by
  unfold fX2_reasonAgainstConflict
  have step : ∀ i, i < 2 → ∀ k : Int32 → Option Int32, fX2_reasonAgainstConflict_L1 J (nI a) (nI b) x y (A 0) M k (nI i) = if cfw A j i a b x y = 0 then k (nI (i + 1)) else some (cfw A j i a b x y) := fun i hi k => by
    simp only [fX2_reasonAgainstConflict_L1]
    rw [if_neg (show ¬ (2 : Int32) ≤ nI i from nI_ge (b := 2) hi (by omega)), x_green h hi ha, clp_e, jn_e, b01_ite, x_green h hi hb, clp_e, b01_ite, x_first h hi ha, clp_e, x_length h hi ha, clp_e, i6, x_clash h hi hb _ _ _ _ hc, clp_e]
    simp only [bnd_e, nI_1]
    unfold cfw
    cases gr A j i a <;> cases gr A j i b <;> simp
  have main := lp_srch (f := fX2_reasonAgainstConflict_L1 J (nI a) (nI b) x y (A 0) M) (s0 := (0 : Int32)) (fun i => nI i) (fun i => decide (cfw A j i a b x y = 0)) (rt := some (0 : Int32)) (rf := fun i => some (cfw A j i a b x y)) 2 (by omega) rfl (fun i hi ht k => by rw [step i hi k, if_pos (of_decide_eq_true ht)]) (fun i hi ht k => by rw [step i hi k, if_neg (of_decide_eq_false ht)]) (fun k => by
    simp only [fX2_reasonAgainstConflict_L1]
    rw [if_pos (by decide)])
  rcases main with ⟨m1, m2⟩ | ⟨i, m1, m2, m3, m4⟩
  · rw [m2, if_pos (of_decide_eq_true (al_T.mp m1 0 (by omega))), of_decide_eq_true (al_T.mp m1 1 (by omega))]
  · rw [m4]
    rcases (show i = 0 ∨ i = 1 by omega) with rfl | rfl
    · rw [if_neg (of_decide_eq_false m2)]
    · rw [if_pos (of_decide_eq_true (m3 0 (by omega)))]
theorem cfw_bt (A : Ar) (j p a b : Nat) (x y : Int32) : bt (cfw A j p a b x y) 0 8 := by
  unfold cfw
  split
  · have key : ∀ x y z : Bool, 0 ≤ (pick x y z).toInt ∧ (pick x y z).toInt ≤ 8 := by decide
    exact key _ _ _
  · unfold bt; decide
