/-! validity of a junction after a write -/
theorem V_ix {A : Ar} {j k : Nat} {v : Int32} (hk : k = 1 ∨ k = 3 ∨ k = 4 ∨ k = 5 ∨ k = 6) (h : VJ A j) (b1 : k = 1 → bt v 0 ((A 0).toInt - 1)) (b3 : k = 3 → bt v 0 1) (b4 : k = 4 → bt v (-1) 200000) (b5 : k = 5 ∨ k = 6 → bt v (-1) ((A (ix j 2)).toInt - 1)) : VJ (upd A (ix j k) v) j := by
  obtain ⟨v1, v2, v3, v4, v5, v6, v7, v8⟩ := h
  have e0 : upd A (ix j k) v 0 = A 0 := pk_un (by unfold ix; omega)
  have e3 : upd A (ix j k) v 3 = A 3 := pk_un (by unfold ix; omega)
  have eo : ∀ w, w ≠ k → upd A (ix j k) v (ix j w) = A (ix j w) := fun w hw => pk_un (by unfold ix; omega)
  have eh : upd A (ix j k) v (ix j k) = v := by rw [up_at, if_pos rfl]
  have eg : ∀ g w, upd A (ix j k) v (gx j g w) = A (gx j g w) := fun g w => pk_un (by unfold ix gx; omega)
  have ec : ∀ a b, kl (upd A (ix j k) v) j a b = kl A j a b := fun a b => pk_un (by unfold ix cx; omega)
  refine ⟨by rw [eo 0 (by omega)]; exact v1, ?_, by rw [eo 2 (by omega)]; exact v3, ?_, ?_, fun d hd => ?_, fun g hg => VG_cong e0 e3 (eo 2 (by omega)) (fun w _ => eg g w) (v7 g hg), fun a ha b hb => VC_cong e0 (eo 2 (by omega)) (ec a b) (ec b a) (fun _ p hp => ⟨eg _ _, eg _ _, eg _ _, eg _ _⟩) (v8 a ha b hb)⟩
  · by_cases c : k = 1
    · subst c; rw [eh, e0]; exact b1 rfl
    · rw [eo 1 (by omega), e0]; exact v2
  · by_cases c : k = 3
    · subst c; rw [eh]; exact b3 rfl
    · rw [eo 3 (by omega)]; exact v4
  · by_cases c : k = 4
    · subst c; rw [eh]; exact b4 rfl
    · rw [eo 4 (by omega)]; exact v5
  · rw [eo 2 (by omega)]
    by_cases c : 5 + d = k
    · subst c; rw [eh]; exact b5 (by omega)
    · rw [eo (5 + d) c]; exact v6 d hd
theorem gx_inj {j g g' w w' : Nat} (hw : w < 13) (hw' : w' < 13) (h : gx j g w = gx j g' w') : g = g' ∧ w = w' := by
  unfold gx at h
  rcases Nat.lt_trichotomy g g' with z | z | z <;> omega
theorem V_gx {A : Ar} {j g w : Nat} {v : Int32} (hg : g < 6) (hl : nI g < A (ix j 2)) (hw : 3 ≤ w ∧ w < 9) (h : VJ A j) (b3 : w = 3 → bt v 0 (A 3).toInt) (b4 : w = 4 → bt v (-1) (A 3).toInt) (b5 : w = 5 → bt v 0 1) (b6 : 6 ≤ w → bt v (-1) 3) : VJ (upd A (gx j g w) v) j := by
  obtain ⟨v1, v2, v3, v4, v5, v6, v7, v8⟩ := h
  have e0 : upd A (gx j g w) v 0 = A 0 := pk_un (by unfold gx; omega)
  have e3 : upd A (gx j g w) v 3 = A 3 := pk_un (by unfold gx; omega)
  have ei : ∀ k, k < 7 → upd A (gx j g w) v (ix j k) = A (ix j k) := fun k hk => pk_un (by unfold ix gx; omega)
  have eh : upd A (gx j g w) v (gx j g w) = v := by rw [up_at, if_pos rfl]
  have eg : ∀ q r, r < 13 → ¬ (q = g ∧ r = w) → upd A (gx j g w) v (gx j q r) = A (gx j q r) := fun q r hr hn => pk_un (fun z => hn (gx_inj hr (by omega) z))
  have ec : ∀ a b, a < 6 → b < 6 → kl (upd A (gx j g w) v) j a b = kl A j a b := fun a b _ _ => pk_un (by unfold gx cx; omega)
  refine ⟨by rw [ei 0 (by omega)]; exact v1, by rw [ei 1 (by omega), e0]; exact v2, by rw [ei 2 (by omega)]; exact v3, by rw [ei 3 (by omega)]; exact v4, by rw [ei 4 (by omega)]; exact v5, fun d hd => by rw [ei (5 + d) (by omega), ei 2 (by omega)]; exact v6 d hd, fun q hq => ?_, fun a ha b hb => VC_cong e0 (ei 2 (by omega)) (ec a b ha hb) (ec b a hb ha) (fun _ p hp => ⟨eg _ _ (by omega) (by omega), eg _ _ (by omega) (by omega), eg _ _ (by omega) (by omega), eg _ _ (by omega) (by omega)⟩) (v8 a ha b hb)⟩
  by_cases c : q = g
  · subst c
    obtain ⟨g0, g1, g2, g3, g4, g5, g6, g7, g8, g9⟩ := v7 q hq
    refine ⟨by rw [eg q 0 (by omega) (by omega)]; exact g0, by rw [eg q 1 (by omega) (by omega)]; exact g1, by rw [eg q 2 (by omega) (by omega)]; exact g2, ?_, ?_, ?_, fun p hp => ?_, fun p hp => ?_, fun _ => by rw [eg q 1 (by omega) (by omega)]; exact g8 hl, fun hn => absurd hl (by rw [← ei 2 (by omega)]; exact hn)⟩
    · by_cases d : w = 3
      · subst d; rw [eh, e3]; exact b3 rfl
      · rw [eg q 3 (by omega) (by omega), e3]; exact g3
    · by_cases d : w = 4
      · subst d; rw [eh, e3]; exact b4 rfl
      · rw [eg q 4 (by omega) (by omega), e3]; exact g4
    · by_cases d : w = 5
      · subst d; rw [eh]; exact b5 rfl
      · rw [eg q 5 (by omega) (by omega)]; exact g5
    · by_cases d : w = 6 + p
      · subst d; rw [eh]; exact b6 (by omega)
      · rw [eg q (6 + p) (by omega) (by omega)]; exact g6 p hp
    · unfold fs ln
      rw [eg q (9 + 2 * p) (by omega) (by omega), eg q (10 + 2 * p) (by omega) (by omega), e0]; exact g7 p hp
  · exact VG_cong e0 e3 (ei 2 (by omega)) (fun r hr => eg q r hr (fun z => c z.1)) (v7 q hq)
/-- two greens that don't clash -/
def NC (c fa la fb lb k : Int32) : Prop := la ≤ wr (fb - fa) c ∧ lb ≤ wr (fa - fb) c ∧ k ≤ wr (fb - fa - la) c
theorem cx_inj {j a b a' b' : Nat} (hb : b < 6) (hb' : b' < 6) (h : cx j a b = cx j a' b') : a = a' ∧ b = b' := by
  unfold cx at h
  rcases Nat.lt_trichotomy a a' with z | z | z <;> omega
theorem V_cl {A : Ar} {j a b : Nat} {x y : Int32} (ha : a < 6) (hb : b < 6) (hab : a ≠ b) (hla : nI a < A (ix j 2)) (hlb : nI b < A (ix j 2)) (h : VJ A j) (hx : bt x (-1) 20) (hy : bt y (-1) 20) (hxy : 0 ≤ x ↔ 0 ≤ y) (hn : 0 ≤ x → ∀ p, p < 2 → 0 < ln A j p a → 0 < ln A j p b → NC (A 0) (fs A j p a) (ln A j p a) (fs A j p b) (ln A j p b) x ∧ NC (A 0) (fs A j p b) (ln A j p b) (fs A j p a) (ln A j p a) y) : VJ (upd (upd A (cx j a b) x) (cx j b a) y) j := by
  obtain ⟨v1, v2, v3, v4, v5, v6, v7, v8⟩ := h
  obtain ⟨A', hA'⟩ : ∃ z, z = upd (upd A (cx j a b) x) (cx j b a) y := ⟨_, rfl⟩
  rw [← hA']
  have el : ∀ k, k < ix j 85 → A' k = A k := fun k hk => by
    rw [hA', pk_un (by unfold ix at hk; unfold cx; omega), pk_un (by unfold ix at hk; unfold cx; omega)]
  have e1 : kl A' j a b = x := by
    unfold kl
    rw [hA', pk_un (fun z => hab (cx_inj hb ha z).1), up_at, if_pos rfl]
  have e2 : kl A' j b a = y := by
    unfold kl
    rw [hA', up_at, if_pos rfl]
  have eo : ∀ p q, p < 6 → q < 6 → ¬ (p = a ∧ q = b) → ¬ (p = b ∧ q = a) → kl A' j p q = kl A j p q := fun p q hp hq n1 n2 => by
    unfold kl
    rw [hA', pk_un (fun z => n2 (cx_inj hq ha z)), pk_un (fun z => n1 (cx_inj hq hb z))]
  have eg : ∀ g w, g < 6 → w < 13 → A' (gx j g w) = A (gx j g w) := fun g w _ _ => el _ (by unfold ix gx; omega)
  have ei : ∀ k, k < 85 → A' (ix j k) = A (ix j k) := fun k _ => el _ (by unfold ix; omega)
  have e0 : A' 0 = A 0 := el 0 (by unfold ix; omega)
  have e3 : A' 3 = A 3 := el 3 (by unfold ix; omega)
  refine ⟨by rw [ei 0 (by omega)]; exact v1, by rw [ei 1 (by omega), e0]; exact v2, by rw [ei 2 (by omega)]; exact v3, by rw [ei 3 (by omega)]; exact v4, by rw [ei 4 (by omega)]; exact v5, fun d hd => by rw [ei (5 + d) (by omega), ei 2 (by omega)]; exact v6 d hd, fun q hq => VG_cong e0 e3 (ei 2 (by omega)) (fun w hw => eg q w hq hw) (v7 q hq), fun p hp q hq => ?_⟩
  by_cases c1 : p = a ∧ q = b
  · obtain ⟨rfl, rfl⟩ := c1
    refine ⟨by rw [e1]; exact hx, by rw [e1, e2]; exact hxy.mp, by rw [e1, ei 2 (by omega)]; exact fun _ => ⟨hab, hla, hlb⟩, ?_⟩
    rw [e1]
    intro h r hr l1 l2
    have f1 : ∀ g, g < 6 → fs A' j r g = fs A j r g := fun g hg => eg g _ hg (by omega)
    have f2 : ∀ g, g < 6 → ln A' j r g = ln A j r g := fun g hg => eg g _ hg (by omega)
    rw [f2 p hp] at l1
    rw [f2 q hq] at l2
    rw [f1 p hp, f1 q hq, f2 p hp, f2 q hq, e0]
    exact (hn h r hr l1 l2).1
  · by_cases c2 : p = b ∧ q = a
    · obtain ⟨rfl, rfl⟩ := c2
      refine ⟨by rw [e2]; exact hy, by rw [e1, e2]; exact hxy.mpr, by rw [e2, ei 2 (by omega)]; exact fun _ => ⟨fun z => hab z.symm, hlb, hla⟩, ?_⟩
      rw [e2]
      intro h r hr l1 l2
      have f1 : ∀ g, g < 6 → fs A' j r g = fs A j r g := fun g hg => eg g _ hg (by omega)
      have f2 : ∀ g, g < 6 → ln A' j r g = ln A j r g := fun g hg => eg g _ hg (by omega)
      rw [f2 p hp] at l1
      rw [f2 q hq] at l2
      rw [f1 p hp, f1 q hq, f2 p hp, f2 q hq, e0]
      exact (hn (hxy.mpr h) r hr l2 l1).2
    · exact VC_cong e0 (ei 2 (by omega)) (eo p q hp hq c1 c2) (eo q p hq hp (fun z => c2 ⟨z.2, z.1⟩) (fun z => c1 ⟨z.2, z.1⟩)) (fun _ r hr => ⟨eg _ _ hp (by omega), eg _ _ hq (by omega), eg _ _ hp (by omega), eg _ _ hq (by omega)⟩) (v8 p hp q hq)
theorem V_gr {A : Ar} {j p g : Nat} {f l : Int32} (hp : p < 2) (hg : g < 6) (hl : nI g < A (ix j 2)) (h : VJ A j) (hf : bt f 0 ((A 0).toInt - 1)) (hll : bt l 0 (A 0).toInt) (hz : l = 0 → f = 0) (hn : 0 < l → ∀ o, o < 6 → 0 ≤ kl A j g o → 0 < ln A j p o → NC (A 0) f l (fs A j p o) (ln A j p o) (kl A j g o) ∧ NC (A 0) (fs A j p o) (ln A j p o) f l (kl A j o g)) : VJ (upd (upd A (gx j g (9 + 2 * p)) f) (gx j g (10 + 2 * p)) l) j := by
  obtain ⟨v1, v2, v3, v4, v5, v6, v7, v8⟩ := h
  obtain ⟨A', hA'⟩ : ∃ z, z = upd (upd A (gx j g (9 + 2 * p)) f) (gx j g (10 + 2 * p)) l := ⟨_, rfl⟩
  rw [← hA']
  have ef : fs A' j p g = f := by
    unfold fs; rw [hA', pk_un (fun z => by have := (gx_inj (by omega) (by omega) z).2; omega), up_at, if_pos rfl]
  have el : ln A' j p g = l := by
    unfold ln; rw [hA', up_at, if_pos rfl]
  have eg : ∀ q w, w < 13 → ¬ (q = g ∧ (w = 9 + 2 * p ∨ w = 10 + 2 * p)) → A' (gx j q w) = A (gx j q w) := fun q w hw hn => by
    rw [hA', pk_un (fun z => hn (by have := gx_inj hw (by omega) z; omega)), pk_un (fun z => hn (by have := gx_inj hw (by omega) z; omega))]
  have ei : ∀ k, k < 7 → A' (ix j k) = A (ix j k) := fun k hk => by
    rw [hA', pk_un (by unfold ix gx; omega), pk_un (by unfold ix gx; omega)]
  have ec : ∀ a b, a < 6 → b < 6 → kl A' j a b = kl A j a b := fun a b _ _ => by
    unfold kl; rw [hA', pk_un (by unfold gx cx; omega), pk_un (by unfold gx cx; omega)]
  have e0 : A' 0 = A 0 := by rw [hA', pk_un (by unfold gx; omega), pk_un (by unfold gx; omega)]
  have e3 : A' 3 = A 3 := by rw [hA', pk_un (by unfold gx; omega), pk_un (by unfold gx; omega)]
  have eF : ∀ r q, r < 2 → ¬ (r = p ∧ q = g) → fs A' j r q = fs A j r q ∧ ln A' j r q = ln A j r q := fun r q hr hn => ⟨eg q _ (by omega) (by omega), eg q _ (by omega) (by omega)⟩
  refine ⟨by rw [ei 0 (by omega)]; exact v1, by rw [ei 1 (by omega), e0]; exact v2, by rw [ei 2 (by omega)]; exact v3, by rw [ei 3 (by omega)]; exact v4, by rw [ei 4 (by omega)]; exact v5, fun d hd => by rw [ei (5 + d) (by omega), ei 2 (by omega)]; exact v6 d hd, fun q hq => ?_, fun a ha b hb => ?_⟩
  · by_cases c : q = g
    · subst c
      obtain ⟨g0, g1, g2, g3, g4, g5, g6, g7, g8, g9⟩ := v7 q hq
      refine ⟨by rw [eg q 0 (by omega) (by omega)]; exact g0, by rw [eg q 1 (by omega) (by omega)]; exact g1, by rw [eg q 2 (by omega) (by omega)]; exact g2, by rw [eg q 3 (by omega) (by omega), e3]; exact g3, by rw [eg q 4 (by omega) (by omega), e3]; exact g4, by rw [eg q 5 (by omega) (by omega)]; exact g5, fun r hr => by rw [eg q (6 + r) (by omega) (by omega)]; exact g6 r hr, fun r hr => ?_, fun _ => by rw [eg q 1 (by omega) (by omega)]; exact g8 hl, fun hn => absurd hl (by rw [← ei 2 (by omega)]; exact hn)⟩
      by_cases c : r = p
      · subst c; rw [ef, el, e0]; exact ⟨hf, hll, hz⟩
      · obtain ⟨x1, x2⟩ := eF r q hr (fun z => c z.1)
        rw [x1, x2, e0]; exact g7 r hr
    · exact VG_cong e0 e3 (ei 2 (by omega)) (fun w hw => eg q w hw (fun z => c z.1)) (v7 q hq)
  · obtain ⟨c1, c2, c3, c4⟩ := v8 a ha b hb
    refine ⟨by rw [ec a b ha hb]; exact c1, by rw [ec a b ha hb, ec b a hb ha]; exact c2, by rw [ec a b ha hb, ei 2 (by omega)]; exact c3, ?_⟩
    rw [ec a b ha hb, e0]
    intro h r hr l1 l2
    have hab := (c3 h).1
    by_cases cr : r = p
    · subst cr
      by_cases ca : a = g
      · subst ca
        have ob := eF r b hr (fun z => hab z.2.symm)
        rw [el] at l1
        rw [ob.2] at l2
        rw [ef, el, ob.1, ob.2]
        exact (hn l1 b hb h l2).1
      · have oa := eF r a hr (fun z => ca z.2)
        by_cases cb : b = g
        · subst cb
          rw [el] at l2
          rw [oa.2] at l1
          rw [ef, el, oa.1, oa.2]
          exact (hn l2 a ha (c2 h) l1).2
        · have ob := eF r b hr (fun z => cb z.2)
          rw [oa.2] at l1
          rw [ob.2] at l2
          rw [oa.1, oa.2, ob.1, ob.2]
          exact c4 h r hr l1 l2
    · have oa := eF r a hr (fun z => cr z.1)
      have ob := eF r b hr (fun z => cr z.1)
      rw [oa.2] at l1
      rw [ob.2] at l2
      rw [oa.1, oa.2, ob.1, ob.2]
      exact c4 h r hr l1 l2
