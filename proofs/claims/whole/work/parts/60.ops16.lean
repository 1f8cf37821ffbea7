/-! call: bestOffset (the two loops) -/
theorem cn_pick {fr g : Nat → Bool} {e : Nat → Int32} {G : Int32 → Bool} : ∀ c, (∀ t, t < c → fr t = true → G (e (cn fr t)) = g t) → cn (fun k => G (e k)) (cn fr c) = cn (fun t => fr t && g t) c
  | 0, _ => rfl
  | c + 1, h => by
    have ih := cn_pick (fr := fr) (g := g) (e := e) (G := G) c (fun t ht => h t (by omega))
    cases z : fr c
    · have e1 : cn fr (c + 1) = cn fr c := by show cn fr c + (if fr c = true then 1 else 0) = _; rw [z]; rfl
      have e2 : cn (fun t => fr t && g t) (c + 1) = cn (fun t => fr t && g t) c := by
        show cn _ c + (if (fr c && g c) = true then 1 else 0) = _
        rw [z]; rfl
      rw [e1, e2, ih]
    · have e1 : cn fr (c + 1) = cn fr c + 1 := by show cn fr c + (if fr c = true then 1 else 0) = _; rw [z]; rfl
      have e2 : cn (fun t => fr t && g t) (c + 1) = cn (fun t => fr t && g t) c + (if g c = true then 1 else 0) := by
        show cn _ c + (if (fr c && g c) = true then 1 else 0) = _
        rw [z, Bool.true_and]
      rw [e1, e2]
      show cn (fun k => G (e k)) (cn fr c) + (if G (e (cn fr c)) = true then 1 else 0) = _
      rw [ih, h c (by omega) z]
/-- best and greatest after some offsets -/
def bst (f : Nat → Nat) : Nat → Nat × Nat
  | 0 => (0, 0)
  | i + 1 => if f i ≤ (bst f i).2 then bst f i else (i, f i)
theorem bst_le {f : Nat → Nat} {m : Nat} (h : ∀ i, f i ≤ m) : ∀ i, (bst f i).2 ≤ m ∧ (bst f i).1 ≤ i
  | 0 => ⟨Nat.zero_le _, Nat.le_refl 0⟩
  | i + 1 => by
    have := bst_le h i
    unfold bst
    split
    · exact ⟨this.1, by omega⟩
    · exact ⟨h i, by show i ≤ i + 1; omega⟩
section BO
variable {M : Mem} {A : Ar}
theorem x_before (hR : RS M 1 A) (V : Val A) {n d j : Nat} (hn : A 2 = nI n) (hn4 : n ≤ 4) (hd : d < 2) (hj : j < n) : fX7_secondsBefore M 1 (nI j) (nI d) = some (fn A d n 0 (jd d n j + 1)) := by
  unfold fX7_secondsBefore
  have hi0 := jd_lt (d := d) hj
  have hjj := jd_jd (d := d) hj
  have stp : ∀ i, i < n → ∀ k : Int32 × Int32 → Option Int32, fX7_secondsBefore_L1 1 (nI j) (nI d) M k (fn A d n 0 i, nI i) = if nI (jd d n i) = nI j then some (fn A d n 0 (i + 1)) else k (fn A d n 0 (i + 1), nI (i + 1)) := fun i hi k => by
    simp only [fX7_secondsBefore_L1]
    rw [if_neg (by rw [hR.w3, hn]; exact nI_ge hi (by omega)), x_secondsTo hR V hn hn4 hd hi, clp_e, bnd_e, x_numberAt hR hn hn4 hd hi, clp_e]
    simp only [bnd_e, nI_1]
    rfl
  refine lp_at (fun i => (fn A d n 0 i, nI i)) (jd d n j) (by omega) rfl (fun i hi k => ?_) (fun k => ?_)
  · rw [stp i (by omega), if_neg]
    intro z
    have := (nI_eq (by have := jd_lt (d := d) (show i < n by omega); omega) (by omega)).mp z
    have := jd_inj (d := d) (show i < n by omega) hi0 (by rw [this, hjj])
    omega
  · rw [stp _ hi0, if_pos (by rw [hjj])]
theorem x_bandWith (hR : RS M 1 A) (V : Val A) {n d j m : Nat} (hn : A 2 = nI n) (hn4 : n ≤ 4) (hd : d < 2) (hj : j < n) (hp : pos A d n = true) (hm : m ≤ 120) (sh : Int32) : fX7_bandWith M 1 (nI j) (nI d) sh (nI m) = some (nI (cn (fun k => on A j (pl A j) (ro A d j) (M 471 k + sh)) m)) := by
  have hl := lj hn hn4 hj
  have hJ := V.2.1 j (by omega) hl
  unfold pos at hp
  rw [Bool.and_eq_true] at hp
  have hps := al_T.mp hp.1 j hj
  unfold psb at hps
  rw [Bool.and_eq_true, decide_eq_true_iff] at hps
  obtain ⟨r1, r2, r3⟩ := ro_e hJ hd hps.1
  obtain ⟨p1, p2⟩ := pl_e hJ
  unfold fX7_bandWith
  rw [grd_T (inb_nI (by omega) (by omega)), grd_T (inb_nI hd (by omega)), nI_clamp (by omega), nI_clamp (by omega), (hR.j (show j < 4 by omega)).rd hl hd, bnd_e, jn_e]
  refine lp_at (fun i => (nI (cn (fun k => on A j (pl A j) (ro A d j) (M 471 k + sh)) i), nI i)) m (by omega) rfl (fun i hi k => ?_) (fun k => ?_)
  · simp only [fX7_bandWith_L1]
    rw [if_neg (nI_ge hi (by omega)), if_neg (show ¬ (120 : Int32) ≤ nI i from nI_ge (b := 120) (by omega) (by omega)), grd_T (inb_nI (by omega) (by omega)), nI_clamp (show j < 2 ^ 31 by omega), nI_clamp (show i < 2 ^ 31 by omega), (hR.j (show j < 4 by omega)).w (show 3 < 4 by omega), hR.w0, p2, r2, x_on (hR.j (show j < 4 by omega)) p1 r1 _ V.c0, clp_e, jn_e, b01_ite]
    simp only [bnd_e, nI_1, cn]
    by_cases hb : on A j (pl A j) (ro A d j) (M 471 i + sh) = true <;> simp [hb, nI_1]
  · simp only [fX7_bandWith_L1]
    rw [if_pos (nI_le (Nat.le_refl _) (by omega))]
/-- how many trips pass everywhere with this offset -/
def bo (A : Ar) (d n j c : Nat) (o : Nat) : Nat := cn (fun t => al (frx A d n (nI j) (nI t)) n && pas A d j (fn A d n (nI t) (jd d n j + 1)) (nI o)) c
theorem x_best (hR : RS M 1 A) (V : Val A) {n d j c : Nat} (hn : A 2 = nI n) (hn4 : n ≤ 4) (hd : d < 2) (hj : j < n) (hp : pos A d n = true) (hc : A 0 = nI c) (hc120 : c ≤ 120) : ∃ M', fX7_bestOffsetFor M 1 (nI j) (nI d) = some (nI (bst (bo A d n j c) c).1, M') ∧ ∀ o, o ≠ 471 → M' o = M o := by
  have fr : ∃ F : Nat → Bool, F = fun t => al (frx A d n (nI j) (nI t)) n := ⟨_, rfl⟩
  obtain ⟨F, hF⟩ := fr
  -- the second loop, for any memory that the first one leaves
  have second : ∀ M' : Mem, (∀ o, o ≠ 471 → M' o = M o) → (∀ t, t < c → F t = true → M' 471 (cn F t) = nI t) → lp (fX7_bestOffsetFor_L1 1 (nI j) (nI d) (nI (cn F c), M') (fn A d n 0 (jd d n j + 1))) FU (0, 0, 0) = some (nI (bst (bo A d n j c) c).1, M') := fun M' h1 h2 => by
    have hR' : RS M' 1 A := RS_frame (fun o _ _ => h1 o (by omega)) hR
    have hcn := cn_le F c
    have hbo : ∀ o, bo A d n j c o ≤ 120 := fun o => Nat.le_trans (cn_le _ c) hc120
    have eb : ∀ o, cn (fun k => on A j (pl A j) (ro A d j) (M' 471 k + (fn A d n 0 (jd d n j + 1) - nI o))) (cn F c) = bo A d n j c o := fun o => by
      have := cn_pick (fr := F) (g := fun t => pas A d j (fn A d n (nI t) (jd d n j + 1)) (nI o)) (e := fun k => M' 471 k) (G := fun x => on A j (pl A j) (ro A d j) (x + (fn A d n 0 (jd d n j + 1) - nI o))) c (fun t ht hf => by
        rw [h2 t ht hf]
        unfold pas
        rw [fn_add A d n (nI t), show nI t + (fn A d n 0 (jd d n j + 1) - nI o) = nI t + fn A d n 0 (jd d n j + 1) - nI o by simp only [Int32.sub_eq_add_neg, Int32.add_assoc]])
      rw [this, hF]; rfl
    refine lp_at (fun i => (nI (bst (bo A d n j c) i).1, nI (bst (bo A d n j c) i).2, nI i)) c (by omega) rfl (fun i hi k => ?_) (fun k => ?_)
    · simp only [fX7_bestOffsetFor_L1]
      rw [if_neg (by rw [hR'.w0, hc]; exact nI_ge hi (by omega)), x_bandWith hR' V hn hn4 hd hj hp (by omega), clp_e, eb, jn_e]
      simp only [bnd_e, nI_1]
      have hb2 := (bst_le hbo i).1
      have hb3 := hbo i
      by_cases hx : bo A d n j c i ≤ (bst (bo A d n j c) i).2
      · rw [if_pos (nI_le hx (by omega))]
        have : bst (bo A d n j c) (i + 1) = bst (bo A d n j c) i := by unfold bst; rw [if_pos hx]; cases i <;> rfl
        rw [this]
      · rw [if_neg (nI_ge (by omega) (by omega))]
        have : bst (bo A d n j c) (i + 1) = (i, bo A d n j c i) := by
          show (if bo A d n j c i ≤ (bst (bo A d n j c) i).2 then _ else _) = _
          rw [if_neg hx]
        rw [this]
    · simp only [fX7_bestOffsetFor_L1]
      rw [if_pos (by rw [hR'.w0, hc]; exact nI_le (Nat.le_refl _) (by omega))]
  unfold fX7_bestOffsetFor
  rw [jn_e]
  have main := lp_inv (f := fX7_bestOffsetFor_L2 1 (nI j) (nI d) (fun a1 => clp (fX7_secondsBefore a1.2 1 (nI j) (nI d)) (fun x3 => lp (fX7_bestOffsetFor_L1 1 (nI j) (nI d) a1 x3) FU (0, 0, 0)))) (fun i (s : Int32 × Int32 × Mem) => s.1 = nI (cn F i) ∧ s.2.1 = nI i ∧ (∀ o, o ≠ 471 → s.2.2 o = M o) ∧ ∀ t, t < i → F t = true → s.2.2 471 (cn F t) = nI t) (fun r => ∃ M', r = some (nI (bst (bo A d n j c) c).1, M') ∧ ∀ o, o ≠ 471 → M' o = M o) c (by omega) (fun i hi s hs => Or.inl (by
      obtain ⟨x, y, K⟩ := s
      obtain ⟨h1, h2, h3, h4⟩ := hs
      dsimp only at h1 h2 h3 h4
      subst h1; subst h2
      have hR' : RS K 1 A := RS_frame (fun o _ _ => h3 o (by omega)) hR
      have hcn := cn_le F i
      cases z : F i
      · refine ⟨(nI (cn F (i + 1)), nI (i + 1), K), ⟨rfl, rfl, h3, fun t ht hf => ?_⟩, fun k => ?_⟩
        · by_cases e : t = i
          · subst e; rw [z] at hf; cases hf
          · exact h4 t (by omega) hf
        · simp only [fX7_bestOffsetFor_L2]
          rw [if_neg (by rw [hR'.w0, hc]; exact nI_ge hi (by omega)), if_neg (show ¬ (120 : Int32) ≤ nI i from nI_ge (b := 120) (by omega) (by omega)), x_isFree hR' V hn hn4 hd hp, clp_e, jn_e, b01_ite, show al (frx A d n (nI j) (nI i)) n = false by rw [hF] at z; exact z, if_neg (by decide)]
          simp only [bnd_e, nI_1]
          have : cn F (i + 1) = cn F i := by show cn F i + (if F i = true then 1 else 0) = _; rw [z]; rfl
          rw [this]
      · have e1 : cn F (i + 1) = cn F i + 1 := by show cn F i + (if F i = true then 1 else 0) = _; rw [z]; rfl
        refine ⟨(nI (cn F (i + 1)), nI (i + 1), mset K 471 (cn F i) (nI i)), ⟨rfl, rfl, fun o ho => (ms_other _ _ _ ho).trans (h3 o ho), fun t ht hf => ?_⟩, fun k => ?_⟩
        · show mset K 471 _ _ 471 _ = _
          rw [ms_at]
          by_cases e : t = i
          · subst e; rw [if_pos ⟨rfl, rfl⟩]
          · have hlt : cn F t < cn F i := by
              have mono : ∀ a b, a ≤ b → cn F a ≤ cn F b := fun a b hab => by
                induction b with
                | zero => have : a = 0 := by omega
                          subst this; exact Nat.le_refl _
                | succ b ih =>
                  by_cases q : a = b + 1
                  · subst q; exact Nat.le_refl _
                  · have := ih (by omega)
                    show _ ≤ cn F b + _
                    omega
              have h5 := mono (t + 1) i (by omega)
              have h6 : cn F (t + 1) = cn F t + 1 := by show cn F t + (if F t = true then 1 else 0) = _; rw [hf]; rfl
              omega
            rw [if_neg (by omega)]; exact h4 t (by omega) hf
        · simp only [fX7_bestOffsetFor_L2]
          rw [if_neg (by rw [hR'.w0, hc]; exact nI_ge hi (by omega)), if_neg (show ¬ (120 : Int32) ≤ nI i from nI_ge (b := 120) (by omega) (by omega)), x_isFree hR' V hn hn4 hd hp, clp_e, jn_e, b01_ite, show al (frx A d n (nI j) (nI i)) n = true by rw [hF] at z; exact z, if_pos rfl, grd_T (inb_nI (by omega) (by omega)), nI_clamp (by omega), bnd_e, bnd_e]
          simp only [bnd_e, nI_1]
          rw [e1])) (fun s hs => by
      obtain ⟨x, y, K⟩ := s
      obtain ⟨h1, h2, h3, h4⟩ := hs
      dsimp only at h1 h2 h3 h4
      subst h1; subst h2
      have hR' : RS K 1 A := RS_frame (fun o _ _ => h3 o (by omega)) hR
      refine ⟨some (nI (bst (bo A d n j c) c).1, K), ⟨K, rfl, h3⟩, fun k => ?_⟩
      simp only [fX7_bestOffsetFor_L2]
      rw [if_pos (by rw [hR'.w0, hc]; exact nI_le (Nat.le_refl _) (by omega)), x_before hR' V hn hn4 hd hj, clp_e]
      exact second K h3 h4) (0, 0, M) ⟨rfl, rfl, fun _ _ => rfl, fun t ht => absurd ht (by omega)⟩
  exact main
end BO
