/-! call: run : seconds of the class, the call -/
section P77
variable {A : Ar}
theorem isum4 (d : Nat → Int32) {c : Nat} (h4 : c ≤ 4) : isum d c = isum (fun j => if j < c then d j else 0) 4 := by
  rcases (show c = 0 ∨ c = 1 ∨ c = 2 ∨ c = 3 ∨ c = 4 by omega) with rfl | rfl | rfl | rfl | rfl <;> simp [isum]
theorem ac4 (a b c d x y z w : Int32) : (a + x) + (b + y) + (c + z) + (d + w) = (a + b + c + d) + ((((0 + x) + y) + z) + w) := by
  rw [Int32.zero_add]; ac_rfl
theorem lp_traj {S β γ : Type} {f : γ → (S → Option β) → S → Option β} (I : Nat → S → Prop) (N : Nat) (hN : N < 100000) (hs : ∀ i, i < N → ∀ s, I i s → ∃ s', I (i + 1) s' ∧ ∀ g k, f g k s = k s') (s : S) (h0 : I 0 s) : ∃ s', I N s' ∧ ∀ g r, (∀ k, f g k s' = r) → lp (f g) FU s = r := by
  have key : ∀ d i s, N - i = d → i ≤ N → I i s → ∃ s', I N s' ∧ ∀ g r F, d < F → (∀ k, f g k s' = r) → lp (f g) F s = r := by
    intro d
    induction d with
    | zero =>
      intro i s h1 h2 h3
      have e : i = N := by omega
      subst e
      refine ⟨s, h3, fun g r F hF hk => ?_⟩
      obtain ⟨F, rfl⟩ : ∃ z, F = z + 1 := ⟨F - 1, by omega⟩
      exact hk _
    | succ d ih =>
      intro i s h1 h2 h3
      obtain ⟨s1, a, b⟩ := hs i (by omega) s h3
      obtain ⟨s', c, e⟩ := ih (i + 1) s1 (by omega) (by omega) a
      refine ⟨s', c, fun g r F hF hk => ?_⟩
      obtain ⟨F, rfl⟩ : ∃ z, F = z + 1 := ⟨F - 1, by omega⟩
      show f g (lp (f g) F) s = r
      rw [b]
      exact e g r F (by omega) hk
  obtain ⟨s', a, b⟩ := key N 0 s (Nat.sub_zero N) (Nat.zero_le _) h0
  exact ⟨s', a, fun g r hk => b g r FU hN hk⟩
/-- one second of the class: the loop over its junctions -/
theorem x_loop {M : Mem} (V : Val A) (hR : RS M 1 A) {c : Nat} (hc : A 2 = nI c) (h4 : c ≤ 4) (x : Int32) : ∃ K : Mem, XF M K ∧ K 1 = M 1 ∧ (∀ j, j < c → RJ K (1 + 2 + 10 * j) (lja (chg A j) j) j ∧ K (1 + 2 + 10 * j) 5 = M (1 + 2 + 10 * j) 5 + sdo (chg A j) j ∧ K (1 + 2 + 10 * j) 6 = M (1 + 2 + 10 * j) 6 + dWo (chg A j) j) ∧ (∀ j, c ≤ j → ∀ o, o < 10 → K (1 + 2 + 10 * j + o) = M (1 + 2 + 10 * j + o)) ∧ ∀ k4, lp (fX6_letPass_L1 1 k4) FU (x, 0, M) = k4 (x + isum (fun j => sdo (chg A j) j) c, K) := by
  have step : ∀ i, i < c → ∀ t : Int32 × Int32 × Mem, (fun i (t : Int32 × Int32 × Mem) => t.1 = x + isum (fun j => sdo (chg A j) j) i ∧ t.2.1 = nI i ∧ XF M t.2.2 ∧ t.2.2 1 = M 1 ∧ (∀ j, j < i → RJ t.2.2 (1 + 2 + 10 * j) (lja (chg A j) j) j ∧ t.2.2 (1 + 2 + 10 * j) 5 = M (1 + 2 + 10 * j) 5 + sdo (chg A j) j ∧ t.2.2 (1 + 2 + 10 * j) 6 = M (1 + 2 + 10 * j) 6 + dWo (chg A j) j) ∧ (∀ j, i ≤ j → ∀ o, o < 10 → t.2.2 (1 + 2 + 10 * j + o) = M (1 + 2 + 10 * j + o))) i t → ∃ t' : Int32 × Int32 × Mem, (fun i (t : Int32 × Int32 × Mem) => t.1 = x + isum (fun j => sdo (chg A j) j) i ∧ t.2.1 = nI i ∧ XF M t.2.2 ∧ t.2.2 1 = M 1 ∧ (∀ j, j < i → RJ t.2.2 (1 + 2 + 10 * j) (lja (chg A j) j) j ∧ t.2.2 (1 + 2 + 10 * j) 5 = M (1 + 2 + 10 * j) 5 + sdo (chg A j) j ∧ t.2.2 (1 + 2 + 10 * j) 6 = M (1 + 2 + 10 * j) 6 + dWo (chg A j) j) ∧ (∀ j, i ≤ j → ∀ o, o < 10 → t.2.2 (1 + 2 + 10 * j + o) = M (1 + 2 + 10 * j + o))) (i + 1) t' ∧ ∀ g k, fX6_letPass_L1 1 g k t = k t' := fun i hi t ht => by
    obtain ⟨y, z, K⟩ := t
    obtain ⟨h1, h2, h3, h5, h6, h7⟩ := ht
    dsimp only at h1 h2 h3 h5 h6 h7
    subst h1 h2
    have hl : nI i < A 2 := by rw [hc]; exact nI_lt hi (by omega)
    have hJ : RJ K (1 + 2 + 10 * i) A i := RJ_copy (fun o k ho _ => by rw [h7 i (Nat.le_refl _) o ho]) (hR.j (by omega))
    obtain ⟨gvC, s6, sn, p2, pp⟩ := chg_ok V (j := i) (by omega) hl
    have sn' : A (ix i 2) = nI (szo (chg A i) i) := by rw [← sn, chg_o (by unfold ix; omega)]
    obtain ⟨K', m1, m2, m3, m4, m5⟩ := x_second hJ hl gvC sn' s6 p2 pp V.c0
    have es : seo (chg A i) i = wr (A 3 - A (ix i 1)) (A 0) := by unfold seo; rw [chg_n (k := 3) (by omega), chg_n (k := 0) (by omega), chg_o (k := ix i 1) (by unfold ix; omega)]
    rw [← es] at m1 m2 m4 m5
    have e5 := congrFun (h7 i (Nat.le_refl _) 0 (by omega)) 5
    have e6 := congrFun (h7 i (Nat.le_refl _) 0 (by omega)) 6
    rw [Nat.add_zero] at e5 e6
    refine ⟨(x + isum (fun j => sdo (chg A j) j) (i + 1), nI (i + 1), K'), ⟨rfl, rfl, fun o ho => ?_, ?_, fun j hj => ?_, fun j hj o ho => ?_⟩, fun g k => ?_⟩
    · exact (m3 o (by omega)).trans (h3 o ho)
    · exact (m3 1 (by omega)).trans h5
    · by_cases e : j = i
      · subst e
        exact ⟨m2, by show K' _ 5 = _; rw [m4, e5]; rfl, by show K' _ 6 = _; rw [m5, e6]; rfl⟩
      · obtain ⟨a, b, d⟩ := h6 j (by omega)
        have eo : ∀ o, o < 10 → K' (1 + 2 + 10 * j + o) = K (1 + 2 + 10 * j + o) := fun o ho => m3 _ (by omega)
        have eo0 := eo 0 (by omega)
        rw [Nat.add_zero] at eo0
        exact ⟨RJ_copy (fun o k ho _ => congrFun (eo o ho) k) a, by show K' _ 5 = _; rw [eo0]; exact b, by show K' _ 6 = _; rw [eo0]; exact d⟩
    · exact (m3 _ (by omega)).trans (h7 j (by omega) o ho)
    · simp only [fX6_letPass_L1]
      rw [h5, hR.w3, hc, if_neg (nI_ge hi (by omega)), grd_T (inb_nI (by omega) (by omega)), nI_clamp (by omega), hR.w2, hR.w0, m1, cl_e, bnd_e, bnd_e, nI_1]
      rw [show isum (fun j => sdo (chg A j) j) (i + 1) = isum (fun j => sdo (chg A j) j) i + sdo (chg A i) i from rfl, Int32.add_assoc]
      rfl
  have key := lp_traj (f := fX6_letPass_L1 1) (fun i (t : Int32 × Int32 × Mem) => t.1 = x + isum (fun j => sdo (chg A j) j) i ∧ t.2.1 = nI i ∧ XF M t.2.2 ∧ t.2.2 1 = M 1 ∧ (∀ j, j < i → RJ t.2.2 (1 + 2 + 10 * j) (lja (chg A j) j) j ∧ t.2.2 (1 + 2 + 10 * j) 5 = M (1 + 2 + 10 * j) 5 + sdo (chg A j) j ∧ t.2.2 (1 + 2 + 10 * j) 6 = M (1 + 2 + 10 * j) 6 + dWo (chg A j) j) ∧ (∀ j, i ≤ j → ∀ o, o < 10 → t.2.2 (1 + 2 + 10 * j + o) = M (1 + 2 + 10 * j + o))) c (by omega) (fun i hi t ht => step i hi t ht) (x, 0, M) ⟨(Int32.add_zero _).symm, rfl, XF.rf M, rfl, fun j hj => absurd hj (by omega), fun _ _ _ _ => rfl⟩
  obtain ⟨⟨y, z, K⟩, ⟨h1, h2, h3, h5, h6, h7⟩, hk⟩ := key
  dsimp only at h1 h2 h3 h5 h6 h7
  subst h1 h2
  refine ⟨K, h3, h5, h6, h7, fun k4 => hk k4 _ (fun k => ?_)⟩
  simp only [fX6_letPass_L1]
  rw [h5, hR.w3, hc, if_pos (nI_le (Nat.le_refl _) (by omega))]
theorem RS_sec {M K : Mem} (V : Val A) (hR : RS M 1 A) {c : Nat} (hc : A 2 = nI c) (h4 : c ≤ 4) (h1 : K 1 = M 1) (hl : ∀ j, j < c → RJ K (1 + 2 + 10 * j) (lja (chg A j) j) j ∧ K (1 + 2 + 10 * j) 5 = M (1 + 2 + 10 * j) 5 + sdo (chg A j) j ∧ K (1 + 2 + 10 * j) 6 = M (1 + 2 + 10 * j) 6 + dWo (chg A j) j) (hd : ∀ j, c ≤ j → ∀ o, o < 10 → K (1 + 2 + 10 * j + o) = M (1 + 2 + 10 * j + o)) : RS (mset K 1 2 (K 1 2 + 1)) 1 (psA A c) := by
  have en : ∀ k, k < 3 → psA A c k = A k := fun k hk => psA_n V hc h4 hk
  have lv : ∀ q, q < 4 → (nI q < A 2 ↔ q < c) := fun q hq => by rw [hc]; exact nI_ltI (by omega) (by omega)
  have ko : ∀ q, q < 4 → ∀ o, mset K 1 2 (K 1 2 + 1) (1 + 2 + 10 * q + o) = K (1 + 2 + 10 * q + o) := fun q _ o => ms_other _ _ _ (by omega)
  have k5 : ∀ q, q < 4 → mset K 1 2 (K 1 2 + 1) (1 + 2 + 10 * q) 5 = M (1 + 2 + 10 * q) 5 + (if q < c then sdo (chg A q) q else 0) := fun q hq => by
    have e := ko q hq 0
    rw [Nat.add_zero] at e
    rw [e]
    by_cases h : q < c
    · rw [if_pos h]; exact (hl q h).2.1
    · rw [if_neg h, Int32.add_zero]
      have e := hd q (by omega) 0 (by omega)
      rw [Nat.add_zero] at e
      rw [e]
  have k6 : ∀ q, q < 4 → mset K 1 2 (K 1 2 + 1) (1 + 2 + 10 * q) 6 = M (1 + 2 + 10 * q) 6 + (if q < c then dWo (chg A q) q else 0) := fun q hq => by
    have e := ko q hq 0
    rw [Nat.add_zero] at e
    rw [e]
    by_cases h : q < c
    · rw [if_pos h]; exact (hl q h).2.2
    · rw [if_neg h, Int32.add_zero]
      have e := hd q (by omega) 0 (by omega)
      rw [Nat.add_zero] at e
      rw [e]
  obtain ⟨r0, r1, r3, r2, rj, r5, r6, r7⟩ := hR
  refine ⟨by rw [ms_at, if_neg (by omega), h1, r0, en 0 (by omega)], by rw [ms_at, if_neg (by omega), h1, r1, en 1 (by omega)], by rw [ms_at, if_neg (by omega), h1, r3, en 2 (by omega)], by rw [ms_at, if_pos ⟨rfl, rfl⟩, h1, r2, psA_3], fun q hq => ?_, ?_, ?_, fun q hq hn => ?_⟩
  · refine RJ_copy (M := K) (fun o k ho _ => by rw [ko q hq o]) ?_
    by_cases h : q < c
    · refine RJ_cong ?_ (fun k hk => psA_j V hc h4 h hk) (hl q h).1
      rw [en 2 (by omega), lja_n (by omega), chg_n (by omega)]
    · refine RJ_cong (en 2 (by omega)) (fun k hk => psA_dead V hc h4 (by omega) hk) (RJ_copy (M := M) (fun o k ho _ => by rw [hd q (by omega) o ho]) (rj q hq))
  · rw [(psA_s V hc h4).2.1, ← r5, isum4 _ h4]
    have a := k5 0 (by omega); have b := k5 1 (by omega); have d := k5 2 (by omega); have e := k5 3 (by omega)
    refine Eq.trans ?_ (ac4 _ _ _ _ _ _ _ _)
    exact congr (congrArg _ (congr (congrArg _ (congr (congrArg _ a) b)) d)) e
  · rw [(psA_s V hc h4).2.2, ← r6, isum4 _ h4]
    have a := k6 0 (by omega); have b := k6 1 (by omega); have d := k6 2 (by omega); have e := k6 3 (by omega)
    refine Eq.trans ?_ (ac4 _ _ _ _ _ _ _ _)
    exact congr (congrArg _ (congr (congrArg _ (congr (congrArg _ a) b)) d)) e
  · rw [en 2 (by omega)] at hn
    have h : ¬ q < c := fun z => hn ((lv q hq).mpr z)
    rw [k5 q hq, k6 q hq, if_neg h, if_neg h, Int32.add_zero, Int32.add_zero]
    exact r7 q hq hn
/-- k seconds -/
def pk (A : Ar) (c : Nat) : Nat → Ar
  | 0 => A
  | k + 1 => psA (pk A c k) c
def pv (A : Ar) (c : Nat) : Nat → Int32
  | 0 => 0
  | k + 1 => pv A c k + psv (pk A c k) c
theorem pk_ok (V : Val A) {c : Nat} (hc : A 2 = nI c) (h4 : c ≤ 4) : ∀ k : Nat, (A 3).toInt + k ≤ 99999 → Val (pk A c k) ∧ pk A c k 2 = nI c ∧ (pk A c k 3).toInt = (A 3).toInt + k
  | 0, h => ⟨V, hc, by show (A 3).toInt = _; omega⟩
  | k + 1, h => by
    obtain ⟨a, b, d⟩ := pk_ok V hc h4 k (by omega)
    have z1 : Int32.toInt 1 = 1 := rfl
    have h0 := V.1.2.2.2.1.1
    refine ⟨Val_sec a b h4 (by omega), (psA_n a b h4 (by omega)).trans b, ?_⟩
    show (psA (pk A c k) c 3).toInt = _
    rw [psA_3, ti_add (by omega) (by omega)]; omega
theorem x_letPass {M : Mem} (V : Val A) (hR : RS M 1 A) {c n : Nat} (hc : A 2 = nI c) (h4 : c ≤ 4) (hn : n ≤ 300) (ht : (A 3).toInt + n ≤ 99999) : ∃ K, fX6_letPass M 1 (nI n) = some (pv A c n, K) ∧ XF M K ∧ RS K 1 (pk A c n) := by
  refine lp_inv (f := fX6_letPass_L2 1 (nI n)) (fun i (t : Int32 × Int32 × Mem) => t.1 = pv A c i ∧ t.2.1 = nI i ∧ XF M t.2.2 ∧ RS t.2.2 1 (pk A c i)) (fun r => ∃ K, r = some (pv A c n, K) ∧ XF M K ∧ RS K 1 (pk A c n)) n (by omega) (fun i hi t h => Or.inl ?_) (fun t h => ?_) (0, 0, M) ⟨rfl, rfl, XF.rf M, hR⟩
  · obtain ⟨y, z, K⟩ := t
    obtain ⟨h1, h2, h3, h5⟩ := h
    dsimp only at h1 h2 h3 h5
    subst h1 h2
    obtain ⟨v1, v2, v3⟩ := pk_ok V hc h4 i (by omega)
    obtain ⟨K', k1, k2, k3, k4, k5⟩ := x_loop v1 h5 v2 h4 (pv A c i)
    refine ⟨(pv A c (i + 1), nI (i + 1), mset K' 1 2 (K' 1 2 + 1)), ⟨rfl, rfl, fun o ho => ?_, RS_sec v1 h5 v2 h4 k2 k3 k4⟩, fun k => ?_⟩
    · exact (ms_other _ _ _ (by omega)).trans ((k1 o ho).trans (h3 o ho))
    · simp only [fX6_letPass_L2]
      rw [if_neg (nI_ge hi (by omega)), jn_e, k5]
      try dsimp only
      rw [bnd_e, bnd_e, nI_1]
      show k _ = k _
      rw [show pv A c (i + 1) = pv A c i + psv (pk A c i) c from rfl, (psA_s v1 v2 h4).1]
  · obtain ⟨y, z, K⟩ := t
    obtain ⟨h1, h2, h3, h5⟩ := h
    dsimp only at h1 h2 h3 h5
    subst h1 h2
    refine ⟨_, ⟨K, rfl, h3, h5⟩, fun k => ?_⟩
    simp only [fX6_letPass_L2]
    rw [if_pos (nI_le (Nat.le_refl _) (by omega))]
theorem m_run_lp {N : Mem} (V : Val (N 1)) {c n : Nat} (hc : N 1 2 = nI c) (h4 : c ≤ 4) (hn : n ≤ 300) (ht : (N 1 3).toInt + n ≤ 99999) : lp (fX10_runs_L1 (nI n)) FU (0, mset N 0 21 0) = some (0, m1 (mset N 0 21 (pv (N 1) c n)) (pk (N 1) c n)) := by
  refine lp_at (fun i => (nI i, m1 (mset N 0 21 (pv (N 1) c i)) (pk (N 1) c i))) n (by omega) ?_ (fun i hi k => ?_) (fun k => ?_)
  · show (0, mset N 0 21 0) = (nI 0, m1 (mset N 0 21 0) (N 1))
    rw [show N 1 = mset N 0 21 0 1 from (ms_other _ _ _ (by omega)).symm, m1_self]; rfl
  · obtain ⟨v1, v2, v3⟩ := pk_ok V hc h4 i (by omega)
    simp only [fX10_runs_L1]
    have e1 : m1 (mset N 0 21 (pv (N 1) c i)) (pk (N 1) c i) 1 = pk (N 1) c i := m1_1 _ _
    have hp := m_passes (N := m1 (mset N 0 21 (pv (N 1) c i)) (pk (N 1) c i)) (by rw [e1]; exact v1) (c := c) (by rw [e1]; exact v2) h4
    rw [e1, m1_m1] at hp
    rw [if_neg (nI_ge hi (by omega)), hp, cl_e, bnd_e, bnd_e, nI_1, m1_o _ _ (by omega), ms_at, if_pos ⟨rfl, rfl⟩]
    congr 2
    funext o
    by_cases h0 : o = 0
    · subst h0
      rw [m1_o _ _ (by omega)]
      funext q
      rw [ms_at, ms_at, m1_o _ _ (by omega), ms_at]
      by_cases hq : q = 21
      · subst hq; rw [if_pos ⟨rfl, rfl⟩, if_pos ⟨rfl, rfl⟩]; rfl
      · rw [if_neg (fun z => hq z.2), if_neg (fun z => hq z.2), if_neg (fun z => hq z.2)]
    · rw [ms_other _ _ _ h0]
      by_cases h1 : o = 1
      · subst h1; rw [m1_1, m1_1]; rfl
      · rw [m1_o _ _ h1, m1_o _ _ h1, ms_other _ _ _ h0, ms_other _ _ _ h0]
  · simp only [fX10_runs_L1]
    rw [if_pos (nI_le (Nat.le_refl _) (by omega))]
def setRun (p : Int32) : Mem → Option ((Nat ⊕ Int32) × Mem) := fun M => cl (fX6_letPass M 1 p) (fun x K => some (.inr x, K))
theorem cmd_run {N : Mem} (V : Val (N 1)) (p : Int32) : CmdOk N [1, 2] (liftF (fun M => fX9_runFault M p)) (setRun p) (fX10_runs N p) := by
  have z0 : Int32.toInt 0 = 0 := rfl
  have zT : Int32.toInt 99999 = 99999 := by decide
  have ez : Int32.toInt 300 = 300 := by decide
  have e1 : Int32.toInt 1 = 1 := rfl
  unfold fX10_runs
  rw [f_in, clp_e, b01_ite]
  have pre : ∀ Mx, RS Mx 1 (N 1) → fX9_runFault Mx p = if (decide (1 ≤ p) && decide (p ≤ 300)) = true then (if N 1 3 + p ≤ 99999 then some 0 else some 3) else some 2 := fun Mx hR => by
    unfold fX9_runFault
    rw [f_isWithin, clp_e, b01_ite, jn_e, hR.w2]
  by_cases h : (decide (1 ≤ p) && decide (p ≤ 300)) = true
  · have hb := dec_ct h
    rw [ez, e1] at hb
    obtain ⟨n, hn, n1, n2⟩ := bt_nI (x := p) (hi := 300) ⟨by have := hb.1; omega, hb.2⟩
    subst hn
    have hb1 : 1 ≤ n ∧ n ≤ 300 := by have := hb.1; have := hb.2; rw [nI_toInt n2] at *; omega
    obtain ⟨c, c4, hc⟩ := V.ct
    have t0 := V.1.2.2.2.1
    have et : (N 1 3 + nI n).toInt = (N 1 3).toInt + n := by
      have := t0.1; have := t0.2
      rw [ti_add (by rw [nI_toInt n2]; omega) (by rw [nI_toInt n2]; omega), nI_toInt n2]
    rw [if_pos h, grd_T ib3, tc3]
    by_cases ht : N 1 3 + nI n ≤ 99999
    · have ht' : (N 1 3).toInt + n ≤ 99999 := by rw [ti_le, et, zT] at ht; exact ht
      rw [if_pos ht, bnd_e, m_run_lp V hc c4 (by omega) ht']
      obtain ⟨v1, v2, v3⟩ := pk_ok V hc c4 n ht'
      refine Or.inr ⟨pv (N 1) c n, _, rfl, by rw [m1_o _ _ (by omega), ms_at, if_pos ⟨rfl, rfl⟩], ?_, by rw [m1_o _ _ (by omega), ms_at, if_neg (by omega)], by rw [m1_1]; exact v1, fun Mx hR => ⟨liftF_e (by rw [pre Mx hR, if_pos h, if_pos ht]), ?_⟩⟩
      · have := (MFw.rf N).set0 (k := 21) (v := pv (N 1) c n) (by omega)
        refine this.tr ⟨fun k _ => by rw [m1_o _ _ (by omega)], m1_o _ _ (by omega), m1_o _ _ (by omega), m1_o _ _ (by omega), m1_o _ _ (by omega), m1_o _ _ (by omega), by rw [m1_o _ _ (by omega)]⟩
      · obtain ⟨K, k1, k2, k3⟩ := x_letPass V hR hc c4 (n := n) (by omega) ht'
        refine ⟨K, ?_, k2, by rw [m1_1]; exact k3⟩
        unfold setRun
        rw [k1, cl_e]
    · rw [if_neg ht]
      refine Or.inl (bad_pure 3 1 2 (by decide) (fun _ => raise_3) rfl (by omega) rfl (fun Mx hR => ?_))
      rw [pre Mx hR, if_pos h, if_neg ht]
  · rw [if_neg h]
    refine Or.inl (bad_pure 2 0 1 (by decide) (fun _ => raise_2) rfl (by omega) rfl (fun Mx hR => ?_))
    rw [pre Mx hR, if_neg h]
theorem st_run {Mx Mm : Mem} (I : Inv Mx Mm) (p : Int32) : ∃ rx Mx' vm Mm', fX9_run Mx p = some (rx, Mx') ∧ fX10_run Mm p = some (vm, Mm') ∧ Agr [1, 2] rx vm Mm' ∧ Inv Mx' Mm' := by
  have h := cmd_op I (fun N V => cmd_run (N := N) V p)
  rw [← liftF_cl (fun M => fX9_runFault M p) Mx (fun x1 M2 => clpm M2 (fX9_raise M2 x1) (fun _ => cl (fX1_push M2 1) (fun _ M5 => clx (setRun p M5) (fun x6 M7 => some (.inr x6, M7)))))] at h
  have e : ∀ M5, clx (setRun p M5) (fun x6 M7 => some (.inr x6, M7)) = cl (fX6_letPass M5 1 p) (fun x5 M6 => some (.inr x5, M6)) := fun M5 => by
    unfold setRun
    cases fX6_letPass M5 1 p with
    | none => rfl
    | some v => obtain ⟨a, b⟩ := v; rfl
  simp only [e] at h
  exact h
end P77
