/-! calls: trip (the reference goes) -/
theorem jn_if {S β : Type} {c : Prop} [Decidable c] {x y z : S} (rest : S → Option β) (h : (if c then x else y) = z) : jn rest (fun k => if c then k x else k y) = rest z := by
  subst h
  unfold jn
  split <;> rfl
theorem tt0 {A : Ar} (V : Val A) (d n : Nat) : tt A d n 0 = 0 := by
  obtain ⟨s, e, h1, h2⟩ := bt_nI (x := A 1) (hi := 25) ⟨by have := V.1.2.1.1; omega, V.1.2.1.2⟩
  have h5 : 5 ≤ s := by have := V.1.2.1.1; rw [e, nI_toInt h2] at this; omega
  have key : ∀ s : Fin 26, 5 ≤ s.val → ((0 + nI s.val) - 1) / nI s.val = 0 := by decide +kernel
  unfold tt ds
  rw [if_pos rfl, e]
  exact key ⟨s, by omega⟩ h5
theorem wa_pos {A : Ar} (V : Val A) (d j : Nat) (t : Int32) : (0 < wa A d j t) ↔ ¬ wr (wr (t - A (ix j 1)) (A 0) - fs A j (pl A j) (ro A d j)) (A 0) < ln A j (pl A j) (ro A d j) := by
  have z0 : Int32.toInt 0 = 0 := rfl
  unfold wa uo
  by_cases h : wr (wr (t - A (ix j 1)) (A 0) - fs A j (pl A j) (ro A d j)) (A 0) < ln A j (pl A j) (ro A d j)
  · rw [if_pos h]; constructor
    · intro z; exact absurd z (by decide)
    · intro z; exact absurd h z
  · rw [if_neg h]
    have w1 := wr_lo (x := wr (t - A (ix j 1)) (A 0) - fs A j (pl A j) (ro A d j)) V.c0
    have w2 := wr_hi (x := wr (t - A (ix j 1)) (A 0) - fs A j (pl A j) (ro A d j)) V.c0
    have hc := V.1.1.2
    constructor
    · intro _; exact h
    · intro _
      rw [ti_lt, z0, ti_sub (by omega) (by omega)]; omega
def te (A : Ar) (d n : Nat) (t0 : Int32) (i : Nat) : Int32 := if i < n then (tp A d n t0 i).1 + tt A d n i else (tp A d n t0 i).1
theorem m_possible {N : Mem} (V : Val (N 1)) {n d : Nat} (hn : N 1 2 = nI n) (hn4 : n ≤ 4) (hd : d < 2) : fX10_isPossible N (nI d) = some (b01 (pos (N 1) d n)) := by
  unfold fX10_isPossible
  simp only [jn_e]
  have stp : ∀ i, i < n → ∀ (k2 k6 : Unit → Option Int32) (k : Int32 → Option Int32), fX10_isPossible_L1 (nI d) N k2 k6 k (nI i) = if psb (N 1) d i = true then k (nI (i + 1)) else k6 () := fun i hi k2 k6 k => by
    have hl := lj hn hn4 hi
    have hJ := V.2.1 i (by omega) hl
    simp only [fX10_isPossible_L1]
    rw [grd_T ib2, tc2, hn, if_neg (nI_ge hi (by omega)), m_ofd (by omega) hd, clp_e]
    unfold psb
    by_cases h : 0 ≤ N 1 (ix i (5 + d))
    · obtain ⟨r1, r2, r3⟩ := ro_e hJ hd h
      obtain ⟨p1, p2⟩ := pl_e hJ
      rw [if_neg (by rw [ti_lt]; rw [ti_le] at h; omega), m_of3 (by omega), clp_e, p2, r2, m_length (by omega) p1 r1, clp_e, ← r2, decide_eq_true h, Bool.true_and, ln0 hJ p1 r1]
      by_cases z : ln (N 1) i (pl (N 1) i) (ro (N 1) d i) = 0
      · rw [if_pos z, decide_eq_true z]; rfl
      · rw [if_neg z, decide_eq_false z, bnd_e, nI_1]; rfl
    · rw [if_pos (by rw [ti_lt]; rw [ti_le] at h; omega), decide_eq_false h]; rfl
  have main := lp_fst (f := fX10_isPossible_L1 (nI d) N (fun _ => grd (inb 2 490) (if N 1 (2 : Int32).toNatClampNeg ≤ 0 then grd (isb 0) (some 0) else grd (isb 1) (some 1))) (fun _ => some 0)) (s0 := (0 : Int32)) (fun i => nI i) (psb (N 1) d) (rt := grd (inb 2 490) (if N 1 (2 : Int32).toNatClampNeg ≤ 0 then grd (isb 0) (some 0) else grd (isb 1) (some 1))) (rf := fun _ => some (0 : Int32)) n (by omega) rfl (fun i hi ht k => by rw [stp i hi, if_pos ht]) (fun i hi ht k => by rw [stp i hi, if_neg (by rw [ht]; decide)]) (fun k => by
    simp only [fX10_isPossible_L1]
    rw [grd_T ib2, tc2, hn, if_pos (nI_le (Nat.le_refl _) (by omega)), grd_T ib2])
  rw [main]
  unfold pos
  cases al (psb (N 1) d) n
  · rfl
  · rw [if_pos rfl, grd_T ib2, tc2, hn]
    by_cases h : 0 < n
    · rw [if_neg (nI_nle h (by omega)), decide_eq_true h]; rfl
    · have : n = 0 := by omega
      subst this
      rw [if_pos (by decide)]; rfl
/-- the numbers of a trip among the reference's own -/
def Gd (N K : Mem) (w : Nat) (wd : Int32) : Prop := (∀ r, r ≠ 0 → K r = N r) ∧ (∀ k, k ≠ 19 → k ≠ 20 → K 0 k = N 0 k) ∧ K 0 19 = nI w ∧ K 0 20 = wd
theorem m_goes {N : Mem} (V : Val (N 1)) {n d : Nat} (hn : N 1 2 = nI n) (hn4 : n ≤ 4) (hd : d < 2) (hp : pos (N 1) d n = true) (t0 : Int32) : ∃ K, fX10_goes N (nI d) t0 = some ((tp (N 1) d n t0 n).1 - t0, K) ∧ Gd N K (tp (N 1) d n t0 n).2.1 (tp (N 1) d n t0 n).2.2 := by
  unfold pos at hp
  rw [Bool.and_eq_true, decide_eq_true_iff] at hp
  obtain ⟨hp, hn0⟩ := hp
  have hc0 := V.c0
  obtain ⟨N1, hN1⟩ : ∃ z, z = mset (mset N 0 19 0) 0 20 0 := ⟨_, rfl⟩
  have main := lp_inv (f := fX10_goes_L1 (nI d) (nI n) (fun a4 => some (a4.1 - t0, a4.2))) (fun i (s : Int32 × Int32 × Mem) => s.1 = te (N 1) d n t0 i ∧ s.2.1 = nI i ∧ Gd N s.2.2 (tp (N 1) d n t0 i).2.1 (tp (N 1) d n t0 i).2.2) (fun r => ∃ K, r = some ((tp (N 1) d n t0 n).1 - t0, K) ∧ Gd N K (tp (N 1) d n t0 n).2.1 (tp (N 1) d n t0 n).2.2) n (by omega) (fun i hi s hs => Or.inl (by
      obtain ⟨t, x, K⟩ := s
      obtain ⟨h1, h2, h3⟩ := hs
      dsimp only at h1 h2 h3
      subst h2
      obtain ⟨g1, g2, g3, g4⟩ := h3
      have k1 : K 1 = N 1 := g1 1 (by omega)
      have hjl := jd_lt (d := d) hi
      have hj4 : jd d n i < 4 := by omega
      have hJ := V.2.1 _ hj4 (lj hn hn4 hjl)
      have hps := al_T.mp hp _ hjl
      unfold psb at hps
      rw [Bool.and_eq_true, decide_eq_true_iff] at hps
      obtain ⟨r1, r2, r3⟩ := ro_e hJ hd hps.1
      obtain ⟨p1, p2⟩ := pl_e hJ
      have hte : te (N 1) d n t0 i = (tp (N 1) d n t0 i).1 + tt (N 1) d n i := by unfold te; rw [if_pos hi]
      obtain ⟨T, hT⟩ : ∃ T, T = (tp (N 1) d n t0 i).1 + tt (N 1) d n i := ⟨_, rfl⟩
      rw [hte, ← hT] at h1
      subst h1
      obtain ⟨b, hb⟩ : ∃ b, b = wr (wr (t - N 1 (ix (jd d n i) 1)) (N 1 0) - fs (N 1) (jd d n i) (pl (N 1) (jd d n i)) (ro (N 1) d (jd d n i))) (N 1 0) := ⟨_, rfl⟩
      obtain ⟨L, hL⟩ : ∃ L, L = ln (N 1) (jd d n i) (pl (N 1) (jd d n i)) (ro (N 1) d (jd d n i)) := ⟨_, rfl⟩
      have hwa : wa (N 1) d (jd d n i) t = if b < L then 0 else N 1 0 - b := by unfold wa uo; rw [hb, hL]
      have hwp : (0 < wa (N 1) d (jd d n i) t) ↔ ¬ b < L := by rw [wa_pos V, hb, hL]
      have etp : tp (N 1) d n t0 (i + 1) = (t + wa (N 1) d (jd d n i) t, (tp (N 1) d n t0 i).2.1 + (if 0 < wa (N 1) d (jd d n i) t then 1 else 0), (tp (N 1) d n t0 i).2.2 + wa (N 1) d (jd d n i) t) := by
        simp only [tp, ← hT]
      have ej : (if nI d = 0 then nI i else (nI n - 1) - nI i) = nI (jd d n i) := by
        unfold jd
        rcases (show d = 0 ∨ d = 1 by omega) with rfl | rfl
        · rw [if_pos (show nI 0 = 0 from rfl), if_pos rfl]
        · rw [if_neg (show ¬ nI 1 = 0 by decide), if_neg (by omega), show nI n - 1 = nI (n - 1) from nI_sub (a := n) (b := 1) (by omega), nI_sub (by omega)]
      -- the last step: on to the next junction
      have nxt : ∀ (K2 : Mem) (T2 : Int32) (F : Int32 → Option (Int32 × Mem)), K2 1 = N 1 → T2 = (tp (N 1) d n t0 (i + 1)).1 → (if nI i = nI n - 1 then F T2 else (if nI d = 0 then (fun a22 => clp (fX10_of K2 a22 0) (fun x24 => clp (fX10_of K2 (nI (jd d n i)) 0) (fun x25 => clp (fJ9_abs_0f7a4 K2 (x24 - x25)) (fun x26 => grd (inb 1 490) (grd (inb 1 490) (grd (nz (K2 1 (1 : Int32).toNatClampNeg)) (bnd (T2 + (((x26 + (K2 1 (1 : Int32).toNatClampNeg)) - 1) / (K2 1 (1 : Int32).toNatClampNeg))) (fun x27 => F x27)))))))) (nI (jd d n i) + 1) else (fun a22 => clp (fX10_of K2 a22 0) (fun x24 => clp (fX10_of K2 (nI (jd d n i)) 0) (fun x25 => clp (fJ9_abs_0f7a4 K2 (x24 - x25)) (fun x26 => grd (inb 1 490) (grd (inb 1 490) (grd (nz (K2 1 (1 : Int32).toNatClampNeg)) (bnd (T2 + (((x26 + (K2 1 (1 : Int32).toNatClampNeg)) - 1) / (K2 1 (1 : Int32).toNatClampNeg))) (fun x27 => F x27)))))))) (nI (jd d n i) - 1))) = F (te (N 1) d n t0 (i + 1)) := by
        intro K2 T2 F hk ht2
        by_cases hl : i = n - 1
        · have e : te (N 1) d n t0 (i + 1) = T2 := by unfold te; rw [if_neg (by omega), ht2]
          rw [if_pos (by rw [hl]; exact (nI_sub (a := n) (b := 1) (by omega)).symm), e]
        · have hne : ¬ nI i = nI n - 1 := fun z => hl (by
            rw [show nI n - 1 = nI (n - 1) from nI_sub (a := n) (b := 1) (by omega)] at z
            exact (nI_eq (by omega) (by omega)).mp z)
          have e : te (N 1) d n t0 (i + 1) = T2 + tt (N 1) d n (i + 1) := by unfold te; rw [if_pos (by omega), ht2]
          have hj2 := jd_lt (d := d) (show i + 1 < n by omega)
          have hz : nz (N 1 1) = true := by
            have z0 : Int32.toInt 0 = 0 := rfl
            unfold nz; rw [decide_eq_false (by rw [ti_eq, z0]; have := V.1.2.1.1; omega)]; rfl
          have G : ∀ J : Int32, J = nI (jd d n (i + 1)) → clp (fX10_of K2 J 0) (fun x24 => clp (fX10_of K2 (nI (jd d n i)) 0) (fun x25 => clp (fJ9_abs_0f7a4 K2 (x24 - x25)) (fun x26 => grd (inb 1 490) (grd (inb 1 490) (grd (nz (K2 1 (1 : Int32).toNatClampNeg)) (bnd (T2 + (((x26 + (K2 1 (1 : Int32).toNatClampNeg)) - 1) / (K2 1 (1 : Int32).toNatClampNeg))) (fun x27 => F x27))))))) = F (te (N 1) d n t0 (i + 1)) := by
            intro J hJe
            rw [hJe, m_of0 (by omega), clp_e, m_of0 hj4, clp_e, f_abs, clp_e, grd_T ib1, grd_T ib1, tc1, hk, grd_T hz, e, bnd_e]
            unfold tt ds
            rw [if_neg (by omega), show i + 1 - 1 = i by omega]
          rw [if_neg hne]
          rcases (show d = 0 ∨ d = 1 by omega) with rfl | rfl
          · rw [if_pos (show nI 0 = 0 from rfl)]
            exact G _ (by unfold jd; rw [if_pos rfl, if_pos rfl, nI_1])
          · rw [if_neg (show ¬ nI 1 = 0 by decide)]
            refine G _ ?_
            unfold jd
            rw [if_neg (by omega), if_neg (by omega), show nI (n - 1 - i) - 1 = nI (n - 1 - i - 1) from nI_sub (a := n - 1 - i) (b := 1) (by omega), show n - 1 - i - 1 = n - 1 - (i + 1) by omega]
      by_cases hbl : b < L
      · have w0 : wa (N 1) d (jd d n i) t = 0 := by rw [hwa, if_pos hbl]
        have etp' : tp (N 1) d n t0 (i + 1) = (t, (tp (N 1) d n t0 i).2.1, (tp (N 1) d n t0 i).2.2) := by
          rw [etp, w0, if_neg (by decide)]; simp
        refine ⟨(te (N 1) d n t0 (i + 1), nI (i + 1), K), ⟨rfl, rfl, ?_⟩, fun k => ?_⟩
        · dsimp only
          rw [etp']; exact ⟨g1, g2, g3, g4⟩
        · simp only [fX10_goes_L1]
          rw [if_neg (nI_ge hi (by omega)), jn_if _ ej]
          rw [m_ofd hj4 hd, clp_e, m_local hj4 _ (by rw [k1]; exact hc0), clp_e, m_of3 hj4, clp_e, k1, p2, r2, m_first hj4 p1 r1, clp_e, m_mod _ (by rw [k1]; exact hc0), clp_e, clp_e, m_length hj4 p1 r1, clp_e, k1, ← hb, ← hL, jn_e]
          rw [if_pos hbl]
          dsimp only
          rw [jn_e, jn_e]
          refine Eq.trans (nxt K t (fun a19 => bnd (nI i + 1) (fun x21 => k (a19, x21, K))) k1 (by rw [etp'])) ?_
          rw [bnd_e, nI_1]
      · have w0 : wa (N 1) d (jd d n i) t = N 1 0 - b := by rw [hwa, if_neg hbl]
        have etp' : tp (N 1) d n t0 (i + 1) = (t + (N 1 0 - b), (tp (N 1) d n t0 i).2.1 + 1, (tp (N 1) d n t0 i).2.2 + (N 1 0 - b)) := by
          rw [etp, if_pos (hwp.mpr hbl), w0]
        obtain ⟨K2, hK2⟩ : ∃ z, z = mset (mset K 0 19 (K 0 19 + 1)) 0 20 (K 0 20 + (N 1 0 - b)) := ⟨_, rfl⟩
        have k2 : K2 1 = N 1 := by rw [hK2, ms_other _ _ _ (by omega), ms_other _ _ _ (by omega), k1]
        have e28 : mset (mset K 0 19 (K 0 19 + 1)) 0 20 (mset K 0 19 (K 0 19 + 1) 0 20 + (mset K 0 19 (K 0 19 + 1) 1 0 - b)) = mset (mset K 0 19 (K 0 19 + 1)) 0 20 (K 0 20 + (N 1 0 - b)) := by
          rw [show mset K 0 19 (K 0 19 + 1) 0 20 = K 0 20 by rw [ms_at, if_neg (by omega)], show mset K 0 19 (K 0 19 + 1) 1 0 = N 1 0 by rw [ms_other _ _ _ (by omega), k1]]
        refine ⟨(te (N 1) d n t0 (i + 1), nI (i + 1), K2), ⟨rfl, rfl, ?_⟩, fun k => ?_⟩
        · dsimp only
          rw [etp']
          refine ⟨fun r hr => by rw [hK2, ms_other _ _ _ hr, ms_other _ _ _ hr]; exact g1 r hr, fun k h1 h2 => by rw [hK2, ms_at, if_neg (by omega), ms_at, if_neg (by omega)]; exact g2 k h1 h2, ?_, ?_⟩
          · rw [hK2, ms_at, if_neg (by omega), ms_at, if_pos ⟨rfl, rfl⟩, g3, nI_1]
          · rw [hK2, ms_at, if_pos ⟨rfl, rfl⟩, g4]
        · simp only [fX10_goes_L1]
          rw [if_neg (nI_ge hi (by omega)), jn_if _ ej]
          rw [m_ofd hj4 hd, clp_e, m_local hj4 _ (by rw [k1]; exact hc0), clp_e, m_of3 hj4, clp_e, k1, p2, r2, m_first hj4 p1 r1, clp_e, m_mod _ (by rw [k1]; exact hc0), clp_e, clp_e, m_length hj4 p1 r1, clp_e, k1, ← hb, ← hL, jn_e]
          rw [if_neg hbl, bnd_e, grd_T ib0, bnd_e, grd_T ib0, bnd_e]
          dsimp only
          rw [tc0, e28, ← hK2, jn_e, jn_e]
          refine Eq.trans (nxt K2 (t + (K2 1 0 - b)) (fun a19 => bnd (nI i + 1) (fun x21 => k (a19, x21, K2))) k2 (by rw [etp', k2])) ?_
          rw [bnd_e, nI_1])) (fun s hs => by
      obtain ⟨t, x, K⟩ := s
      obtain ⟨h1, h2, h3⟩ := hs
      dsimp only at h1 h2 h3
      subst h1; subst h2
      refine ⟨_, ⟨K, rfl, h3⟩, fun k => ?_⟩
      simp only [fX10_goes_L1]
      rw [if_pos (nI_le (Nat.le_refl _) (by omega))]
      unfold te
      rw [if_neg (by omega)]) (t0, 0, N1) ⟨by
        show t0 = te (N 1) d n t0 0
        unfold te; rw [if_pos hn0, tt0 V]; show t0 = t0 + 0; simp, rfl, by
        dsimp only
        refine ⟨fun r hr => by rw [hN1, ms_other _ _ _ hr, ms_other _ _ _ hr], fun k h1 h2 => by rw [hN1, ms_at, if_neg (by omega), ms_at, if_neg (by omega)], by rw [hN1, ms_at, if_neg (by omega), ms_at, if_pos ⟨rfl, rfl⟩]; rfl, by rw [hN1, ms_at, if_pos ⟨rfl, rfl⟩]; rfl⟩⟩
  unfold fX10_goes
  rw [bnd_e, bnd_e, grd_T ib2, bnd_e, ← hN1, tc2, show N1 1 2 = nI n by rw [hN1, ms_other _ _ _ (by omega), ms_other _ _ _ (by omega), hn], jn_e]
  exact main
