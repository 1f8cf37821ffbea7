/-! calls: trip, band -/
theorem Gd.mf {N K : Mem} {w : Nat} {wd : Int32} (h : Gd N K w wd) : MF N K := ⟨fun k hk => h.2.1 k (by omega) (by omega), h.1 2 (by omega), h.1 3 (by omega), h.1 5 (by omega), h.1 6 (by omega)⟩
section O14
variable {Mx Mm : Mem}
theorem st_trip (I : Inv Mx Mm) (p t w : Int32) : ∃ rx vm Mm', fX9_trip Mx p t w = some rx ∧ fX10_trip Mm p t w = some (vm, Mm') ∧ Agr [1, 4] rx vm Mm' ∧ Inv Mx Mm' := by
  have I0 := I.th 0
  obtain ⟨N, hN⟩ : ∃ z, z = mset Mm 0 0 0 := ⟨_, rfl⟩
  rw [← hN] at I0
  obtain ⟨hR, hV, hH, hT⟩ := id I0
  have h00 : N 0 0 = 0 := by rw [hN, ms_at, if_pos ⟨rfl, rfl⟩]
  obtain ⟨n, hn4, hn⟩ := hV.ct
  unfold fX9_trip fX10_trip
  simp only [bnd_e, ← hN, jn_e]
  rw [f_isDirection, clp_e, b01_ite, f_isWithin, clp_e, b01_ite, f_isWithin, clp_e, b01_ite, f_in, clp_e, b01_ite, f_in, clp_e, b01_ite, f_in, clp_e, b01_ite]
  have bad : ∃ rx vm Mm', (clpx (fX9_need Mx 0 2) fun _ => clp (fX7_arePossible Mx 1 p) fun x5 => clpx (fX9_need Mx x5 5) fun _ => clp (fX7_numberOf Mx 1 p t w) fun x7 => some (Sum.inr x7)) = some rx ∧ (cl (fX10_raises N 1) fun x5 M6 => some (x5, M6)) = some (vm, Mm') ∧ Agr [1, 4] rx vm Mm' ∧ Inv Mx Mm' := by
    rw [need_2', clpx_l, m_raises, cl_e]
    exact ⟨_, _, _, rfl, rfl, fin_x I0 0 rfl _ _ rfl⟩
  by_cases hp : (decide (0 ≤ p) && decide (p ≤ 1)) = true
  · rw [if_pos hp, if_pos hp]
    by_cases ht : (decide (0 ≤ t) && decide (t ≤ 99999)) = true
    · rw [if_pos ht, if_pos ht]
      by_cases hw : (decide (0 ≤ w) && decide (w ≤ 2)) = true
      · rw [if_pos hw, if_pos hw]
        obtain ⟨d, rfl, hd⟩ := plan_ex hp
        rw [need_T', clpx_r, x_possible hR hV hn hn4 hd, clp_e, m_possible hV hn hn4 hd, clp_e, b01_ite]
        by_cases hpos : pos (N 1) d n = true
        · obtain ⟨K, k1, k2⟩ := m_goes hV hn hn4 hd hpos t
          rw [hpos, need_T, clpx_r, x_numberOf hR hV hn hn4 hd hpos t w, clp_e, if_pos rfl, k1, cl_e]
          have e00 : K 0 0 = 0 := by rw [k2.2.1 0 (by omega) (by omega), h00]
          have e1 : K 1 = N 1 := k2.1 1 (by omega)
          rw [k2.2.2.1, k2.2.2.2]
          by_cases c0 : w = 0
          · rw [if_pos c0, if_pos c0]
            exact ⟨_, _, _, rfl, rfl, ⟨e00, rfl⟩, I0.num e1 k2.mf⟩
          · rw [if_neg c0, if_neg c0]
            by_cases c1 : w = 1
            · rw [if_pos c1, if_pos c1]
              exact ⟨_, _, _, rfl, rfl, ⟨e00, rfl⟩, I0.num e1 k2.mf⟩
            · rw [if_neg c1, if_neg c1]
              exact ⟨_, _, _, rfl, rfl, ⟨e00, rfl⟩, I0.num e1 k2.mf⟩
        · rw [Bool.not_eq_true _ |>.mp hpos, need_5, clpx_l, if_neg (by decide), m_raises, cl_e]
          exact ⟨_, _, _, rfl, rfl, fin_x I0 1 rfl _ _ rfl⟩
      · rw [if_neg hw, if_neg hw]; exact bad
    · rw [if_neg ht, if_neg ht]; exact bad
  · rw [if_neg hp, if_neg hp]; exact bad
end O14
/-! trips that never wait -/
def fn (A : Ar) (d n : Nat) (t0 : Int32) : Nat → Int32
  | 0 => t0
  | i + 1 => fn A d n t0 i + tt A d n i
def frp (A : Ar) (d n : Nat) (t0 : Int32) (i : Nat) : Bool := !decide (0 < wa A d (jd d n i) (fn A d n t0 (i + 1)))
theorem wa_0 {A : Ar} (V : Val A) {d j : Nat} {t : Int32} (h : ¬ 0 < wa A d j t) : wa A d j t = 0 := by
  have z0 : Int32.toInt 0 = 0 := rfl
  have h2 := (fun z => h ((wa_pos V d j t).mpr z))
  have h3 := Decidable.not_not.mp h2
  unfold wa uo
  rw [if_pos h3]
theorem tp_free {A : Ar} (V : Val A) (d n : Nat) (t0 : Int32) : ∀ i, (al (frp A d n t0) i = true → (tp A d n t0 i).1 = fn A d n t0 i ∧ (tp A d n t0 i).2.1 = 0) ∧ (al (frp A d n t0) i = false → 0 < (tp A d n t0 i).2.1)
  | 0 => ⟨fun _ => ⟨rfl, rfl⟩, fun h => by cases h⟩
  | i + 1 => by
    obtain ⟨h1, h2⟩ := tp_free V d n t0 i
    rw [al_1]
    constructor
    · intro h
      rw [Bool.and_eq_true] at h
      obtain ⟨a1, a2⟩ := h1 h.1
      have hz := h.2
      unfold frp at hz
      have hw : ¬ 0 < wa A d (jd d n i) (fn A d n t0 (i + 1)) := by
        intro z; rw [decide_eq_true z] at hz; cases hz
      have e : (tp A d n t0 i).1 + tt A d n i = fn A d n t0 (i + 1) := by rw [a1]; rfl
      simp only [tp]
      rw [e, wa_0 V hw, if_neg (by decide), a2]
      exact ⟨by simp, rfl⟩
    · intro h
      simp only [tp]
      cases c : al (frp A d n t0) i
      · have := h2 c; omega
      · obtain ⟨a1, a2⟩ := h1 c
        rw [c, Bool.true_and] at h
        unfold frp at h
        have hw : 0 < wa A d (jd d n i) (fn A d n t0 (i + 1)) := by
          by_cases z : 0 < wa A d (jd d n i) (fn A d n t0 (i + 1))
          · exact z
          · rw [decide_eq_false z] at h; cases h
        have e : (tp A d n t0 i).1 + tt A d n i = fn A d n t0 (i + 1) := by rw [a1]; rfl
        rw [e, if_pos hw]; omega
/-- with an exception -/
def frx (A : Ar) (d n : Nat) (ex : Int32) (t0 : Int32) (i : Nat) : Bool := decide (nI (jd d n i) = ex) || frp A d n t0 i
section TF
variable {M : Mem} {A : Ar}
theorem x_isFree (hR : RS M 1 A) (V : Val A) {n d : Nat} (hn : A 2 = nI n) (hn4 : n ≤ 4) (hd : d < 2) (hp : pos A d n = true) (t0 ex : Int32) : fX7_isFree M 1 (nI d) t0 ex = some (b01 (al (frx A d n ex t0) n)) := by
  unfold pos at hp
  rw [Bool.and_eq_true] at hp
  unfold fX7_isFree
  have stp : ∀ i, i < n → ∀ k : Int32 × Int32 → Option Int32, fX7_isFree_L1 1 (nI d) ex M k (fn A d n t0 i, nI i) = if frx A d n ex t0 i = true then k (fn A d n t0 (i + 1), nI (i + 1)) else some 0 := fun i hi k => by
    simp only [fX7_isFree_L1]
    rw [if_neg (by rw [hR.w3, hn]; exact nI_ge hi (by omega)), x_secondsTo hR V hn hn4 hd hi, clp_e, bnd_e, x_numberAt hR hn hn4 hd hi, clp_e, jn_e, x_wait hR V hn hn4 hd (jd_lt hi) (al_T.mp hp.1 _ (jd_lt hi)), clp_e, not01]
    simp only [bnd_e, nI_1]
    unfold frx frp
    by_cases c : nI (jd d n i) = ex
    · rw [if_pos c, decide_eq_true c]; rfl
    · rw [if_neg c, decide_eq_false c, Bool.false_or]
      show (if 0 < wa A d (jd d n i) (fn A d n t0 (i + 1)) then _ else _) = _
      by_cases w : 0 < wa A d (jd d n i) (fn A d n t0 (i + 1))
      · rw [if_pos w, decide_eq_true w]; rfl
      · rw [if_neg w, decide_eq_false w]; rfl
  have main := lp_fst (f := fX7_isFree_L1 1 (nI d) ex M) (s0 := (t0, (0 : Int32))) (fun i => (fn A d n t0 i, nI i)) (frx A d n ex t0) (rt := some (1 : Int32)) (rf := fun _ => some (0 : Int32)) n (by omega) rfl (fun i hi ht k => by rw [stp i hi, if_pos ht]) (fun i hi ht k => by rw [stp i hi, if_neg (by rw [ht]; decide)]) (fun k => by
    simp only [fX7_isFree_L1]
    rw [if_pos (by rw [hR.w3, hn]; exact nI_le (Nat.le_refl _) (by omega))])
  rw [main]
  cases al (frx A d n ex t0) n <;> rfl
def bnds (A : Ar) (d n : Nat) : Nat → Nat := cn (fun t => al (frp A d n (nI t)) n)
theorem x_band (hR : RS M 1 A) (V : Val A) {n d c : Nat} (hn : A 2 = nI n) (hn4 : n ≤ 4) (hd : d < 2) (hp : pos A d n = true) (hc : A 0 = nI c) (hc120 : c ≤ 120) : fX7_bandOf M 1 (nI d) = some (nI (bnds A d n c)) := by
  unfold fX7_bandOf
  have e : ∀ t0, al (frx A d n (-1) t0) n = al (frp A d n t0) n := fun t0 => al_cong n (fun i hi => by
    unfold frx
    have : ¬ nI (jd d n i) = -1 := by
      have := jd_lt (d := d) hi
      rw [ti_eq, nI_toInt (by omega)]
      have : Int32.toInt (-1) = -1 := by decide
      omega
    rw [decide_eq_false this, Bool.false_or])
  refine lp_at (fun i => (nI (bnds A d n i), nI i)) c (by omega) rfl (fun i hi k => ?_) (fun k => ?_)
  · simp only [fX7_bandOf_L1]
    rw [if_neg (by rw [hR.w0, hc]; exact nI_ge hi (by omega)), x_isFree hR V hn hn4 hd hp, clp_e, jn_e, b01_ite, e]
    simp only [bnd_e, nI_1]
    unfold bnds
    simp only [cn]
    by_cases hb : al (frp A d n (nI i)) n = true <;> simp [hb, nI_1]
  · simp only [fX7_bandOf_L1]
    rw [if_pos (by rw [hR.w0, hc]; exact nI_le (Nat.le_refl _) (by omega))]
end TF
theorem Gd.tr {N K L : Mem} {w w' : Nat} {x x' : Int32} (h : Gd N K w x) (h' : Gd K L w' x') : Gd N L w' x' := ⟨fun r hr => (h'.1 r hr).trans (h.1 r hr), fun k h1 h2 => (h'.2.1 k h1 h2).trans (h.2.1 k h1 h2), h'.2.2⟩
/-- only the numbers of a trip are changed -/
def Gn (N K : Mem) : Prop := (∀ r, r ≠ 0 → K r = N r) ∧ (∀ k, k ≠ 19 → k ≠ 20 → K 0 k = N 0 k)
theorem Gn.mf {N K : Mem} (h : Gn N K) : MF N K := ⟨fun k hk => h.2 k (by omega) (by omega), h.1 2 (by omega), h.1 3 (by omega), h.1 5 (by omega), h.1 6 (by omega)⟩
theorem m_bands {N : Mem} (V : Val (N 1)) {n d c : Nat} (hn : N 1 2 = nI n) (hn4 : n ≤ 4) (hd : d < 2) (hp : pos (N 1) d n = true) (hc : N 1 0 = nI c) (hc120 : c ≤ 120) : ∃ K, fX10_bands N (nI d) = some (nI (bnds (N 1) d n c), K) ∧ Gn N K := by
  have main := lp_inv (f := fX10_bands_L1 (nI d)) (fun i (s : Int32 × Int32 × Mem) => s.1 = nI (bnds (N 1) d n i) ∧ s.2.1 = nI i ∧ Gn N s.2.2) (fun r => ∃ K, r = some (nI (bnds (N 1) d n c), K) ∧ Gn N K) c (by omega) (fun i hi s hs => Or.inl (by
      obtain ⟨x, y, K⟩ := s
      obtain ⟨h1, h2, h3⟩ := hs
      dsimp only at h1 h2 h3
      subst h1; subst h2
      have k1 : K 1 = N 1 := h3.1 1 (by omega)
      obtain ⟨L, l1, l2⟩ := m_goes (N := K) (by rw [k1]; exact V) (n := n) (d := d) (by rw [k1]; exact hn) hn4 hd (by rw [k1]; exact hp) (nI i)
      rw [k1] at l1 l2
      obtain ⟨f1, f2⟩ := tp_free V d n (nI i) n
      have hle := tp_le (N 1) d n (nI i) n
      refine ⟨(nI (bnds (N 1) d n (i + 1)), nI (i + 1), L), ⟨rfl, rfl, fun r hr => (l2.1 r hr).trans (h3.1 r hr), fun k a b => (l2.2.1 k a b).trans (h3.2 k a b)⟩, fun k => ?_⟩
      simp only [fX10_bands_L1]
      rw [grd_T ib0, tc0, k1, hc, if_neg (nI_ge hi (by omega)), l1, cl_e, jn_e, l2.2.2.1]
      simp only [bnd_e, nI_1]
      have eb : bnds (N 1) d n (i + 1) = bnds (N 1) d n i + (if al (frp (N 1) d n (nI i)) n = true then 1 else 0) := rfl
      rw [eb]
      cases e : al (frp (N 1) d n (nI i)) n
      · rw [if_neg (nI_ne0 (f2 e) (by omega))]; rfl
      · rw [(f1 e).2, if_pos (show nI 0 = 0 from rfl)]; rfl)) (fun s hs => by
      obtain ⟨x, y, K⟩ := s
      obtain ⟨h1, h2, h3⟩ := hs
      dsimp only at h1 h2 h3
      subst h1; subst h2
      refine ⟨_, ⟨K, rfl, h3⟩, fun k => ?_⟩
      simp only [fX10_bands_L1]
      rw [grd_T ib0, tc0, show K 1 = N 1 from h3.1 1 (by omega), hc, if_pos (nI_le (Nat.le_refl _) (by omega))]) (0, 0, N) ⟨rfl, rfl, fun _ _ => rfl, fun _ _ _ => rfl⟩
  exact main
section O14b
variable {Mx Mm : Mem}
theorem st_band (I : Inv Mx Mm) (p : Int32) : ∃ rx vm Mm', fX9_band Mx p = some rx ∧ fX10_band Mm p = some (vm, Mm') ∧ Agr [1, 4] rx vm Mm' ∧ Inv Mx Mm' := by
  have I0 := I.th 0
  obtain ⟨N, hN⟩ : ∃ z, z = mset Mm 0 0 0 := ⟨_, rfl⟩
  rw [← hN] at I0
  obtain ⟨hR, hV, hH, hT⟩ := id I0
  have h00 : N 0 0 = 0 := by rw [hN, ms_at, if_pos ⟨rfl, rfl⟩]
  obtain ⟨n, hn4, hn⟩ := hV.ct
  obtain ⟨c, hc120, hc⟩ := hV.cn
  unfold fX9_band fX10_band
  simp only [bnd_e, ← hN, jn_e]
  rw [f_isDirection, clp_e, f_in, clp_e, b01_ite]
  by_cases hp : (decide (0 ≤ p) && decide (p ≤ 1)) = true
  · obtain ⟨d, rfl, hd⟩ := plan_ex hp
    rw [if_pos hp, hp, need_T, clpx_r, x_possible hR hV hn hn4 hd, clp_e, m_possible hV hn hn4 hd, clp_e, b01_ite]
    by_cases hpos : pos (N 1) d n = true
    · obtain ⟨K, k1, k2⟩ := m_bands hV hn hn4 hd hpos hc hc120
      rw [hpos, need_T, clpx_r, x_band hR hV hn hn4 hd hpos hc hc120, clp_e, if_pos rfl, k1, cl_e]
      exact ⟨_, _, _, rfl, rfl, ⟨by rw [k2.2 0 (by omega) (by omega), h00], rfl⟩, I0.num (k2.1 1 (by omega)) k2.mf⟩
    · rw [Bool.not_eq_true _ |>.mp hpos, need_5, clpx_l, if_neg (by decide), m_raises, cl_e]
      exact ⟨_, _, _, rfl, rfl, fin_x I0 1 rfl _ _ rfl⟩
  · rw [if_neg hp, Bool.not_eq_true _ |>.mp hp, need_2, clpx_l, m_raises, cl_e]
    exact ⟨_, _, _, rfl, rfl, fin_x I0 0 rfl _ _ rfl⟩
end O14b
