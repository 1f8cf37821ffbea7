/-! changes of plans -/
def fstF (p : Nat → Bool) : Nat → Nat
  | 0 => 0
  | n + 1 => if al p n = true then (if p n = true then n + 1 else n) else fstF p n
theorem fstF_eq {p : Nat → Bool} : ∀ {n i : Nat}, i < n → p i = false → (∀ k, k < i → p k = true) → fstF p n = i
  | 0, i, h, _, _ => absurd h (by omega)
  | n + 1, i, h, h1, h2 => by
    unfold fstF
    by_cases e : i = n
    · subst e
      rw [if_pos (al_T.mpr h2), h1]; rfl
    · have : ¬ al p n = true := fun z => by
        have := al_T.mp z i (by omega)
        rw [h1] at this; cases this
      rw [if_neg this]
      exact fstF_eq (by omega) h1 h2
theorem lp_fst {S β : Type} {f : (S → Option β) → S → Option β} {s0 : S} (st : Nat → S) (p : Nat → Bool) {rt : Option β} {rf : Nat → Option β} (N : Nat) (hN : N < 100000) (h0 : s0 = st 0) (hs : ∀ i, i < N → p i = true → ∀ k, f k (st i) = k (st (i + 1))) (hb : ∀ i, i < N → p i = false → ∀ k, f k (st i) = rf i) (he : ∀ k, f k (st N) = rt) : lp f FU s0 = if al p N = true then rt else rf (fstF p N) := by
  rcases lp_srch st p (rt := rt) (rf := rf) N hN h0 hs hb he with ⟨h1, h2⟩ | ⟨i, h1, h2, h3, h4⟩
  · rw [h2, if_pos h1]
  · have : ¬ al p N = true := fun z => by
      have := al_T.mp z i h1
      rw [h2] at this; cases this
    rw [h4, if_neg this, fstF_eq h1 h2 h3]
theorem fstF_lt {p : Nat → Bool} {n : Nat} (h : ¬ al p n = true) : fstF p n < n := by
  obtain ⟨i, h1, h2, h3⟩ := al_F (Bool.not_eq_true _ |>.mp h)
  rw [fstF_eq h1 h2 h3]; exact h1
theorem wr_eq {x y c : Int32} (h : x.toInt % c.toInt = y.toInt % c.toInt) : wr x c = wr y c := by unfold wr; rw [h]
theorem em_add (x y c : Int) : (x % c + y) % c = (x + y) % c := by rw [Int.add_emod, Int.emod_emod, ← Int.add_emod]
def uo (A : Ar) (j p g : Nat) (s : Int32) : Int32 := if wr (s - fs A j p g) (A 0) < ln A j p g then 0 else A 0 - wr (s - fs A j p g) (A 0)
def so (A : Ar) (j p g : Nat) (s : Int32) : Int32 := if wr (s - 1 - fs A j p g) (A 0) < ln A j p g then 0 else wr (s - 1 - fs A j p g) (A 0) - ln A j p g + 1
def bk (A : Ar) (j q : Nat) (s : Int32) (a b : Nat) : Bool := (cf A j a b && (gr A j q a && gr A j (1 - q) b)) && decide (so A j q a s + uo A j (1 - q) b s < kl A j a b)
def okc (A : Ar) (j q n : Nat) (s : Int32) : Bool := al (fun a => al (fun b => !bk A j q s a b) n) n
def sec (A : Ar) (j d : Nat) : Int32 := wr (wr (A 3 - A (ix j 1)) (A 0) + nI d) (A 0)
def scv (A : Ar) (j q n c : Nat) : Int32 := if al (fun d => !okc A j q n (sec A j d)) c = true then -1 else nI (fstF (fun d => !okc A j q n (sec A j d)) c)
theorem x_until {M : Mem} {J : Nat} {A : Ar} {j : Nat} (h : RJ M J A j) {p g : Nat} (hp : p < 2) (hg : g < 6) (s : Int32) (hc : 0 < (A 0).toInt) : fX2_secondsUntilOn M J (nI p) (nI g) s (A 0) = some (uo A j p g s) := by
  unfold fX2_secondsUntilOn uo
  rw [x_first h hp hg, clp_e, f_wrap M hc, clp_e, x_length h hp hg, clp_e, jn_e, not01]
  split <;> rfl
section CH
variable {M : Mem} {J : Nat} {A : Ar} {j : Nat}
theorem x_off (h : RJ M J A j) (v : VJ A j) {q g : Nat} (hq : q < 2) (hp : A (ix j 3) = nI q) (hg : g < 6) (s : Int32) (hc : bt (A 0) 30 120) : fX2_secondsOff M J (nI g) s (A 0) = some (so A j q g s) := by
  have hc0 : 0 < (A 0).toInt := by have := hc.1; omega
  unfold fX2_secondsOff so
  rw [h.w (by omega), hp, x_first h hq hg, clp_e, f_wrap M hc0, clp_e, x_length h hq hg, clp_e, f_max, clp_e]
  have hb := ((v.2.2.2.2.2.2.1 g hg).2.2.2.2.2.2.2.1 q hq).2.1
  have w1 := wr_lo (x := s - 1 - fs A j q g) hc0
  have w2 := wr_hi (x := s - 1 - fs A j q g) hc0
  have z0 : Int32.toInt 0 = 0 := rfl
  have z1 : Int32.toInt 1 = 1 := rfl
  have hc2 := hc.2
  have h1 := hb.1
  have h2 := hb.2
  have e1 : (wr (s - 1 - fs A j q g) (A 0) - ln A j q g).toInt = (wr (s - 1 - fs A j q g) (A 0)).toInt - (ln A j q g).toInt := ti_sub (by omega) (by omega)
  have e2 : (wr (s - 1 - fs A j q g) (A 0) - ln A j q g + 1).toInt = (wr (s - 1 - fs A j q g) (A 0)).toInt - (ln A j q g).toInt + 1 := by rw [ti_add (by rw [e1, z1]; omega) (by rw [e1, z1]; omega), e1, z1]
  by_cases c : wr (s - 1 - fs A j q g) (A 0) < ln A j q g
  · rw [if_pos c, if_neg (by rw [ti_lt, e2, z0]; rw [ti_lt] at c; omega)]
  · rw [if_neg c, if_pos (by rw [ti_lt, e2, z0]; rw [ti_lt] at c; omega)]
theorem x_breaks (h : RJ M J A j) (hl : nI j < A 2) (v : VJ A j) {q a b : Nat} (hq : q < 2) (hp : A (ix j 3) = nI q) (ha : a < 6) (hb : b < 6) (s : Int32) (hc : bt (A 0) 30 120) : fX2_breaksClearance M J (nI a) (nI b) s (A 0) = some (b01 ((gr A j q a && gr A j (1 - q) b) && decide (so A j q a s + uo A j (1 - q) b s < kl A j a b))) := by
  have hc0 : 0 < (A 0).toInt := by have := hc.1; omega
  unfold fX2_breaksClearance
  simp only [bnd_e, jn_e]
  rw [h.w (by omega), hp, one_sub hq, x_green h hq ha, clp_e, b01_ite, x_green h (by omega) hb, clp_e, b01_ite, x_off h v hq hp ha s hc, clp_e, x_until h (by omega) hb s hc0, clp_e, x_clear h hl ha hb, clp_e, not01]
  cases gr A j q a <;> cases gr A j (1 - q) b <;> try rfl
  by_cases c : so A j q a s + uo A j (1 - q) b s < kl A j a b
  · simp only [if_true, if_pos c, decide_eq_true c]; rfl
  · simp only [if_true, if_neg c, decide_eq_false c]; rfl
theorem x_okc (h : RJ M J A j) (hl : nI j < A 2) (v : VJ A j) {n q : Nat} (hn : A (ix j 2) = nI n) (h6 : n ≤ 6) (hq : q < 2) (hp : A (ix j 3) = nI q) (s : Int32) (hc : bt (A 0) 30 120) : fX2_isChangeClear M J s (A 0) = some (b01 (okc A j q n s)) := by
  unfold fX2_isChangeClear
  have inner : ∀ a, a < n → ∀ k4 : Unit → Option Int32, lp (fX2_isChangeClear_L1 J s (A 0) M (nI a) k4) FU 0 = if al (fun b => !bk A j q s a b) n = true then k4 () else some 0 := fun a ha k4 => by
    refine lp_fst (fun i => nI i) (fun b => !bk A j q s a b) (rf := fun _ => some 0) n (by omega) rfl (fun i hi ht k => ?_) (fun i hi ht k => ?_) (fun k => ?_)
    · simp only [fX2_isChangeClear_L1]
      rw [if_neg (by rw [h.w (by omega), hn]; exact nI_ge hi (by omega)), x_conf h hl v (by omega) (by omega), clp_e, jn_e, b01_ite, x_breaks h hl v hq hp (by omega) (by omega) s hc, clp_e, b01_ite]
      unfold bk at ht
      simp only [bnd_e, nI_1]
      revert ht
      rw [Bool.and_assoc]
      cases cf A j a i <;> cases ((gr A j q a && gr A j (1 - q) i) && decide (so A j q a s + uo A j (1 - q) i s < kl A j a i)) <;> simp
    · simp only [fX2_isChangeClear_L1]
      rw [if_neg (by rw [h.w (by omega), hn]; exact nI_ge hi (by omega)), x_conf h hl v (by omega) (by omega), clp_e, jn_e, b01_ite, x_breaks h hl v hq hp (by omega) (by omega) s hc, clp_e, b01_ite]
      unfold bk at ht
      revert ht
      rw [Bool.and_assoc]
      cases cf A j a i <;> cases ((gr A j q a && gr A j (1 - q) i) && decide (so A j q a s + uo A j (1 - q) i s < kl A j a i)) <;> simp
    · simp only [fX2_isChangeClear_L1]
      rw [if_pos (by rw [h.w (by omega), hn]; exact nI_le (Nat.le_refl _) (by omega))]
  have main := lp_fst (f := fX2_isChangeClear_L2 J s (A 0) M) (s0 := (0 : Int32)) (fun i => nI i) (fun a => al (fun b => !bk A j q s a b) n) (rt := some (1 : Int32)) (rf := fun _ => some (0 : Int32)) n (by omega) rfl (fun i hi ht k => by
      simp only [fX2_isChangeClear_L2]
      rw [if_neg (by rw [h.w (by omega), hn]; exact nI_ge hi (by omega)), jn_e, inner i hi, if_pos ht, bnd_e, nI_1]) (fun i hi ht k => by
      simp only [fX2_isChangeClear_L2]
      rw [if_neg (by rw [h.w (by omega), hn]; exact nI_ge hi (by omega)), jn_e, inner i hi, if_neg (by rw [ht]; decide)]) (fun k => by
      simp only [fX2_isChangeClear_L2]
      rw [if_pos (by rw [h.w (by omega), hn]; exact nI_le (Nat.le_refl _) (by omega))])
  rw [main]
  unfold okc
  cases al (fun a => al (fun b => !bk A j q s a b) n) n <;> rfl
theorem x_toChange (h : RJ M J A j) (hl : nI j < A 2) (v : VJ A j) {n q c : Nat} (hn : A (ix j 2) = nI n) (h6 : n ≤ 6) (hq : q < 2) (hp : A (ix j 3) = nI q) (hc : bt (A 0) 30 120) (hcn : A 0 = nI c) (hc120 : c ≤ 120) : fX2_secondsToChange M J (A 3) (A 0) = some (scv A j q n c) := by
  have hc0 : 0 < (A 0).toInt := by have := hc.1; omega
  unfold fX2_secondsToChange
  rw [x_local h _ hc0, clp_e]
  have main := lp_fst (f := fX2_secondsToChange_L1 J (A 0) M (wr (A 3 - A (ix j 1)) (A 0))) (s0 := (0 : Int32)) (fun i => nI i) (fun d => !okc A j q n (sec A j d)) (rt := some (-1 : Int32)) (rf := fun d => some (nI d)) c (by omega) rfl (fun i hi ht k => by
      simp only [fX2_secondsToChange_L1]
      rw [if_neg (by rw [hcn]; exact nI_ge hi (by omega)), f_wrap M hc0, clp_e, show wr (wr (A 3 - A (ix j 1)) (A 0) + nI i) (A 0) = sec A j i from rfl, x_okc h hl v hn h6 hq hp _ hc, clp_e, b01_ite, if_neg (by intro z; rw [z] at ht; cases ht), bnd_e, nI_1]) (fun i hi ht k => by
      simp only [fX2_secondsToChange_L1]
      rw [if_neg (by rw [hcn]; exact nI_ge hi (by omega)), f_wrap M hc0, clp_e, show wr (wr (A 3 - A (ix j 1)) (A 0) + nI i) (A 0) = sec A j i from rfl, x_okc h hl v hn h6 hq hp _ hc, clp_e, b01_ite, if_pos (by revert ht; cases okc A j q n (sec A j i) <;> simp)]) (fun k => by
      simp only [fX2_secondsToChange_L1]
      rw [if_pos (by rw [hcn]; exact nI_le (Nat.le_refl _) (by omega))])
  rw [main]
  unfold scv
  split <;> rfl
end CH
