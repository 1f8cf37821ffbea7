/-! call: run : one second on arrays, the class's junction -/
section P73
variable {M : Mem} {J j n p : Nat} {A B : Ar} {s : Int32}
/-- a change of plans that falls due -/
def chg (A : Ar) (j : Nat) : Ar := if A (ix j 4) = A 3 then (fun k => if k = ix j 3 then 1 - A (ix j 3) else if k = ix j 4 then -1 else if 13 + 121 * j ≤ k ∧ k < 91 + 121 * j ∧ (k - (13 + 121 * j)) % 13 = 5 then 0 else A k) else A
theorem chg_o {k : Nat} (h : k < ix j 3 ∨ ix j 85 ≤ k ∨ (ix j 5 ≤ k ∧ k < ix j 7) ∨ (ix j 7 ≤ k ∧ (k - ix j 7) % 13 ≠ 5)) : chg A j k = A k := by
  unfold chg
  split
  · unfold ix at h
    dsimp only
    rw [if_neg (by unfold ix; omega), if_neg (by unfold ix; omega), if_neg (by omega)]
  · rfl
theorem chg_g {g w : Nat} (hw : w < 13) (h5 : w ≠ 5) : chg A j (gx j g w) = A (gx j g w) := chg_o (by unfold ix gx; omega)
theorem chg_c {a b : Nat} : chg A j (cx j a b) = A (cx j a b) := chg_o (by unfold ix cx; omega)
/-- served in this second -/
def sd (A : Ar) (j p : Nat) (s : Int32) (g : Nat) : Bool := on A j p g s && rq A j g && decide (s = fs A j p g) && wt A j g
def dW (A : Ar) (j p : Nat) (s : Int32) : Nat → Int32
  | 0 => 0
  | i + 1 => dW A j p s i + if sd A j p s i then A 3 - A (gx j i 4) else 0
/-- group i is lit, as the reference writes it -/
def lg1 (A B : Ar) (j p : Nat) (s : Int32) (i : Nat) : Ar :=
  if on A j p i s = true then
    if rq A j i = true then
      if s = fs A j p i then
        if wt A j i = true then upd (upd (upd (upd (upd B (gx j i 5) 1) 4 (B 4 + 1)) 5 (B 5 + (A 3 - A (gx j i 4)))) (gx j i 4) (-1)) (gx j i 3) (A (gx j i 3) + 1)
        else upd (upd B (gx j i 5) 0) (gx j i 3) (A (gx j i 3) + 0)
      else upd B (gx j i 3) (A (gx j i 3) + A (gx j i 5))
    else upd B (gx j i 3) (A (gx j i 3) + 1)
  else B
def LT (A : Ar) (j p : Nat) (s : Int32) : Nat → Ar
  | 0 => A
  | i + 1 => lg1 A (LT A j p s i) j p s i
theorem lg1_o {i k : Nat} (h4 : k ≠ 4) (h5 : k ≠ 5) (hk : k ≠ gx j i 3 ∧ k ≠ gx j i 4 ∧ k ≠ gx j i 5) : lg1 A B j p s i k = B k := by
  unfold lg1
  obtain ⟨a, b, c⟩ := hk
  split
  · split
    · split
      · split
        · rw [pk_un a, pk_un b, pk_un h5, pk_un h4, pk_un c]
        · rw [pk_un a, pk_un c]
      · rw [pk_un a]
    · rw [pk_un a]
  · rfl
theorem LT_o {k : Nat} (h4 : k ≠ 4) (h5 : k ≠ 5) : ∀ i, (∀ g, g < i → k ≠ gx j g 3 ∧ k ≠ gx j g 4 ∧ k ≠ gx j g 5) → LT A j p s i k = A k
  | 0, _ => rfl
  | i + 1, h => (lg1_o h4 h5 (h i (by omega))).trans (LT_o h4 h5 i (fun g hg => h g (by omega)))
theorem LT_g {i g w : Nat} (hw : w < 13) (h : i ≤ g ∨ w < 3 ∨ 6 ≤ w) : LT A j p s i (gx j g w) = A (gx j g w) :=
  LT_o (by unfold gx; omega) (by unfold gx; omega) i (fun q hq => ⟨fun z => by have := gx_inj hw (by omega) z; omega, fun z => by have := gx_inj hw (by omega) z; omega, fun z => by have := gx_inj hw (by omega) z; omega⟩)
theorem LT_i {i w : Nat} (hw : w < 7) : LT A j p s i (ix j w) = A (ix j w) :=
  LT_o (by unfold ix; omega) (by unfold ix; omega) i (fun q hq => ⟨by unfold ix gx; omega, by unfold ix gx; omega, by unfold ix gx; omega⟩)
theorem LT_n {i w : Nat} (hw : w < 4) : LT A j p s i w = A w :=
  LT_o (by omega) (by omega) i (fun q hq => ⟨by unfold gx; omega, by unfold gx; omega, by unfold gx; omega⟩)
theorem LT_c {i a b : Nat} (hi : i ≤ 6) : LT A j p s i (cx j a b) = A (cx j a b) :=
  LT_o (by unfold cx; omega) (by unfold cx; omega) i (fun q hq => ⟨by unfold cx gx; omega, by unfold cx gx; omega, by unfold cx gx; omega⟩)
theorem LT_far {i k : Nat} (hi : i ≤ 6) (h4 : k ≠ 4) (h5 : k ≠ 5) (hk : k < ix j 7 ∨ ix j 85 ≤ k) : LT A j p s i k = A k :=
  LT_o h4 h5 i (fun q hq => ⟨by unfold ix at hk; unfold gx; omega, by unfold ix at hk; unfold gx; omega, by unfold ix at hk; unfold gx; omega⟩)
theorem LT_on {i g q : Nat} (hq : q < 2) (t : Int32) : on (LT A j p s i) j q g t = on A j q g t := by
  unfold on fs ln
  rw [LT_g (by omega) (by omega), LT_g (by omega) (by omega), LT_n (by omega)]
theorem lg1_4 {i : Nat} : lg1 A B j p s i 4 = B 4 + (if sd A j p s i then 1 else 0) := by
  have a : ∀ w, (4 : Nat) ≠ gx j i w := fun w => by unfold gx; omega
  unfold lg1 sd
  cases on A j p i s
  · simp
  · cases rq A j i
    · simp [pk_un (a 3)]
    · by_cases e : s = fs A j p i
      · cases wt A j i
        · simp [e, pk_un (a 3), pk_un (a 5)]
        · simp [e, pk_un (a 3), pk_un (a 4), pk_un (show (4 : Nat) ≠ 5 by omega), pk_us]
      · simp [e, pk_un (a 3)]
theorem lg1_5 {i : Nat} : lg1 A B j p s i 5 = B 5 + (if sd A j p s i then A 3 - A (gx j i 4) else 0) := by
  have a : ∀ w, (5 : Nat) ≠ gx j i w := fun w => by unfold gx; omega
  unfold lg1 sd
  cases on A j p i s
  · simp
  · cases rq A j i
    · simp [pk_un (a 3)]
    · by_cases e : s = fs A j p i
      · cases wt A j i
        · simp [e, pk_un (a 3), pk_un (a 5)]
        · simp [e, pk_un (a 3), pk_un (a 4), pk_us, pk_un (show (5 : Nat) ≠ 4 by omega), pk_un (a 5)]
      · simp [e, pk_un (a 3)]
theorem LT_4 : ∀ i, LT A j p s i 4 = A 4 + nI (cn (sd A j p s) i)
  | 0 => (Int32.add_zero _).symm
  | i + 1 => by
    show lg1 A (LT A j p s i) j p s i 4 = _
    rw [lg1_4, LT_4 i, cn_1, Int32.add_assoc]
theorem LT_5 : ∀ i, LT A j p s i 5 = A 5 + dW A j p s i
  | 0 => (Int32.add_zero _).symm
  | i + 1 => by
    show lg1 A (LT A j p s i) j p s i 5 = _
    rw [lg1_5, LT_5 i, Int32.add_assoc]; rfl
/-- the bounds that a second needs -/
def GV (A : Ar) (j : Nat) : Prop := ∀ g, g < 6 → bt (A (gx j g 2)) 0 1 ∧ bt (A (gx j g 4)) (-1) 99999 ∧ bt (A (gx j g 5)) 0 1
theorem bt01 {x : Int32} (h : bt x 0 1) : x = 0 ∨ x = 1 := by
  obtain ⟨k, rfl, h1⟩ := inb_ex (n := 1) h
  rcases (show k = 0 ∨ k = 1 by omega) with rfl | rfl
  · exact Or.inl rfl
  · exact Or.inr rfl
theorem x_wait2 (h : RJ M J B j) {g : Nat} {hi : Int} (hg : g < 6) (hl : nI g < B (ix j 2)) (hv : bt (B (gx j g 4)) (-1) hi) : fX2_isWaiting M J (nI g) = some (b01 (wt B j g)) := by
  unfold fX2_isWaiting
  rw [grd_T (inb_nI hg (by omega)), nI_clamp (by omega), h.as hg hl]
  simp only [jn_e, neg_dec hv]
  unfold wt
  by_cases hx : B (gx j g 4) < 0
  · rw [if_pos hx, decide_eq_false (by rw [ti_lt] at hx; rw [ti_le]; omega)]; rfl
  · rw [if_neg hx, decide_eq_true (by rw [ti_lt] at hx; rw [ti_le]; omega)]; rfl
def Fr (M M' : Mem) (J : Nat) : Prop := ∀ o, o < J ∨ J + 10 ≤ o → M' o = M o
theorem Fr.rf (M : Mem) (J : Nat) : Fr M M J := fun _ _ => rfl
theorem Fr.tr {M1 M2 M3 : Mem} (h : Fr M1 M2 J) (h' : Fr M2 M3 J) : Fr M1 M3 J := fun o ho => (h' o ho).trans (h o ho)
theorem Fr.set {M1 M2 : Mem} {o k : Nat} {v : Int32} (h : Fr M1 M2 J) (ho : J ≤ o ∧ o < J + 10) : Fr M1 (mset M2 o k v) J := fun q hq => (ms_other _ _ _ (by omega)).trans (h q hq)
/-- what a group's green does -/
theorem x_show {i : Nat} (hB : RJ M J (LT A j p s i) j) (gvA : GV A j) (hi : i < n) (hn : A (ix j 2) = nI n) (h6 : n ≤ 6) (hp : p < 2) (hpp : A (ix j 3) = nI p) (ho : on A j p i s = true) : ∃ M', fX2_showGreen M J (nI i) s (A 3) = some ((), M') ∧ RJ M' J (LT A j p s (i + 1)) j ∧ Fr M M' J ∧ M' J 5 = M J 5 + (if sd A j p s i then 1 else 0) ∧ M' J 6 = M J 6 + (if sd A j p s i then A 3 - A (gx j i 4) else 0) := by
  have g6 : i < 6 := by omega
  have er : rq (LT A j p s i) j i = rq A j i := by unfold rq; rw [LT_g (by omega) (by omega)]
  have eg : gv (LT A j p s i) j i = gv A j i := by unfold gv; rw [LT_g (by omega) (by omega)]
  have ew : wt (LT A j p s i) j i = wt A j i := by unfold wt; rw [LT_g (by omega) (by omega)]
  have ef : fs (LT A j p s i) j p i = fs A j p i := by unfold fs; rw [LT_g (by omega) (by omega)]
  have e3 : LT A j p s i (gx j i 3) = A (gx j i 3) := LT_g (by omega) (by omega)
  have e4 : LT A j p s i (gx j i 4) = A (gx j i 4) := LT_g (by omega) (by omega)
  have e5 : LT A j p s i (gx j i 5) = A (gx j i 5) := LT_g (by omega) (by omega)
  have e2 : LT A j p s i (ix j 2) = nI n := by rw [LT_i (by omega)]; exact hn
  have hl : nI i < LT A j p s i (ix j 2) := by rw [e2]; exact nI_lt hi (by omega)
  have hgv := gvA i g6
  have hM3 : M J 3 = nI p := by rw [hB.w (by omega), LT_i (by omega)]; exact hpp
  have hlg : LT A j p s (i + 1) = lg1 A (LT A j p s i) j p s i := rfl
  have hlit : M (J + 4) i = A (gx j i 3) := by rw [hB.lt g6, e3]
  unfold fX2_showGreen
  simp only [x_byRequest hB g6, clp_e, jn_e, er, b01_ite]
  by_cases hr : rq A j i = true
  · rw [if_pos hr, hM3, x_first hB hp g6, clp_e, ef]
    by_cases hs : s = fs A j p i
    · rw [if_pos hs]
      unfold fX2_decideRequest
      simp only [x_wait2 hB g6 hl (by rw [e4]; exact hgv.2.1), clp_e, b01_ite, ew]
      by_cases hw : wt A j i = true
      · have hsd : sd A j p s i = true := by unfold sd; rw [ho, hr, hw, decide_eq_true hs]; rfl
        rw [if_pos hw, bnd_e, bnd_e, grd_T (inb_nI g6 (by omega)), bnd_e, grd_T (inb_nI g6 (by omega)), bnd_e, cl_e, nI_clamp (by omega)]
        obtain ⟨M5, hM5⟩ : ∃ z, z = mset (mset (mset (mset M J 8 (M J 8 ||| (1 <<< (nI i &&& 31)))) J 5 (M J 5 + 1)) J 6 (M J 6 + (A 3 - A (gx j i 4)))) (J + 5) i (-1) := ⟨_, rfl⟩
        have q1 : mset M J 8 (M J 8 ||| (1 <<< (nI i &&& 31))) J 5 = M J 5 := by rw [ms_at, if_neg (by omega)]
        have q2 : mset (mset M J 8 (M J 8 ||| (1 <<< (nI i &&& 31)))) J 5 (M J 5 + 1) J 6 = M J 6 := by rw [ms_at, if_neg (by omega), ms_at, if_neg (by omega)]
        have q3 : mset (mset M J 8 (M J 8 ||| (1 <<< (nI i &&& 31)))) J 5 (M J 5 + 1) (J + 5) i = A (gx j i 4) := by rw [ms_other _ _ _ (by omega), ms_other _ _ _ (by omega), hB.as g6 hl, e4]
        rw [q1, q2, q3, ← hM5]
        obtain ⟨A5, hA5⟩ : ∃ z, z = upd (upd (upd (upd (LT A j p s i) (gx j i 5) 1) 4 (LT A j p s i 4 + 1)) 5 (LT A j p s i 5 + (A 3 - A (gx j i 4)))) (gx j i 4) (-1) := ⟨_, rfl⟩
        have r1 : RJ (mset M J 8 (M J 8 ||| (1 <<< (nI i &&& 31)))) J (upd (LT A j p s i) (gx j i 5) 1) j := by
          rw [hB.gv, bit6_set _ g6]
          refine u_gv _ _ (pk_un (by unfold gx; omega)) (fun k hk hne => pk_un (hne i g6)) (fun g hg => ?_) hB
          unfold gv
          by_cases c : g = i
          · subst c; rw [if_pos rfl, up_at, if_pos rfl]; rfl
          · rw [if_neg c, pk_un (fun z => c (gx_inj (by omega) (by omega) z).1)]
        have r2 : RJ M5 J A5 j := by
          rw [hM5, hA5]
          refine u_as g6 ?_ _ (RJ_cong (A := upd (LT A j p s i) (gx j i 5) 1) ?_ (fun k hk => ?_) (u_56 (Or.inr rfl) _ (u_56 (Or.inl rfl) _ r1)))
          · rw [pk_un (by unfold ix; omega), pk_un (by unfold ix; omega), pk_un (by unfold ix gx; omega)]; exact hl
          · rw [pk_un (by omega), pk_un (by omega)]
          · rw [pk_un (by unfold ix; omega), pk_un (by unfold ix; omega)]
        have a2 : rq A5 j i = true := by
          rw [← hr]; unfold rq
          rw [hA5, pk_un (fun z => by have := gx_inj (by omega) (by omega) z; omega), pk_un (by unfold gx; omega), pk_un (by unfold gx; omega), pk_un (fun z => by have := gx_inj (by omega) (by omega) z; omega), LT_g (by omega) (by omega)]
        have a3 : gv A5 j i = true := by
          unfold gv
          rw [hA5, pk_un (fun z => by have := gx_inj (by omega) (by omega) z; omega), pk_un (by unfold gx; omega), pk_un (by unfold gx; omega), up_at, if_pos rfl]; rfl
        have m4 : M5 (J + 4) i = A (gx j i 3) := by
          rw [hM5, ms_other _ _ _ (by omega), ms_other _ _ _ (by omega), ms_other _ _ _ (by omega), ms_other _ _ _ (by omega)]; exact hlit
        simp only [x_byRequest r2 g6, x_given r2 g6, clp_e, a2, a3, b01_ite, if_true, grd_T (inb_nI g6 (show 6 < 2 ^ 31 by omega)), bnd_e, nI_clamp (show i < 2 ^ 31 by omega), m4]
        refine ⟨_, rfl, ?_, ?_, ?_, ?_⟩
        · rw [hlg]; unfold lg1; rw [if_pos ho, if_pos hr, if_pos hs, if_pos hw, ← hA5]
          exact u_lit g6 _ r2
        · rw [hM5]
          exact ((((Fr.rf M J).set (by omega)).set (by omega)).set (by omega)).set (by omega) |>.set (by omega)
        · rw [hsd, if_pos rfl, ms_at, if_neg (by omega), hM5, ms_at, if_neg (by omega), ms_at, if_neg (by omega), ms_at, if_pos ⟨rfl, rfl⟩]
        · rw [hsd, if_pos rfl, ms_at, if_neg (by omega), hM5, ms_at, if_neg (by omega), ms_at, if_pos ⟨rfl, rfl⟩]
      · have hsd : sd A j p s i = false := by unfold sd; simp [hw]
        rw [if_neg hw, bnd_e, cl_e]
        have r1 : RJ (mset M J 8 (M J 8 &&& ((1 <<< (nI i &&& 31)) ^^^ (-1)))) J (upd (LT A j p s i) (gx j i 5) 0) j := by
          rw [hB.gv, bit6_clr _ g6]
          refine u_gv _ _ (pk_un (by unfold gx; omega)) (fun k hk hne => pk_un (hne i g6)) (fun g hg => ?_) hB
          unfold gv
          by_cases c : g = i
          · subst c; rw [if_pos rfl, up_at, if_pos rfl]; rfl
          · rw [if_neg c, pk_un (fun z => c (gx_inj (by omega) (by omega) z).1)]
        have a2 : rq (upd (LT A j p s i) (gx j i 5) 0) j i = true := by
          rw [← hr]; unfold rq
          rw [pk_un (fun z => by have := gx_inj (by omega) (by omega) z; omega), LT_g (by omega) (by omega)]
        have a3 : gv (upd (LT A j p s i) (gx j i 5) 0) j i = false := by
          unfold gv
          rw [up_at, if_pos rfl]; rfl
        simp only [x_byRequest r1 g6, x_given r1 g6, clp_e, a2, a3, b01_ite, if_true]
        rw [if_neg (by decide)]
        refine ⟨_, rfl, ?_, (Fr.rf M J).set (by omega), ?_, ?_⟩
        · rw [hlg]; unfold lg1; rw [if_pos ho, if_pos hr, if_pos hs, if_neg hw, Int32.add_zero]
          refine RJ_cong ?_ (fun k hk => ?_) r1
          · rw [pk_un (by unfold gx; omega)]
          · rw [up_at]
            split
            · rename_i z
              rw [z, pk_un (fun z => by have := gx_inj (by omega) (by omega) z; omega), e3]
            · rfl
        · rw [hsd, if_neg (by decide), ms_at, if_neg (by omega), Int32.add_zero]
        · rw [hsd, if_neg (by decide), ms_at, if_neg (by omega), Int32.add_zero]
    · have hsd : sd A j p s i = false := by unfold sd; simp [hs]
      rw [if_neg hs]
      simp only [x_byRequest hB g6, x_given hB g6, clp_e, er, eg, hr, b01_ite, if_true]
      by_cases hg : gv A j i = true
      · have hg1 : A (gx j i 5) = 1 := by unfold gv at hg; exact decide_eq_true_iff.mp hg
        rw [if_pos hg]
        simp only [grd_T (inb_nI g6 (show 6 < 2 ^ 31 by omega)), bnd_e, nI_clamp (show i < 2 ^ 31 by omega), hlit]
        refine ⟨_, rfl, ?_, (Fr.rf M J).set (by omega), ?_, ?_⟩
        · rw [hlg]; unfold lg1; rw [if_pos ho, if_pos hr, if_neg hs, hg1]
          exact u_lit g6 _ hB
        · rw [hsd, if_neg (by decide), ms_at, if_neg (by omega), Int32.add_zero]
        · rw [hsd, if_neg (by decide), ms_at, if_neg (by omega), Int32.add_zero]
      · have hg0 : A (gx j i 5) = 0 := by
          rcases bt01 hgv.2.2 with z | z
          · exact z
          · exact absurd (by unfold gv; rw [z]; rfl) hg
        rw [if_neg hg]
        refine ⟨_, rfl, ?_, Fr.rf M J, ?_, ?_⟩
        · rw [hlg]; unfold lg1; rw [if_pos ho, if_pos hr, if_neg hs, hg0, Int32.add_zero]
          refine RJ_cong ?_ (fun k hk => ?_) hB
          · rw [pk_un (by unfold gx; omega)]
          · rw [up_at]
            split
            · rename_i z
              rw [z, e3]
            · rfl
        · rw [hsd, if_neg (by decide), Int32.add_zero]
        · rw [hsd, if_neg (by decide), Int32.add_zero]
  · have hsd : sd A j p s i = false := by unfold sd; simp [hr]
    rw [if_neg hr, if_neg hr]
    simp only [grd_T (inb_nI g6 (show 6 < 2 ^ 31 by omega)), bnd_e, nI_clamp (show i < 2 ^ 31 by omega), hlit]
    refine ⟨_, rfl, ?_, (Fr.rf M J).set (by omega), ?_, ?_⟩
    · rw [hlg]; unfold lg1; rw [if_pos ho, if_neg hr]
      exact u_lit g6 _ hB
    · rw [hsd, if_neg (by decide), ms_at, if_neg (by omega), Int32.add_zero]
    · rw [hsd, if_neg (by decide), ms_at, if_neg (by omega), Int32.add_zero]
/-- a junction's second, its plan chosen -/
theorem x_lights (hC : RJ M J A j) (gvA : GV A j) (hn : A (ix j 2) = nI n) (h6 : n ≤ 6) (hp : p < 2) (hpp : A (ix j 3) = nI p) (hc : 0 < (A 0).toInt) (k6 : Mem → Option (Int32 × Mem)) (hk : ∀ K, k6 K = some (K J 5 - M J 5, K)) : ∃ M', lp (fX2_letSecondPass_L1 J (A 3) (A 0) s k6) FU (0, M) = some (nI (cn (sd A j p s) n), M') ∧ RJ M' J (LT A j p s n) j ∧ Fr M M' J ∧ M' J 5 = M J 5 + nI (cn (sd A j p s) n) ∧ M' J 6 = M J 6 + dW A j p s n := by
  refine lp_inv (f := fX2_letSecondPass_L1 J (A 3) (A 0) s k6) (fun i (t : Int32 × Mem) => t.1 = nI i ∧ RJ t.2 J (LT A j p s i) j ∧ Fr M t.2 J ∧ t.2 J 5 = M J 5 + nI (cn (sd A j p s) i) ∧ t.2 J 6 = M J 6 + dW A j p s i) (fun r => ∃ M', r = some (nI (cn (sd A j p s) n), M') ∧ RJ M' J (LT A j p s n) j ∧ Fr M M' J ∧ M' J 5 = M J 5 + nI (cn (sd A j p s) n) ∧ M' J 6 = M J 6 + dW A j p s n) n (by omega) (fun i hi t ht => Or.inl ?_) (fun t ht => ?_) (0, M) ⟨rfl, hC, Fr.rf M J, (Int32.add_zero _).symm, (Int32.add_zero _).symm⟩
  · obtain ⟨x, K⟩ := t
    obtain ⟨h1, h2, h3, h4, h5⟩ := ht
    dsimp only at h1 h2 h3 h4 h5
    subst h1
    have e2 : LT A j p s i (ix j 2) = nI n := by rw [LT_i (by omega)]; exact hn
    have e0 : LT A j p s i 0 = A 0 := LT_n (by omega)
    have hK3 : K J 3 = nI p := by rw [h2.w (by omega), LT_i (by omega)]; exact hpp
    have hon := x_on h2 hp (show i < 6 by omega) s (by rw [e0]; exact hc)
    rw [e0, LT_on hp] at hon
    by_cases ho : on A j p i s = true
    · obtain ⟨M', m1, m2, m3, m4, m5⟩ := x_show h2 gvA hi hn h6 hp hpp ho
      refine ⟨(nI (i + 1), M'), ⟨rfl, m2, h3.tr m3, ?_, ?_⟩, fun k => ?_⟩
      · show M' J 5 = _
        rw [m4, h4, cn_1, Int32.add_assoc]
      · show M' J 6 = _
        rw [m5, h5, Int32.add_assoc]; rfl
      · simp only [fX2_letSecondPass_L1]
        rw [if_neg (by rw [h2.w (by omega), e2]; exact nI_ge hi (by omega)), hK3, hon, clp_e, jn_e, b01_ite, if_pos ho, m1, cl_e]
        dsimp only
        rw [bnd_e, nI_1]
    · have hsd : sd A j p s i = false := by unfold sd; simp [ho]
      refine ⟨(nI (i + 1), K), ⟨rfl, ?_, h3, ?_, ?_⟩, fun k => ?_⟩
      · show RJ K J (lg1 A (LT A j p s i) j p s i) j
        unfold lg1; rw [if_neg ho]; exact h2
      · show K J 5 = _
        rw [h4, cn_1, hsd, if_neg (by decide), Int32.add_zero]
      · show K J 6 = M J 6 + (dW A j p s i + (if sd A j p s i = true then _ else 0))
        rw [h5, hsd, if_neg (by decide), Int32.add_zero]
      · simp only [fX2_letSecondPass_L1]
        rw [if_neg (by rw [h2.w (by omega), e2]; exact nI_ge hi (by omega)), hK3, hon, clp_e, jn_e, b01_ite, if_neg ho]
        dsimp only
        rw [bnd_e, nI_1]
  · obtain ⟨x, K⟩ := t
    obtain ⟨h1, h2, h3, h4, h5⟩ := ht
    dsimp only at h1 h2 h3 h4 h5
    subst h1
    have e2 : LT A j p s n (ix j 2) = nI n := by rw [LT_i (by omega)]; exact hn
    refine ⟨_, ⟨K, rfl, h2, h3, h4, h5⟩, fun k => ?_⟩
    simp only [fX2_letSecondPass_L1]
    rw [if_pos (by rw [h2.w (by omega), e2]; exact nI_le (Nat.le_refl _) (by omega)), hk K, h4, Int32.add_comm, Int32.add_sub_cancel]
theorem x_chg (h : RJ M J A j) (hl : nI j < A 2) (e : A (ix j 4) = A 3) : RJ (mset (mset (mset M J 3 (1 - M J 3)) J 4 (-1)) J 8 0) J (chg A j) j := by
  have h1 := u_ch (v := -1) (j := j) (by rw [pk_un (by unfold ix; omega)]; exact hl) (u_plan (1 - A (ix j 3)) h)
  rw [h.w (by omega), ← bits_none]
  refine u_gv (fun _ => false) (chg A j) ?_ (fun k hk hne => ?_) (fun g hg => ?_) h1
  · unfold chg; rw [if_pos e]
    rw [pk_un (by unfold ix; omega), pk_un (by unfold ix; omega), if_neg (by unfold ix; omega), if_neg (by unfold ix; omega), if_neg (by omega)]
  · unfold chg; rw [if_pos e]
    by_cases c3 : k = 3
    · subst c3; rw [if_pos rfl, pk_un (by unfold ix; omega), up_at, if_pos rfl]
    · rw [if_neg (by unfold ix; omega)]
      by_cases c4 : k = 4
      · subst c4; rw [if_pos rfl, up_at, if_pos rfl]
      · rw [if_neg (by unfold ix; omega), pk_un (by unfold ix; omega), pk_un (by unfold ix; omega), if_neg]
        intro z
        refine hne ((k - 7) / 13) (by unfold ix at z; omega) ?_
        unfold ix gx; unfold ix at z; omega
  · unfold gv chg; rw [if_pos e]
    rw [if_neg (by unfold ix gx; omega), if_neg (by unfold ix gx; omega), if_pos (by unfold gx; omega)]; rfl
theorem x_second (h : RJ M J A j) (hl : nI j < A 2) (gvC : GV (chg A j) j) (hn : A (ix j 2) = nI n) (h6 : n ≤ 6) (hp : p < 2) (hpp : chg A j (ix j 3) = nI p) (hc : 0 < (A 0).toInt) : ∃ M', fX2_letSecondPass M J (A 3) (A 0) = some (nI (cn (sd (chg A j) j p (wr (A 3 - A (ix j 1)) (A 0))) n), M') ∧ RJ M' J (LT (chg A j) j p (wr (A 3 - A (ix j 1)) (A 0)) n) j ∧ Fr M M' J ∧ M' J 5 = M J 5 + nI (cn (sd (chg A j) j p (wr (A 3 - A (ix j 1)) (A 0))) n) ∧ M' J 6 = M J 6 + dW (chg A j) j p (wr (A 3 - A (ix j 1)) (A 0)) n := by
  have c0 : chg A j 0 = A 0 := chg_o (by unfold ix; omega)
  have c3 : chg A j 3 = A 3 := chg_o (by unfold ix; omega)
  have c1 : chg A j (ix j 1) = A (ix j 1) := chg_o (by unfold ix; omega)
  have c2 : chg A j (ix j 2) = nI n := by rw [chg_o (by unfold ix; omega)]; exact hn
  unfold fX2_letSecondPass
  simp only [jn_e, bnd_e, h.ch hl]
  have run : ∀ K : Mem, RJ K J (chg A j) j → Fr M K J → K J 5 = M J 5 → K J 6 = M J 6 → ∃ M', clp (fX2_localSecond K J (A 3) (A 0)) (fun x4 => lp (fX2_letSecondPass_L1 J (A 3) (A 0) x4 (fun a5 => some ((a5 J 5) - K J 5, a5))) FU (0, K)) = some (nI (cn (sd (chg A j) j p (wr (A 3 - A (ix j 1)) (A 0))) n), M') ∧ RJ M' J (LT (chg A j) j p (wr (A 3 - A (ix j 1)) (A 0)) n) j ∧ Fr M M' J ∧ M' J 5 = M J 5 + nI (cn (sd (chg A j) j p (wr (A 3 - A (ix j 1)) (A 0))) n) ∧ M' J 6 = M J 6 + dW (chg A j) j p (wr (A 3 - A (ix j 1)) (A 0)) n := fun K hK hF h5 h6' => by
    have hx := x_local hK (A 3) (by rw [c0]; exact hc)
    rw [c0, c1] at hx
    have hm := x_lights (s := wr (A 3 - A (ix j 1)) (A 0)) hK gvC c2 h6 hp hpp (by rw [c0]; exact hc) (fun a5 => some ((a5 J 5) - K J 5, a5)) (fun _ => rfl)
    rw [c0, c3] at hm
    obtain ⟨M', m1, m2, m3, m4, m5⟩ := hm
    refine ⟨M', ?_, m2, hF.tr m3, by rw [m4, h5], by rw [m5, h6']⟩
    rw [hx, clp_e]; exact m1
  by_cases e : A (ix j 4) = A 3
  · rw [if_pos e]
    exact run _ (x_chg h hl e) ((((Fr.rf M J).set (by omega)).set (by omega)).set (by omega)) (by rw [ms_at, if_neg (by omega), ms_at, if_neg (by omega), ms_at, if_neg (by omega)]) (by rw [ms_at, if_neg (by omega), ms_at, if_neg (by omega), ms_at, if_neg (by omega)])
  · rw [if_neg e]
    have ec : chg A j = A := by unfold chg; rw [if_neg e]
    exact run M (by rw [ec]; exact h) (Fr.rf M J) rfl rfl
end P73
