/-! call: picture : first words -/
theorem bits_64 (p : Nat → Bool) {n : Nat} (h6 : n ≤ 6) : ∃ x : Nat, x < 64 ∧ bits p n = nI x := by
  have e : bits p n = bits (fun i => [p 0, p 1, p 2, p 3, p 4, p 5].getD i false) n := bits_cong n (fun i hi => six p i (by omega))
  have main : ∀ (b0 b1 b2 b3 b4 b5 : Bool) (n : Fin 7), (bits (fun i => [b0, b1, b2, b3, b4, b5].getD i false) n.1).toNatClampNeg < 64 ∧ bits (fun i => [b0, b1, b2, b3, b4, b5].getD i false) n.1 = nI (bits (fun i => [b0, b1, b2, b3, b4, b5].getD i false) n.1).toNatClampNeg := by decide +kernel
  rw [e]
  have m := main (p 0) (p 1) (p 2) (p 3) (p 4) (p 5) ⟨n, by omega⟩
  exact ⟨_, m.1, m.2⟩
theorem sh64 : ∀ a : Fin 64, (nI a.1).toInt64.toUInt64 &&& Int64.toUInt64 63 = UInt64.ofNat a.1 ∧ ((1 : Int64) <<< ((nI a.1).toInt64 &&& 63)).toBitVec = BitVec.twoPow 64 a.1 := by decide +kernel
/-- bit x of a mask -/
def mb (m : Int64) (x : Nat) : Bool := m.toBitVec.getLsbD x
theorem mb_or (m : Int64) {a : Nat} (h : a < 64) (x : Nat) : mb (m ||| ((1 : Int64) <<< ((nI a).toInt64 &&& 63))) x = (mb m x || decide (a = x)) := by
  unfold mb
  rw [Int64.toBitVec_or, (sh64 ⟨a, h⟩).2, BitVec.getLsbD_or, BitVec.getLsbD_twoPow]
  simp [h]
/-- values new at i, their count -/
def vnw (v : Nat → Nat) (i : Nat) : Bool := al (fun s => !decide (v s = v i)) i
theorem vnw_T {v : Nat → Nat} {i : Nat} : vnw v i = true ↔ ∀ s, s < i → v s ≠ v i := by
  unfold vnw
  rw [al_T]
  exact ⟨fun h s hs z => by have := h s hs; simp [z] at this, fun h s hs => by simp [h s hs]⟩
theorem vnw_ex {v : Nat → Nat} {x : Nat} : ∀ i, (∃ s, s < i ∧ v s = x) → ∃ s, s < i ∧ v s = x ∧ vnw v s = true
  | 0, ⟨s, h, _⟩ => absurd h (by omega)
  | i + 1, ⟨s, h, e⟩ => by
    by_cases c : ∃ s, s < i ∧ v s = x
    · obtain ⟨s, h1, h2, h3⟩ := vnw_ex i c
      exact ⟨s, by omega, h2, h3⟩
    · have es : s = i := by
        by_cases z : s < i
        · exact absurd ⟨s, z, e⟩ c
        · omega
      subst es
      exact ⟨s, h, e, vnw_T.mpr (fun q hq z => c ⟨q, hq, z.trans e⟩)⟩
def mk (v : Nat → Nat) : Nat → Int64
  | 0 => 0
  | i + 1 => if vnw v i then mk v i ||| ((1 : Int64) <<< ((nI (v i)).toInt64 &&& 63)) else mk v i
theorem mk_bit {v : Nat → Nat} (h : ∀ s, v s < 64) {x : Nat} : ∀ i, mb (mk v i) x = true ↔ ∃ s, s < i ∧ v s = x
  | 0 => ⟨fun z => absurd z (by unfold mb mk; simp), fun ⟨s, h, _⟩ => absurd h (by omega)⟩
  | i + 1 => by
    have ih := mk_bit (x := x) h i
    unfold mk
    by_cases c : vnw v i = true
    · rw [if_pos c, mb_or _ (h i), Bool.or_eq_true, ih, decide_eq_true_iff]
      exact ⟨fun z => z.elim (fun ⟨s, a, b⟩ => ⟨s, by omega, b⟩) (fun z => ⟨i, by omega, z⟩), fun ⟨s, a, b⟩ => by
        by_cases e : s = i
        · subst e; exact Or.inr b
        · exact Or.inl ⟨s, by omega, b⟩⟩
    · rw [if_neg c, ih]
      have cc : ∃ s, s < i ∧ v s = v i := by
        by_cases z : ∃ s, s < i ∧ v s = v i
        · exact z
        · exact absurd (vnw_T.mpr (fun s hs e => z ⟨s, hs, e⟩)) c
      obtain ⟨s0, a0, b0⟩ := cc
      exact ⟨fun ⟨s, a, b⟩ => ⟨s, by omega, b⟩, fun ⟨s, a, b⟩ => by
        by_cases e : s = i
        · subst e; exact ⟨s0, a0, b0.trans b⟩
        · exact ⟨s, by omega, b⟩⟩
theorem cn_at {p : Nat → Bool} {k : Nat} : ∀ n, k < cn p n → ∃ s, s < n ∧ p s = true ∧ cn p s = k
  | 0, h => absurd h (by simp [cn])
  | n + 1, h => by
    by_cases c : k < cn p n
    · obtain ⟨s, a, b, d⟩ := cn_at n c
      exact ⟨s, by omega, b, d⟩
    · simp only [cn] at h
      by_cases q : p n = true
      · rw [if_pos q] at h; exact ⟨n, by omega, q, by omega⟩
      · rw [if_neg q] at h; omega
theorem cn_s {p : Nat → Bool} {s : Nat} (h : p s = true) : cn p (s + 1) = cn p s + 1 := by simp only [cn]; rw [if_pos h]
def rmm (v : Nat → Nat) (N : Mem) : Nat → Mem
  | 0 => N
  | i + 1 => mset (rmm v N i) 11 (cn (vnw v) i) (nI (v i))
theorem rmm_o (v : Nat → Nat) (N : Mem) {r : Nat} (hr : r ≠ 11) : ∀ i, rmm v N i r = N r
  | 0 => rfl
  | i + 1 => (ms_other _ _ _ hr).trans (rmm_o v N hr i)
theorem rmm_at (v : Nat → Nat) (N : Mem) {s : Nat} (hs : vnw v s = true) : ∀ i, s < i → rmm v N i 11 (cn (vnw v) s) = nI (v s)
  | 0, h => absurd h (by omega)
  | i + 1, h => by
    show mset _ 11 _ _ 11 _ = _
    rw [ms_at]
    by_cases e : s = i
    · subst e; rw [if_pos ⟨rfl, rfl⟩]
    · have h2 := cn_mono (vnw v) (show s + 1 ≤ i by omega)
      rw [cn_s hs] at h2
      rw [if_neg (fun z => by omega)]; exact rmm_at v N hs i (by omega)
theorem lg0 (x : Int64) : lg_cmp x 0 = 0 ↔ x = 0 := by
  unfold lg_cmp
  by_cases h : x > 0
  · rw [if_pos h]; exact ⟨fun z => absurd z (by decide), fun z => absurd h (by rw [z]; decide)⟩
  · rw [if_neg h]
    by_cases e : x = 0
    · rw [if_pos e]; exact ⟨fun _ => e, fun _ => rfl⟩
    · rw [if_neg e]; exact ⟨fun z => absurd z (by decide), fun z => absurd z e⟩
theorem mb_get (m : Int64) {a : Nat} (h : a < 64) : (lg_cmp (((m.toUInt64 >>> ((nI a).toInt64.toUInt64 &&& Int64.toUInt64 63)).toInt64) &&& 1) 0 = 0) ↔ mb m a = false := by
  have e : ((((m.toUInt64 >>> UInt64.ofNat a).toInt64) &&& 1 : Int64)).toBitVec = (m.toBitVec >>> a) &&& 1#64 := by
    rw [Int64.toBitVec_and]
    show (m.toUInt64 >>> UInt64.ofNat a).toBitVec &&& 1#64 = _
    rw [UInt64.toBitVec_shiftRight]
    show (m.toBitVec >>> ((UInt64.ofNat a).toBitVec % 64)) &&& 1#64 = _
    rw [BitVec.ushiftRight_eq', BitVec.toNat_umod]
    have e2 : (UInt64.ofNat a).toBitVec.toNat % (64 : BitVec 64).toNat = a := by
      show a % 2 ^ 64 % 64 = a
      omega
    rw [e2]
  rw [lg0, (sh64 ⟨a, h⟩).1, ← Int64.toBitVec_inj, e]
  unfold mb
  constructor
  · intro z
    have := congrArg (fun b => b.getLsbD 0) z
    simpa using this
  · intro z
    show _ = 0#64
    ext i hi
    by_cases c : i = 0
    · subst c
      have z' : m.toBitVec.toNat.testBit a = false := (BitVec.testBit_toNat _).trans z
      simp [BitVec.getElem_eq_testBit_toNat, z']
    · simp [c]
