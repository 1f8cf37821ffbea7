/-! one cell of a junction written on both sides -/
section UP
variable {M : Mem} {J : Nat} {A : Ar} {j : Nat}
theorem u_off  (v : Int32) (h : RJ M J A j) : RJ (mset M J (1) v) J (upd A (ix j 1) v) j := by
  obtain ⟨h1, h2, h3, h4, h5, h6, h7, h8, h9, h10, h11, h12, h13⟩ := h
  have e2 : upd A (ix j 1) v 2 = A 2 := pk_un (by unfold ix; omega)
  have es : upd A (ix j 1) v (ix j 2) = A (ix j 2) := pk_un (by unfold ix; omega)
  refine ⟨?_, ?_, ?_, ?_, ?_, ?_, ?_, ?_, ?_, ?_, ?_, ?_, ?_⟩
  · intro w hw
    by_cases e : w = 1
    · rw [ms_at, if_pos ⟨rfl, e⟩]; rw [up_at, if_pos (by unfold ix; omega)]
    · rw [ms_at, if_neg (fun z => e z.2)]; rw [pk_un (by unfold ix; omega)]; exact h1 w hw
  · by_cases e : 4 = 1
    · omega
    · rw [ms_at, if_neg (fun z => e z.2)]; unfold lvj; rw [e2, pk_un (by unfold ix; omega)]; exact h2
  · rw [ms_at, if_neg (by omega), h3]
    refine bits_cong 6 (fun q hq => ?_)
    unfold rq
    rw [pk_un (by unfold gx ix; omega)]
  · rw [ms_at, if_neg (by omega), h4]
    refine bits_cong 6 (fun q hq => ?_)
    unfold gv
    rw [pk_un (by unfold gx ix; omega)]
  · intro d hd
    rw [ms_other _ _ _ (by omega)]; unfold lvj; rw [e2, pk_un (by unfold ix; omega)]; exact h5 d hd
  · intro g hg
    rw [ms_other _ _ _ (by omega)]; rw [pk_un (by unfold gx ix; omega)]; exact h6 g hg
  · intro g hg
    rw [ms_other _ _ _ (by omega)]; rw [pk_un (by unfold gx ix; omega)]; exact h7 g hg
  · intro g hg
    rw [ms_other _ _ _ (by omega)]; rw [pk_un (by unfold gx ix; omega)]; exact h8 g hg
  · intro g hg
    rw [ms_other _ _ _ (by omega)]; unfold lvg; rw [es, pk_un (by unfold gx ix; omega)]; exact h9 g hg
  · intro g hg p hp
    rw [ms_other _ _ _ (by omega)]; unfold lvg; rw [es, pk_un (by unfold gx ix; omega)]; exact h10 g hg p hp
  · intro a ha b hb
    rw [ms_other _ _ _ (by omega)]; unfold lvj kl; rw [e2, pk_un (by unfold cx ix; omega)]; exact h11 a ha b hb
  · intro p hp g hg
    rw [ms_other _ _ _ (by omega)]; unfold fs; rw [pk_un (by unfold gx ix; omega)]; exact h12 p hp g hg
  · intro p hp g hg
    rw [ms_other _ _ _ (by omega)]; unfold ln; rw [pk_un (by unfold gx ix; omega)]; exact h13 p hp g hg
theorem u_plan  (v : Int32) (h : RJ M J A j) : RJ (mset M J (3) v) J (upd A (ix j 3) v) j := by
  obtain ⟨h1, h2, h3, h4, h5, h6, h7, h8, h9, h10, h11, h12, h13⟩ := h
  have e2 : upd A (ix j 3) v 2 = A 2 := pk_un (by unfold ix; omega)
  have es : upd A (ix j 3) v (ix j 2) = A (ix j 2) := pk_un (by unfold ix; omega)
  refine ⟨?_, ?_, ?_, ?_, ?_, ?_, ?_, ?_, ?_, ?_, ?_, ?_, ?_⟩
  · intro w hw
    by_cases e : w = 3
    · rw [ms_at, if_pos ⟨rfl, e⟩]; rw [up_at, if_pos (by unfold ix; omega)]
    · rw [ms_at, if_neg (fun z => e z.2)]; rw [pk_un (by unfold ix; omega)]; exact h1 w hw
  · by_cases e : 4 = 3
    · omega
    · rw [ms_at, if_neg (fun z => e z.2)]; unfold lvj; rw [e2, pk_un (by unfold ix; omega)]; exact h2
  · rw [ms_at, if_neg (by omega), h3]
    refine bits_cong 6 (fun q hq => ?_)
    unfold rq
    rw [pk_un (by unfold gx ix; omega)]
  · rw [ms_at, if_neg (by omega), h4]
    refine bits_cong 6 (fun q hq => ?_)
    unfold gv
    rw [pk_un (by unfold gx ix; omega)]
  · intro d hd
    rw [ms_other _ _ _ (by omega)]; unfold lvj; rw [e2, pk_un (by unfold ix; omega)]; exact h5 d hd
  · intro g hg
    rw [ms_other _ _ _ (by omega)]; rw [pk_un (by unfold gx ix; omega)]; exact h6 g hg
  · intro g hg
    rw [ms_other _ _ _ (by omega)]; rw [pk_un (by unfold gx ix; omega)]; exact h7 g hg
  · intro g hg
    rw [ms_other _ _ _ (by omega)]; rw [pk_un (by unfold gx ix; omega)]; exact h8 g hg
  · intro g hg
    rw [ms_other _ _ _ (by omega)]; unfold lvg; rw [es, pk_un (by unfold gx ix; omega)]; exact h9 g hg
  · intro g hg p hp
    rw [ms_other _ _ _ (by omega)]; unfold lvg; rw [es, pk_un (by unfold gx ix; omega)]; exact h10 g hg p hp
  · intro a ha b hb
    rw [ms_other _ _ _ (by omega)]; unfold lvj kl; rw [e2, pk_un (by unfold cx ix; omega)]; exact h11 a ha b hb
  · intro p hp g hg
    rw [ms_other _ _ _ (by omega)]; unfold fs; rw [pk_un (by unfold gx ix; omega)]; exact h12 p hp g hg
  · intro p hp g hg
    rw [ms_other _ _ _ (by omega)]; unfold ln; rw [pk_un (by unfold gx ix; omega)]; exact h13 p hp g hg
theorem u_ch (hl : nI j < A 2) (v : Int32) (h : RJ M J A j) : RJ (mset M J (4) v) J (upd A (ix j 4) v) j := by
  obtain ⟨h1, h2, h3, h4, h5, h6, h7, h8, h9, h10, h11, h12, h13⟩ := h
  have e2 : upd A (ix j 4) v 2 = A 2 := pk_un (by unfold ix; omega)
  have es : upd A (ix j 4) v (ix j 2) = A (ix j 2) := pk_un (by unfold ix; omega)
  refine ⟨?_, ?_, ?_, ?_, ?_, ?_, ?_, ?_, ?_, ?_, ?_, ?_, ?_⟩
  · intro w hw
    by_cases e : w = 4
    · omega
    · rw [ms_at, if_neg (fun z => e z.2)]; rw [pk_un (by unfold ix; omega)]; exact h1 w hw
  · by_cases e : 4 = 4
    · rw [ms_at, if_pos ⟨rfl, e⟩]; unfold lvj; rw [e2, if_pos hl, up_at, if_pos (by unfold ix; omega)]
    · rw [ms_at, if_neg (fun z => e z.2)]; unfold lvj; rw [e2, pk_un (by unfold ix; omega)]; exact h2
  · rw [ms_at, if_neg (by omega), h3]
    refine bits_cong 6 (fun q hq => ?_)
    unfold rq
    rw [pk_un (by unfold gx ix; omega)]
  · rw [ms_at, if_neg (by omega), h4]
    refine bits_cong 6 (fun q hq => ?_)
    unfold gv
    rw [pk_un (by unfold gx ix; omega)]
  · intro d hd
    rw [ms_other _ _ _ (by omega)]; unfold lvj; rw [e2, pk_un (by unfold ix; omega)]; exact h5 d hd
  · intro g hg
    rw [ms_other _ _ _ (by omega)]; rw [pk_un (by unfold gx ix; omega)]; exact h6 g hg
  · intro g hg
    rw [ms_other _ _ _ (by omega)]; rw [pk_un (by unfold gx ix; omega)]; exact h7 g hg
  · intro g hg
    rw [ms_other _ _ _ (by omega)]; rw [pk_un (by unfold gx ix; omega)]; exact h8 g hg
  · intro g hg
    rw [ms_other _ _ _ (by omega)]; unfold lvg; rw [es, pk_un (by unfold gx ix; omega)]; exact h9 g hg
  · intro g hg p hp
    rw [ms_other _ _ _ (by omega)]; unfold lvg; rw [es, pk_un (by unfold gx ix; omega)]; exact h10 g hg p hp
  · intro a ha b hb
    rw [ms_other _ _ _ (by omega)]; unfold lvj kl; rw [e2, pk_un (by unfold cx ix; omega)]; exact h11 a ha b hb
  · intro p hp g hg
    rw [ms_other _ _ _ (by omega)]; unfold fs; rw [pk_un (by unfold gx ix; omega)]; exact h12 p hp g hg
  · intro p hp g hg
    rw [ms_other _ _ _ (by omega)]; unfold ln; rw [pk_un (by unfold gx ix; omega)]; exact h13 p hp g hg
theorem u_rd {d0 : Nat} (hd0 : d0 < 2) (hl : nI j < A 2) (v : Int32) (h : RJ M J A j) : RJ (mset M (J + 1) (d0) v) J (upd A (ix j (5 + d0)) v) j := by
  obtain ⟨h1, h2, h3, h4, h5, h6, h7, h8, h9, h10, h11, h12, h13⟩ := h
  have e2 : upd A (ix j (5 + d0)) v 2 = A 2 := pk_un (by unfold ix; omega)
  have es : upd A (ix j (5 + d0)) v (ix j 2) = A (ix j 2) := pk_un (by unfold ix; omega)
  refine ⟨?_, ?_, ?_, ?_, ?_, ?_, ?_, ?_, ?_, ?_, ?_, ?_, ?_⟩
  · intro w hw
    rw [ms_other _ _ _ (by omega)]; rw [pk_un (by unfold ix; omega)]; exact h1 w hw
  · rw [ms_other _ _ _ (by omega)]; unfold lvj; rw [e2, pk_un (by unfold ix; omega)]; exact h2
  · rw [ms_other _ _ _ (by omega), h3]
    refine bits_cong 6 (fun q hq => ?_)
    unfold rq
    rw [pk_un (by unfold gx ix; omega)]
  · rw [ms_other _ _ _ (by omega), h4]
    refine bits_cong 6 (fun q hq => ?_)
    unfold gv
    rw [pk_un (by unfold gx ix; omega)]
  · intro d hd
    by_cases e : d = d0
    · rw [ms_at, if_pos ⟨rfl, e⟩]; unfold lvj; rw [e2, if_pos hl, up_at, if_pos (by unfold ix; omega)]
    · rw [ms_at, if_neg (fun z => e z.2)]; unfold lvj; rw [e2, pk_un (by unfold ix; omega)]; exact h5 d hd
  · intro g hg
    rw [ms_other _ _ _ (by omega)]; rw [pk_un (by unfold gx ix; omega)]; exact h6 g hg
  · intro g hg
    rw [ms_other _ _ _ (by omega)]; rw [pk_un (by unfold gx ix; omega)]; exact h7 g hg
  · intro g hg
    rw [ms_other _ _ _ (by omega)]; rw [pk_un (by unfold gx ix; omega)]; exact h8 g hg
  · intro g hg
    rw [ms_other _ _ _ (by omega)]; unfold lvg; rw [es, pk_un (by unfold gx ix; omega)]; exact h9 g hg
  · intro g hg p hp
    rw [ms_other _ _ _ (by omega)]; unfold lvg; rw [es, pk_un (by unfold gx ix; omega)]; exact h10 g hg p hp
  · intro a ha b hb
    rw [ms_other _ _ _ (by omega)]; unfold lvj kl; rw [e2, pk_un (by unfold cx ix; omega)]; exact h11 a ha b hb
  · intro p hp g hg
    rw [ms_other _ _ _ (by omega)]; unfold fs; rw [pk_un (by unfold gx ix; omega)]; exact h12 p hp g hg
  · intro p hp g hg
    rw [ms_other _ _ _ (by omega)]; unfold ln; rw [pk_un (by unfold gx ix; omega)]; exact h13 p hp g hg
theorem u_lit {g0 : Nat} (hg0 : g0 < 6) (v : Int32) (h : RJ M J A j) : RJ (mset M (J + 4) (g0) v) J (upd A (gx j g0 3) v) j := by
  obtain ⟨h1, h2, h3, h4, h5, h6, h7, h8, h9, h10, h11, h12, h13⟩ := h
  have e2 : upd A (gx j g0 3) v 2 = A 2 := pk_un (by unfold gx; omega)
  have es : upd A (gx j g0 3) v (ix j 2) = A (ix j 2) := pk_un (by unfold ix gx; omega)
  refine ⟨?_, ?_, ?_, ?_, ?_, ?_, ?_, ?_, ?_, ?_, ?_, ?_, ?_⟩
  · intro w hw
    rw [ms_other _ _ _ (by omega)]; rw [pk_un (by unfold gx ix; omega)]; exact h1 w hw
  · rw [ms_other _ _ _ (by omega)]; unfold lvj; rw [e2, pk_un (by unfold gx ix; omega)]; exact h2
  · rw [ms_other _ _ _ (by omega), h3]
    refine bits_cong 6 (fun q hq => ?_)
    unfold rq
    rw [pk_un (by unfold gx; omega)]
  · rw [ms_other _ _ _ (by omega), h4]
    refine bits_cong 6 (fun q hq => ?_)
    unfold gv
    rw [pk_un (by unfold gx; omega)]
  · intro d hd
    rw [ms_other _ _ _ (by omega)]; unfold lvj; rw [e2, pk_un (by unfold gx ix; omega)]; exact h5 d hd
  · intro g hg
    rw [ms_other _ _ _ (by omega)]; rw [pk_un (by unfold gx; omega)]; exact h6 g hg
  · intro g hg
    rw [ms_other _ _ _ (by omega)]; rw [pk_un (by unfold gx; omega)]; exact h7 g hg
  · intro g hg
    by_cases e : g = g0
    · rw [ms_at, if_pos ⟨rfl, e⟩]; rw [up_at, if_pos (by unfold gx; omega)]
    · rw [ms_at, if_neg (fun z => e z.2)]; rw [pk_un (by unfold gx; omega)]; exact h8 g hg
  · intro g hg
    rw [ms_other _ _ _ (by omega)]; unfold lvg; rw [es, pk_un (by unfold gx; omega)]; exact h9 g hg
  · intro g hg p hp
    rw [ms_other _ _ _ (by omega)]; unfold lvg; rw [es, pk_un (by unfold gx; omega)]; exact h10 g hg p hp
  · intro a ha b hb
    rw [ms_other _ _ _ (by omega)]; unfold lvj kl; rw [e2, pk_un (by unfold cx gx; omega)]; exact h11 a ha b hb
  · intro p hp g hg
    rw [ms_other _ _ _ (by omega)]; unfold fs; rw [pk_un (by unfold gx; omega)]; exact h12 p hp g hg
  · intro p hp g hg
    rw [ms_other _ _ _ (by omega)]; unfold ln; rw [pk_un (by unfold gx; omega)]; exact h13 p hp g hg
theorem u_as {g0 : Nat} (hg0 : g0 < 6) (hl : nI g0 < A (ix j 2)) (v : Int32) (h : RJ M J A j) : RJ (mset M (J + 5) (g0) v) J (upd A (gx j g0 4) v) j := by
  obtain ⟨h1, h2, h3, h4, h5, h6, h7, h8, h9, h10, h11, h12, h13⟩ := h
  have e2 : upd A (gx j g0 4) v 2 = A 2 := pk_un (by unfold gx; omega)
  have es : upd A (gx j g0 4) v (ix j 2) = A (ix j 2) := pk_un (by unfold ix gx; omega)
  refine ⟨?_, ?_, ?_, ?_, ?_, ?_, ?_, ?_, ?_, ?_, ?_, ?_, ?_⟩
  · intro w hw
    rw [ms_other _ _ _ (by omega)]; rw [pk_un (by unfold gx ix; omega)]; exact h1 w hw
  · rw [ms_other _ _ _ (by omega)]; unfold lvj; rw [e2, pk_un (by unfold gx ix; omega)]; exact h2
  · rw [ms_other _ _ _ (by omega), h3]
    refine bits_cong 6 (fun q hq => ?_)
    unfold rq
    rw [pk_un (by unfold gx; omega)]
  · rw [ms_other _ _ _ (by omega), h4]
    refine bits_cong 6 (fun q hq => ?_)
    unfold gv
    rw [pk_un (by unfold gx; omega)]
  · intro d hd
    rw [ms_other _ _ _ (by omega)]; unfold lvj; rw [e2, pk_un (by unfold gx ix; omega)]; exact h5 d hd
  · intro g hg
    rw [ms_other _ _ _ (by omega)]; rw [pk_un (by unfold gx; omega)]; exact h6 g hg
  · intro g hg
    rw [ms_other _ _ _ (by omega)]; rw [pk_un (by unfold gx; omega)]; exact h7 g hg
  · intro g hg
    rw [ms_other _ _ _ (by omega)]; rw [pk_un (by unfold gx; omega)]; exact h8 g hg
  · intro g hg
    by_cases e : g = g0
    · rw [ms_at, if_pos ⟨rfl, e⟩]; unfold lvg; rw [es, if_pos (by rw [show g = g0 by omega]; exact hl), up_at, if_pos (by unfold gx; omega)]
    · rw [ms_at, if_neg (fun z => e z.2)]; unfold lvg; rw [es, pk_un (by unfold gx; omega)]; exact h9 g hg
  · intro g hg p hp
    rw [ms_other _ _ _ (by omega)]; unfold lvg; rw [es, pk_un (by unfold gx; omega)]; exact h10 g hg p hp
  · intro a ha b hb
    rw [ms_other _ _ _ (by omega)]; unfold lvj kl; rw [e2, pk_un (by unfold cx gx; omega)]; exact h11 a ha b hb
  · intro p hp g hg
    rw [ms_other _ _ _ (by omega)]; unfold fs; rw [pk_un (by unfold gx; omega)]; exact h12 p hp g hg
  · intro p hp g hg
    rw [ms_other _ _ _ (by omega)]; unfold ln; rw [pk_un (by unfold gx; omega)]; exact h13 p hp g hg
theorem u_hd {g0 p0 : Nat} (hg0 : g0 < 6) (hp0 : p0 < 3) (hl : nI g0 < A (ix j 2)) (v : Int32) (h : RJ M J A j) : RJ (mset M (J + 6) (3 * g0 + p0) v) J (upd A (gx j g0 (6 + p0)) v) j := by
  obtain ⟨h1, h2, h3, h4, h5, h6, h7, h8, h9, h10, h11, h12, h13⟩ := h
  have e2 : upd A (gx j g0 (6 + p0)) v 2 = A 2 := pk_un (by unfold gx; omega)
  have es : upd A (gx j g0 (6 + p0)) v (ix j 2) = A (ix j 2) := pk_un (by unfold ix gx; omega)
  refine ⟨?_, ?_, ?_, ?_, ?_, ?_, ?_, ?_, ?_, ?_, ?_, ?_, ?_⟩
  · intro w hw
    rw [ms_other _ _ _ (by omega)]; rw [pk_un (by unfold gx ix; omega)]; exact h1 w hw
  · rw [ms_other _ _ _ (by omega)]; unfold lvj; rw [e2, pk_un (by unfold gx ix; omega)]; exact h2
  · rw [ms_other _ _ _ (by omega), h3]
    refine bits_cong 6 (fun q hq => ?_)
    unfold rq
    rw [pk_un (by unfold gx; omega)]
  · rw [ms_other _ _ _ (by omega), h4]
    refine bits_cong 6 (fun q hq => ?_)
    unfold gv
    rw [pk_un (by unfold gx; omega)]
  · intro d hd
    rw [ms_other _ _ _ (by omega)]; unfold lvj; rw [e2, pk_un (by unfold gx ix; omega)]; exact h5 d hd
  · intro g hg
    rw [ms_other _ _ _ (by omega)]; rw [pk_un (by unfold gx; omega)]; exact h6 g hg
  · intro g hg
    rw [ms_other _ _ _ (by omega)]; rw [pk_un (by unfold gx; omega)]; exact h7 g hg
  · intro g hg
    rw [ms_other _ _ _ (by omega)]; rw [pk_un (by unfold gx; omega)]; exact h8 g hg
  · intro g hg
    rw [ms_other _ _ _ (by omega)]; unfold lvg; rw [es, pk_un (by unfold gx; omega)]; exact h9 g hg
  · intro g hg p hp
    by_cases e : 3 * g + p = 3 * g0 + p0
    · rw [ms_at, if_pos ⟨rfl, e⟩]; unfold lvg; rw [es, if_pos (by rw [show g = g0 by omega]; exact hl), up_at, if_pos (by unfold gx; omega)]
    · rw [ms_at, if_neg (fun z => e z.2)]; unfold lvg; rw [es, pk_un (by unfold gx; omega)]; exact h10 g hg p hp
  · intro a ha b hb
    rw [ms_other _ _ _ (by omega)]; unfold lvj kl; rw [e2, pk_un (by unfold cx gx; omega)]; exact h11 a ha b hb
  · intro p hp g hg
    rw [ms_other _ _ _ (by omega)]; unfold fs; rw [pk_un (by unfold gx; rcases Nat.lt_trichotomy g0 g with z | z | z <;> omega)]; exact h12 p hp g hg
  · intro p hp g hg
    rw [ms_other _ _ _ (by omega)]; unfold ln; rw [pk_un (by unfold gx; rcases Nat.lt_trichotomy g0 g with z | z | z <;> omega)]; exact h13 p hp g hg
theorem u_cl {a0 b0 : Nat} (ha0 : a0 < 6) (hb0 : b0 < 6) (hl : nI j < A 2) (v : Int32) (h : RJ M J A j) : RJ (mset M (J + 7) (6 * a0 + b0) v) J (upd A (cx j a0 b0) v) j := by
  obtain ⟨h1, h2, h3, h4, h5, h6, h7, h8, h9, h10, h11, h12, h13⟩ := h
  have e2 : upd A (cx j a0 b0) v 2 = A 2 := pk_un (by unfold cx; omega)
  have es : upd A (cx j a0 b0) v (ix j 2) = A (ix j 2) := pk_un (by unfold ix cx; omega)
  refine ⟨?_, ?_, ?_, ?_, ?_, ?_, ?_, ?_, ?_, ?_, ?_, ?_, ?_⟩
  · intro w hw
    rw [ms_other _ _ _ (by omega)]; rw [pk_un (by unfold cx ix; omega)]; exact h1 w hw
  · rw [ms_other _ _ _ (by omega)]; unfold lvj; rw [e2, pk_un (by unfold cx ix; omega)]; exact h2
  · rw [ms_other _ _ _ (by omega), h3]
    refine bits_cong 6 (fun q hq => ?_)
    unfold rq
    rw [pk_un (by unfold gx cx; omega)]
  · rw [ms_other _ _ _ (by omega), h4]
    refine bits_cong 6 (fun q hq => ?_)
    unfold gv
    rw [pk_un (by unfold gx cx; omega)]
  · intro d hd
    rw [ms_other _ _ _ (by omega)]; unfold lvj; rw [e2, pk_un (by unfold cx ix; omega)]; exact h5 d hd
  · intro g hg
    rw [ms_other _ _ _ (by omega)]; rw [pk_un (by unfold cx gx; omega)]; exact h6 g hg
  · intro g hg
    rw [ms_other _ _ _ (by omega)]; rw [pk_un (by unfold cx gx; omega)]; exact h7 g hg
  · intro g hg
    rw [ms_other _ _ _ (by omega)]; rw [pk_un (by unfold cx gx; omega)]; exact h8 g hg
  · intro g hg
    rw [ms_other _ _ _ (by omega)]; unfold lvg; rw [es, pk_un (by unfold cx gx; omega)]; exact h9 g hg
  · intro g hg p hp
    rw [ms_other _ _ _ (by omega)]; unfold lvg; rw [es, pk_un (by unfold cx gx; omega)]; exact h10 g hg p hp
  · intro a ha b hb
    by_cases e : 6 * a + b = 6 * a0 + b0
    · rw [ms_at, if_pos ⟨rfl, e⟩]; unfold lvj kl; rw [e2, if_pos hl, up_at, if_pos (by unfold cx; omega)]
    · rw [ms_at, if_neg (fun z => e z.2)]; unfold lvj kl; rw [e2, pk_un (by unfold cx; omega)]; exact h11 a ha b hb
  · intro p hp g hg
    rw [ms_other _ _ _ (by omega)]; unfold fs; rw [pk_un (by unfold cx gx; omega)]; exact h12 p hp g hg
  · intro p hp g hg
    rw [ms_other _ _ _ (by omega)]; unfold ln; rw [pk_un (by unfold cx gx; omega)]; exact h13 p hp g hg
theorem u_fs {p0 g0 : Nat} (hp0 : p0 < 2) (hg0 : g0 < 6) (v : Int32) (h : RJ M J A j) : RJ (mset M (J + 8) (6 * p0 + g0) v) J (upd A (gx j g0 (9 + 2 * p0)) v) j := by
  obtain ⟨h1, h2, h3, h4, h5, h6, h7, h8, h9, h10, h11, h12, h13⟩ := h
  have e2 : upd A (gx j g0 (9 + 2 * p0)) v 2 = A 2 := pk_un (by unfold gx; omega)
  have es : upd A (gx j g0 (9 + 2 * p0)) v (ix j 2) = A (ix j 2) := pk_un (by unfold ix gx; omega)
  refine ⟨?_, ?_, ?_, ?_, ?_, ?_, ?_, ?_, ?_, ?_, ?_, ?_, ?_⟩
  · intro w hw
    rw [ms_other _ _ _ (by omega)]; rw [pk_un (by unfold gx ix; omega)]; exact h1 w hw
  · rw [ms_other _ _ _ (by omega)]; unfold lvj; rw [e2, pk_un (by unfold gx ix; omega)]; exact h2
  · rw [ms_other _ _ _ (by omega), h3]
    refine bits_cong 6 (fun q hq => ?_)
    unfold rq
    rw [pk_un (by unfold gx; omega)]
  · rw [ms_other _ _ _ (by omega), h4]
    refine bits_cong 6 (fun q hq => ?_)
    unfold gv
    rw [pk_un (by unfold gx; omega)]
  · intro d hd
    rw [ms_other _ _ _ (by omega)]; unfold lvj; rw [e2, pk_un (by unfold gx ix; omega)]; exact h5 d hd
  · intro g hg
    rw [ms_other _ _ _ (by omega)]; rw [pk_un (by unfold gx; omega)]; exact h6 g hg
  · intro g hg
    rw [ms_other _ _ _ (by omega)]; rw [pk_un (by unfold gx; omega)]; exact h7 g hg
  · intro g hg
    rw [ms_other _ _ _ (by omega)]; rw [pk_un (by unfold gx; omega)]; exact h8 g hg
  · intro g hg
    rw [ms_other _ _ _ (by omega)]; unfold lvg; rw [es, pk_un (by unfold gx; omega)]; exact h9 g hg
  · intro g hg p hp
    rw [ms_other _ _ _ (by omega)]; unfold lvg; rw [es, pk_un (by unfold gx; omega)]; exact h10 g hg p hp
  · intro a ha b hb
    rw [ms_other _ _ _ (by omega)]; unfold lvj kl; rw [e2, pk_un (by unfold cx gx; omega)]; exact h11 a ha b hb
  · intro p hp g hg
    by_cases e : 6 * p + g = 6 * p0 + g0
    · rw [ms_at, if_pos ⟨rfl, e⟩]; unfold fs; rw [up_at, if_pos (by unfold gx; omega)]
    · rw [ms_at, if_neg (fun z => e z.2)]; unfold fs; rw [pk_un (by unfold gx; omega)]; exact h12 p hp g hg
  · intro p hp g hg
    rw [ms_other _ _ _ (by omega)]; unfold ln; rw [pk_un (by unfold gx; omega)]; exact h13 p hp g hg
theorem u_ln {p0 g0 : Nat} (hp0 : p0 < 2) (hg0 : g0 < 6) (v : Int32) (h : RJ M J A j) : RJ (mset M (J + 9) (6 * p0 + g0) v) J (upd A (gx j g0 (10 + 2 * p0)) v) j := by
  obtain ⟨h1, h2, h3, h4, h5, h6, h7, h8, h9, h10, h11, h12, h13⟩ := h
  have e2 : upd A (gx j g0 (10 + 2 * p0)) v 2 = A 2 := pk_un (by unfold gx; omega)
  have es : upd A (gx j g0 (10 + 2 * p0)) v (ix j 2) = A (ix j 2) := pk_un (by unfold ix gx; omega)
  refine ⟨?_, ?_, ?_, ?_, ?_, ?_, ?_, ?_, ?_, ?_, ?_, ?_, ?_⟩
  · intro w hw
    rw [ms_other _ _ _ (by omega)]; rw [pk_un (by unfold gx ix; omega)]; exact h1 w hw
  · rw [ms_other _ _ _ (by omega)]; unfold lvj; rw [e2, pk_un (by unfold gx ix; omega)]; exact h2
  · rw [ms_other _ _ _ (by omega), h3]
    refine bits_cong 6 (fun q hq => ?_)
    unfold rq
    rw [pk_un (by unfold gx; omega)]
  · rw [ms_other _ _ _ (by omega), h4]
    refine bits_cong 6 (fun q hq => ?_)
    unfold gv
    rw [pk_un (by unfold gx; omega)]
  · intro d hd
    rw [ms_other _ _ _ (by omega)]; unfold lvj; rw [e2, pk_un (by unfold gx ix; omega)]; exact h5 d hd
  · intro g hg
    rw [ms_other _ _ _ (by omega)]; rw [pk_un (by unfold gx; omega)]; exact h6 g hg
  · intro g hg
    rw [ms_other _ _ _ (by omega)]; rw [pk_un (by unfold gx; omega)]; exact h7 g hg
  · intro g hg
    rw [ms_other _ _ _ (by omega)]; rw [pk_un (by unfold gx; omega)]; exact h8 g hg
  · intro g hg
    rw [ms_other _ _ _ (by omega)]; unfold lvg; rw [es, pk_un (by unfold gx; omega)]; exact h9 g hg
  · intro g hg p hp
    rw [ms_other _ _ _ (by omega)]; unfold lvg; rw [es, pk_un (by unfold gx; omega)]; exact h10 g hg p hp
  · intro a ha b hb
    rw [ms_other _ _ _ (by omega)]; unfold lvj kl; rw [e2, pk_un (by unfold cx gx; omega)]; exact h11 a ha b hb
  · intro p hp g hg
    rw [ms_other _ _ _ (by omega)]; unfold fs; rw [pk_un (by unfold gx; omega)]; exact h12 p hp g hg
  · intro p hp g hg
    by_cases e : 6 * p + g = 6 * p0 + g0
    · rw [ms_at, if_pos ⟨rfl, e⟩]; unfold ln; rw [up_at, if_pos (by unfold gx; omega)]
    · rw [ms_at, if_neg (fun z => e z.2)]; unfold ln; rw [pk_un (by unfold gx; omega)]; exact h13 p hp g hg
/-- the flags of the given greens -/
theorem u_gv (p : Nat → Bool) (A' : Ar) (h2 : A' 2 = A 2) (hk : ∀ k, k < 121 → (∀ g, g < 6 → ix j k ≠ gx j g 5) → A' (ix j k) = A (ix j k)) (hp : ∀ g, g < 6 → gv A' j g = p g) (h : RJ M J A j) : RJ (mset M J 8 (bits p 6)) J A' j := by
  obtain ⟨h1, h2', h3, h4, h5, h6, h7, h8, h9, h10, h11, h12, h13⟩ := h
  have hA : ∀ k, k < 121 → (k < 7 ∨ 85 ≤ k ∨ (k - 7) % 13 ≠ 5) → A' (ix j k) = A (ix j k) := fun k hk1 hk2 => hk k hk1 (fun g hg => by unfold ix gx; omega)
  have hg : ∀ g w, g < 6 → w < 13 → w ≠ 5 → A' (gx j g w) = A (gx j g w) := fun g w hg hw h5 => by
    have := hA (7 + 13 * g + w) (by omega) (by omega)
    have e : ix j (7 + 13 * g + w) = gx j g w := by unfold ix gx; omega
    rwa [e] at this
  have hc : ∀ a b, a < 6 → b < 6 → A' (cx j a b) = A (cx j a b) := fun a b ha hb => by
    have := hA (85 + 6 * a + b) (by omega) (by omega)
    have e : ix j (85 + 6 * a + b) = cx j a b := by unfold ix cx; omega
    rwa [e] at this
  refine ⟨fun w hw => ?_, ?_, ?_, ?_, fun d hd => ?_, fun g h6' => ?_, fun g h6' => ?_, fun g h6' => ?_, fun g h6' => ?_, fun g h6' p hp => ?_, fun a ha b hb => ?_, fun p hp g h6' => ?_, fun p hp g h6' => ?_⟩
  · rw [ms_at, if_neg (by omega), hA w (by omega) (by omega)]; exact h1 w hw
  · rw [ms_at, if_neg (by omega)]; unfold lvj; rw [h2, hA 4 (by omega) (by omega)]; exact h2'
  · rw [ms_at, if_neg (by omega), h3]; exact bits_cong 6 (fun q hq => by unfold rq; rw [hg q 2 hq (by omega) (by omega)])
  · rw [ms_at, if_pos ⟨rfl, rfl⟩]; exact bits_cong 6 (fun q hq => (hp q hq).symm)
  · rw [ms_other _ _ _ (by omega)]; unfold lvj; rw [h2, hA (5 + d) (by omega) (by omega)]; exact h5 d hd
  · rw [ms_other _ _ _ (by omega), hg g 0 h6' (by omega) (by omega)]; exact h6 g h6'
  · rw [ms_other _ _ _ (by omega), hg g 1 h6' (by omega) (by omega)]; exact h7 g h6'
  · rw [ms_other _ _ _ (by omega), hg g 3 h6' (by omega) (by omega)]; exact h8 g h6'
  · rw [ms_other _ _ _ (by omega)]; unfold lvg; rw [hA 2 (by omega) (by omega), hg g 4 h6' (by omega) (by omega)]; exact h9 g h6'
  · rw [ms_other _ _ _ (by omega)]; unfold lvg; rw [hA 2 (by omega) (by omega), hg g (6 + p) h6' (by omega) (by omega)]; exact h10 g h6' p hp
  · rw [ms_other _ _ _ (by omega)]; unfold lvj kl; rw [h2, hc a b ha hb]; exact h11 a ha b hb
  · rw [ms_other _ _ _ (by omega)]; unfold fs; rw [hg g (9 + 2 * p) h6' (by omega) (by omega)]; exact h12 p hp g h6'
  · rw [ms_other _ _ _ (by omega)]; unfold ln; rw [hg g (10 + 2 * p) h6' (by omega) (by omega)]; exact h13 p hp g h6'
/-- fields 5 and 6 of a junction are outside of RJ -/
theorem u_56 {k : Nat} (hk : k = 5 ∨ k = 6) (v : Int32) (h : RJ M J A j) : RJ (mset M J k v) J A j := by
  obtain ⟨h1, h2, h3, h4, h5, h6, h7, h8, h9, h10, h11, h12, h13⟩ := h
  refine ⟨fun w hw => by rw [ms_at, if_neg (by omega)]; exact h1 w hw, by rw [ms_at, if_neg (by omega)]; exact h2, by rw [ms_at, if_neg (by omega)]; exact h3, by rw [ms_at, if_neg (by omega)]; exact h4, fun d hd => by rw [ms_other _ _ _ (by omega)]; exact h5 d hd, fun g hg => by rw [ms_other _ _ _ (by omega)]; exact h6 g hg, fun g hg => by rw [ms_other _ _ _ (by omega)]; exact h7 g hg, fun g hg => by rw [ms_other _ _ _ (by omega)]; exact h8 g hg, fun g hg => by rw [ms_other _ _ _ (by omega)]; exact h9 g hg, fun g hg p hp => by rw [ms_other _ _ _ (by omega)]; exact h10 g hg p hp, fun a ha b hb => by rw [ms_other _ _ _ (by omega)]; exact h11 a ha b hb, fun p hp g hg => by rw [ms_other _ _ _ (by omega)]; exact h12 p hp g hg, fun p hp g hg => by rw [ms_other _ _ _ (by omega)]; exact h13 p hp g hg⟩
theorem RS_lift {M' : Mem} {t : Nat} {A' : Ar} (h : RS M t A) (hj : j < 4) (hf : ∀ o, t ≤ o → o < t + 42 → (o < t + 2 + 10 * j ∨ t + 12 + 10 * j ≤ o) → M' o = M o) (h5 : M' (t + 2 + 10 * j) 5 = M (t + 2 + 10 * j) 5) (h6 : M' (t + 2 + 10 * j) 6 = M (t + 2 + 10 * j) 6) (hA : ∀ k, (k < ix j 0 ∨ ix j 121 ≤ k) → A' k = A k) (hJ : RJ M' (t + 2 + 10 * j) A' j) : RS M' t A' := by
  obtain ⟨i1, i2, i3, i4, i5, i6, i7, i8⟩ := h
  have e : ∀ k, k < 6 → A' k = A k := fun k hk => hA k (Or.inl (by unfold ix; omega))
  have e5 : ∀ q, q < 4 → M' (t + 2 + 10 * q) 5 = M (t + 2 + 10 * q) 5 := fun q hq => by
    by_cases c : q = j
    · subst c; exact h5
    · rw [hf _ (by omega) (by omega) (by omega)]
  have e6 : ∀ q, q < 4 → M' (t + 2 + 10 * q) 6 = M (t + 2 + 10 * q) 6 := fun q hq => by
    by_cases c : q = j
    · subst c; exact h6
    · rw [hf _ (by omega) (by omega) (by omega)]
  have ft : M' t = M t := hf t (by omega) (by omega) (by omega)
  refine ⟨by rw [ft, e 0 (by omega)]; exact i1, by rw [ft, e 1 (by omega)]; exact i2, by rw [ft, e 2 (by omega)]; exact i3, by rw [ft, e 3 (by omega)]; exact i4, fun q hq => ?_, ?_, ?_, fun q hq hl => ?_⟩
  · by_cases c : q = j
    · subst c; exact hJ
    · refine RJ_cong (e 2 (by omega)) (fun k hk => hA _ (by unfold ix; omega)) (RJ_copy (fun c k hc hk => ?_) (i5 q hq))
      rw [hf _ (by omega) (by omega) (by omega)]
  · rw [e 4 (by omega), ← i6]
    have a := e5 0 (by omega); have b := e5 1 (by omega); have c := e5 2 (by omega); have d := e5 3 (by omega)
    exact congr (congrArg _ (congr (congrArg _ (congr (congrArg _ a) b)) c)) d
  · rw [e 5 (by omega), ← i7]
    have a := e6 0 (by omega); have b := e6 1 (by omega); have c := e6 2 (by omega); have d := e6 3 (by omega)
    exact congr (congrArg _ (congr (congrArg _ (congr (congrArg _ a) b)) c)) d
  · rw [e5 q hq, e6 q hq]
    exact i8 q hq (by rw [← e 2 (by omega)]; exact hl)
theorem ms_56 (M : Mem) {o q k : Nat} (v : Int32) (h : q ≠ o ∨ (k ≠ 5 ∧ k ≠ 6)) : mset M o k v q 5 = M q 5 ∧ mset M o k v q 6 = M q 6 := by
  constructor
  · rw [ms_at, if_neg (by omega)]
  · rw [ms_at, if_neg (by omega)]
end UP
