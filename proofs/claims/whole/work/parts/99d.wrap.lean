def ResK (xs : List Nat) (rx : Nat ⊕ Int32) (k : Int32) : Prop := match rx with
  | .inr _ => k = 0
  | .inl e => ∃ i, xs[i]? = some e ∧ k = nI (i + 1)
def EL (cL : ClassId) (rx : Nat ⊕ Int32) : va_E → Prop := fun x => ∃ g : Nat → Int64, x = lc cL g ∧ ∀ v, rx = .inr v → g 0 = v.toInt64
theorem vk_cycle : Cond.methodLink RL 7 yX9_cycle ∈ UW := tbu (tb2 (List.mem_of_getElem? (i := 83) rfl)) rfl
theorem vi_cycle : Cond.instanceMethod yX9_cycle ∈ UW := tbu (tb2 (List.mem_of_getElem? (i := 84) rfl)) rfl
theorem vs_cycle : Cond.selects RX9 yX9_cycle yX9_cycle ∈ UW := tbu (tb2 (List.mem_of_getElem? (i := 85) rfl)) rfl
theorem vn_X9 : Cond.initialized RX9 ∈ UW := tbu (tb1 (List.mem_of_getElem? (i := 1) rfl)) rfl
theorem vc_cycle : Cond.code yX9_cycle cX9_cycle 3 (some .int) ∈ UW := tbu (tb2 (List.mem_of_getElem? (i := 86) rfl)) rfl
theorem vy_cycle : yOk yX9_cycle 1 := ⟨by decide +kernel, by decide +kernel, by decide +kernel⟩
theorem vl_13 : Cond.classLink RL 13 (exN 1) ∈ UW := tbu (tb2 (List.mem_of_getElem? (i := 81) rfl)) rfl
theorem vcast_1 : Cond.castable (exN 1) (exN 1) ∈ NW := nw_mem (tb2 (List.mem_of_getElem? (i := 170) rfl)) rfl
theorem vl_15 : Cond.classLink RL 15 (exN 2) ∈ UW := tbu (tb2 (List.mem_of_getElem? (i := 82) rfl)) rfl
theorem vcast_2 : Cond.castable (exN 2) (exN 2) ∈ NW := nw_mem (tb2 (List.mem_of_getElem? (i := 186) rfl)) rfl
theorem vk_speed : Cond.methodLink RL 17 yX9_speed ∈ UW := tbu (tb3 (List.mem_of_getElem? (i := 23) rfl)) rfl
theorem vi_speed : Cond.instanceMethod yX9_speed ∈ UW := tbu (tb3 (List.mem_of_getElem? (i := 24) rfl)) rfl
theorem vs_speed : Cond.selects RX9 yX9_speed yX9_speed ∈ UW := tbu (tb3 (List.mem_of_getElem? (i := 25) rfl)) rfl
theorem vc_speed : Cond.code yX9_speed cX9_speed 3 (some .int) ∈ UW := tbu (tb3 (List.mem_of_getElem? (i := 26) rfl)) rfl
theorem vy_speed : yOk yX9_speed 1 := ⟨by decide +kernel, by decide +kernel, by decide +kernel⟩
theorem vk_junction : Cond.methodLink RL 20 yX9_junction ∈ UW := tbu (tb3 (List.mem_of_getElem? (i := 30) rfl)) rfl
theorem vi_junction : Cond.instanceMethod yX9_junction ∈ UW := tbu (tb3 (List.mem_of_getElem? (i := 31) rfl)) rfl
theorem vs_junction : Cond.selects RX9 yX9_junction yX9_junction ∈ UW := tbu (tb3 (List.mem_of_getElem? (i := 32) rfl)) rfl
theorem vc_junction : Cond.code yX9_junction cX9_junction 2 (some .int) ∈ UW := tbu (tb3 (List.mem_of_getElem? (i := 33) rfl)) rfl
theorem vy_junction : yOk yX9_junction 1 := ⟨by decide +kernel, by decide +kernel, by decide +kernel⟩
theorem vk_offset : Cond.methodLink RL 23 yX9_offset ∈ UW := tbu (tb3 (List.mem_of_getElem? (i := 66) rfl)) rfl
theorem vi_offset : Cond.instanceMethod yX9_offset ∈ UW := tbu (tb3 (List.mem_of_getElem? (i := 67) rfl)) rfl
theorem vs_offset : Cond.selects RX9 yX9_offset yX9_offset ∈ UW := tbu (tb3 (List.mem_of_getElem? (i := 68) rfl)) rfl
theorem vc_offset : Cond.code yX9_offset cX9_offset 3 (some .int) ∈ UW := tbu (tb3 (List.mem_of_getElem? (i := 69) rfl)) rfl
theorem vy_offset : yOk yX9_offset 2 := ⟨by decide +kernel, by decide +kernel, by decide +kernel⟩
theorem vl_27 : Cond.classLink RL 27 (exN 0) ∈ UW := tbu (tb3 (List.mem_of_getElem? (i := 45) rfl)) rfl
theorem vcast_0 : Cond.castable (exN 0) (exN 0) ∈ NW := nw_mem (tb2 (List.mem_of_getElem? (i := 98) rfl)) rfl
theorem vk_road : Cond.methodLink RL 29 yX9_road ∈ UW := tbu (tb3 (List.mem_of_getElem? (i := 92) rfl)) rfl
theorem vi_road : Cond.instanceMethod yX9_road ∈ UW := tbu (tb3 (List.mem_of_getElem? (i := 93) rfl)) rfl
theorem vs_road : Cond.selects RX9 yX9_road yX9_road ∈ UW := tbu (tb3 (List.mem_of_getElem? (i := 94) rfl)) rfl
theorem vc_road : Cond.code yX9_road cX9_road 4 (some .int) ∈ UW := tbu (tb3 (List.mem_of_getElem? (i := 95) rfl)) rfl
theorem vy_road : yOk yX9_road 3 := ⟨by decide +kernel, by decide +kernel, by decide +kernel⟩
theorem vk_told : Cond.methodLink RL 33 yX9_told ∈ UW := tbu (tb3 (List.mem_of_getElem? (i := 116) rfl)) rfl
theorem vi_told : Cond.instanceMethod yX9_told ∈ UW := tbu (tb3 (List.mem_of_getElem? (i := 117) rfl)) rfl
theorem vs_told : Cond.selects RX9 yX9_told yX9_told ∈ UW := tbu (tb3 (List.mem_of_getElem? (i := 118) rfl)) rfl
theorem vc_told : Cond.code yX9_told cX9_told 4 (some .int) ∈ UW := tbu (tb3 (List.mem_of_getElem? (i := 119) rfl)) rfl
theorem vy_told : yOk yX9_told 2 := ⟨by decide +kernel, by decide +kernel, by decide +kernel⟩
theorem vk_group : Cond.methodLink RL 36 yX9_group ∈ UW := tbu (tb3 (List.mem_of_getElem? (i := 178) rfl)) rfl
theorem vi_group : Cond.instanceMethod yX9_group ∈ UW := tbu (tb3 (List.mem_of_getElem? (i := 179) rfl)) rfl
theorem vs_group : Cond.selects RX9 yX9_group yX9_group ∈ UW := tbu (tb3 (List.mem_of_getElem? (i := 180) rfl)) rfl
theorem vc_group : Cond.code yX9_group cX9_group 6 (some .int) ∈ UW := tbu (tb3 (List.mem_of_getElem? (i := 181) rfl)) rfl
theorem vy_group : yOk yX9_group 4 := ⟨by decide +kernel, by decide +kernel, by decide +kernel⟩
theorem vk_groupTold : Cond.methodLink RL 40 yX9_groupTold ∈ UW := tbu (tb3 (List.mem_of_getElem? (i := 189) rfl)) rfl
theorem vi_groupTold : Cond.instanceMethod yX9_groupTold ∈ UW := tbu (tb3 (List.mem_of_getElem? (i := 190) rfl)) rfl
theorem vs_groupTold : Cond.selects RX9 yX9_groupTold yX9_groupTold ∈ UW := tbu (tb3 (List.mem_of_getElem? (i := 191) rfl)) rfl
theorem vc_groupTold : Cond.code yX9_groupTold cX9_groupTold 5 (some .int) ∈ UW := tbu (tb3 (List.mem_of_getElem? (i := 192) rfl)) rfl
theorem vy_groupTold : yOk yX9_groupTold 3 := ⟨by decide +kernel, by decide +kernel, by decide +kernel⟩
theorem vk_conflict : Cond.methodLink RL 43 yX9_conflict ∈ UW := tbu (tb3 (List.mem_of_getElem? (i := 208) rfl)) rfl
theorem vi_conflict : Cond.instanceMethod yX9_conflict ∈ UW := tbu (tb3 (List.mem_of_getElem? (i := 209) rfl)) rfl
theorem vs_conflict : Cond.selects RX9 yX9_conflict yX9_conflict ∈ UW := tbu (tb3 (List.mem_of_getElem? (i := 210) rfl)) rfl
theorem vc_conflict : Cond.code yX9_conflict cX9_conflict 7 (some .int) ∈ UW := tbu (tb3 (List.mem_of_getElem? (i := 211) rfl)) rfl
theorem vy_conflict : yOk yX9_conflict 5 := ⟨by decide +kernel, by decide +kernel, by decide +kernel⟩
theorem vl_47 : Cond.classLink RL 47 (exN 3) ∈ UW := tbu (tb3 (List.mem_of_getElem? (i := 207) rfl)) rfl
theorem vcast_3 : Cond.castable (exN 3) (exN 3) ∈ NW := nw_mem (tb2 (List.mem_of_getElem? (i := 202) rfl)) rfl
theorem vk_peace : Cond.methodLink RL 49 yX9_peace ∈ UW := tbu (tb3 (List.mem_of_getElem? (i := 239) rfl)) rfl
theorem vi_peace : Cond.instanceMethod yX9_peace ∈ UW := tbu (tb4 (List.mem_of_getElem? (i := 0) rfl)) rfl
theorem vs_peace : Cond.selects RX9 yX9_peace yX9_peace ∈ UW := tbu (tb4 (List.mem_of_getElem? (i := 1) rfl)) rfl
theorem vc_peace : Cond.code yX9_peace cX9_peace 6 (some .int) ∈ UW := tbu (tb4 (List.mem_of_getElem? (i := 2) rfl)) rfl
theorem vy_peace : yOk yX9_peace 3 := ⟨by decide +kernel, by decide +kernel, by decide +kernel⟩
theorem vl_52 : Cond.classLink RL 52 (exN 4) ∈ UW := tbu (tb3 (List.mem_of_getElem? (i := 238) rfl)) rfl
theorem vcast_4 : Cond.castable (exN 4) (exN 4) ∈ NW := nw_mem (tb2 (List.mem_of_getElem? (i := 218) rfl)) rfl
theorem vk_clearance : Cond.methodLink RL 54 yX9_clearance ∈ UW := tbu (tb4 (List.mem_of_getElem? (i := 8) rfl)) rfl
theorem vi_clearance : Cond.instanceMethod yX9_clearance ∈ UW := tbu (tb4 (List.mem_of_getElem? (i := 9) rfl)) rfl
theorem vs_clearance : Cond.selects RX9 yX9_clearance yX9_clearance ∈ UW := tbu (tb4 (List.mem_of_getElem? (i := 10) rfl)) rfl
theorem vc_clearance : Cond.code yX9_clearance cX9_clearance 5 (some .int) ∈ UW := tbu (tb4 (List.mem_of_getElem? (i := 11) rfl)) rfl
theorem vy_clearance : yOk yX9_clearance 3 := ⟨by decide +kernel, by decide +kernel, by decide +kernel⟩
theorem vk_green : Cond.methodLink RL 57 yX9_green ∈ UW := tbu (tb4 (List.mem_of_getElem? (i := 15) rfl)) rfl
theorem vi_green : Cond.instanceMethod yX9_green ∈ UW := tbu (tb4 (List.mem_of_getElem? (i := 16) rfl)) rfl
theorem vs_green : Cond.selects RX9 yX9_green yX9_green ∈ UW := tbu (tb4 (List.mem_of_getElem? (i := 17) rfl)) rfl
theorem vc_green : Cond.code yX9_green cX9_green 6 (some .int) ∈ UW := tbu (tb4 (List.mem_of_getElem? (i := 18) rfl)) rfl
theorem vy_green : yOk yX9_green 5 := ⟨by decide +kernel, by decide +kernel, by decide +kernel⟩
theorem vk_hinders : Cond.methodLink RL 60 yX9_hinders ∈ UW := tbu (tb4 (List.mem_of_getElem? (i := 53) rfl)) rfl
theorem vi_hinders : Cond.instanceMethod yX9_hinders ∈ UW := tbu (tb4 (List.mem_of_getElem? (i := 54) rfl)) rfl
theorem vs_hinders : Cond.selects RX9 yX9_hinders yX9_hinders ∈ UW := tbu (tb4 (List.mem_of_getElem? (i := 55) rfl)) rfl
theorem vc_hinders : Cond.code yX9_hinders cX9_hinders 7 (some .int) ∈ UW := tbu (tb4 (List.mem_of_getElem? (i := 56) rfl)) rfl
theorem vy_hinders : yOk yX9_hinders 5 := ⟨by decide +kernel, by decide +kernel, by decide +kernel⟩
theorem vk_dark : Cond.methodLink RL 63 yX9_dark ∈ UW := tbu (tb4 (List.mem_of_getElem? (i := 60) rfl)) rfl
theorem vi_dark : Cond.instanceMethod yX9_dark ∈ UW := tbu (tb4 (List.mem_of_getElem? (i := 61) rfl)) rfl
theorem vs_dark : Cond.selects RX9 yX9_dark yX9_dark ∈ UW := tbu (tb4 (List.mem_of_getElem? (i := 62) rfl)) rfl
theorem vc_dark : Cond.code yX9_dark cX9_dark 6 (some .int) ∈ UW := tbu (tb4 (List.mem_of_getElem? (i := 63) rfl)) rfl
theorem vy_dark : yOk yX9_dark 3 := ⟨by decide +kernel, by decide +kernel, by decide +kernel⟩
theorem vk_make : Cond.methodLink RL 66 yX9_make ∈ UW := tbu (tb4 (List.mem_of_getElem? (i := 68) rfl)) rfl
theorem vi_make : Cond.instanceMethod yX9_make ∈ UW := tbu (tb4 (List.mem_of_getElem? (i := 69) rfl)) rfl
theorem vs_make : Cond.selects RX9 yX9_make yX9_make ∈ UW := tbu (tb4 (List.mem_of_getElem? (i := 70) rfl)) rfl
theorem vc_make : Cond.code yX9_make cX9_make 4 (some .int) ∈ UW := tbu (tb4 (List.mem_of_getElem? (i := 71) rfl)) rfl
theorem vy_make : yOk yX9_make 2 := ⟨by decide +kernel, by decide +kernel, by decide +kernel⟩
theorem vk_phase : Cond.methodLink RL 69 yX9_phase ∈ UW := tbu (tb4 (List.mem_of_getElem? (i := 119) rfl)) rfl
theorem vi_phase : Cond.instanceMethod yX9_phase ∈ UW := tbu (tb4 (List.mem_of_getElem? (i := 120) rfl)) rfl
theorem vs_phase : Cond.selects RX9 yX9_phase yX9_phase ∈ UW := tbu (tb4 (List.mem_of_getElem? (i := 121) rfl)) rfl
theorem vc_phase : Cond.code yX9_phase cX9_phase 4 (some .int) ∈ UW := tbu (tb4 (List.mem_of_getElem? (i := 122) rfl)) rfl
theorem vy_phase : yOk yX9_phase 2 := ⟨by decide +kernel, by decide +kernel, by decide +kernel⟩
theorem vk_greenOf : Cond.methodLink RL 72 yX9_greenOf ∈ UW := tbu (tb4 (List.mem_of_getElem? (i := 127) rfl)) rfl
theorem vi_greenOf : Cond.instanceMethod yX9_greenOf ∈ UW := tbu (tb4 (List.mem_of_getElem? (i := 128) rfl)) rfl
theorem vs_greenOf : Cond.selects RX9 yX9_greenOf yX9_greenOf ∈ UW := tbu (tb4 (List.mem_of_getElem? (i := 129) rfl)) rfl
theorem vc_greenOf : Cond.code yX9_greenOf cX9_greenOf 6 (some .int) ∈ UW := tbu (tb4 (List.mem_of_getElem? (i := 130) rfl)) rfl
theorem vy_greenOf : yOk yX9_greenOf 4 := ⟨by decide +kernel, by decide +kernel, by decide +kernel⟩
theorem vk_shows : Cond.methodLink RL 75 yX9_shows ∈ UW := tbu (tb4 (List.mem_of_getElem? (i := 136) rfl)) rfl
theorem vi_shows : Cond.instanceMethod yX9_shows ∈ UW := tbu (tb4 (List.mem_of_getElem? (i := 137) rfl)) rfl
theorem vs_shows : Cond.selects RX9 yX9_shows yX9_shows ∈ UW := tbu (tb4 (List.mem_of_getElem? (i := 138) rfl)) rfl
theorem vc_shows : Cond.code yX9_shows cX9_shows 5 (some .int) ∈ UW := tbu (tb4 (List.mem_of_getElem? (i := 139) rfl)) rfl
theorem vy_shows : yOk yX9_shows 3 := ⟨by decide +kernel, by decide +kernel, by decide +kernel⟩
theorem vk_picture : Cond.methodLink RL 78 yX9_picture ∈ UW := tbu (tb4 (List.mem_of_getElem? (i := 147) rfl)) rfl
theorem vi_picture : Cond.instanceMethod yX9_picture ∈ UW := tbu (tb4 (List.mem_of_getElem? (i := 148) rfl)) rfl
theorem vs_picture : Cond.selects RX9 yX9_picture yX9_picture ∈ UW := tbu (tb4 (List.mem_of_getElem? (i := 149) rfl)) rfl
theorem vc_picture : Cond.code yX9_picture cX9_picture 6 (some .int) ∈ UW := tbu (tb4 (List.mem_of_getElem? (i := 150) rfl)) rfl
theorem vy_picture : yOk yX9_picture 3 := ⟨by decide +kernel, by decide +kernel, by decide +kernel⟩
theorem vk_refusal : Cond.methodLink RL 81 yX9_refusal ∈ UW := tbu (tb4 (List.mem_of_getElem? (i := 159) rfl)) rfl
theorem vi_refusal : Cond.instanceMethod yX9_refusal ∈ UW := tbu (tb4 (List.mem_of_getElem? (i := 160) rfl)) rfl
theorem vs_refusal : Cond.selects RX9 yX9_refusal yX9_refusal ∈ UW := tbu (tb4 (List.mem_of_getElem? (i := 161) rfl)) rfl
theorem vc_refusal : Cond.code yX9_refusal cX9_refusal 1 (some .int) ∈ UW := tbu (tb4 (List.mem_of_getElem? (i := 162) rfl)) rfl
theorem vy_refusal : yOk yX9_refusal 0 := ⟨by decide +kernel, by decide +kernel, by decide +kernel⟩
theorem vk_trip : Cond.methodLink RL 85 yX9_trip ∈ UW := tbu (tb4 (List.mem_of_getElem? (i := 166) rfl)) rfl
theorem vi_trip : Cond.instanceMethod yX9_trip ∈ UW := tbu (tb4 (List.mem_of_getElem? (i := 167) rfl)) rfl
theorem vs_trip : Cond.selects RX9 yX9_trip yX9_trip ∈ UW := tbu (tb4 (List.mem_of_getElem? (i := 168) rfl)) rfl
theorem vc_trip : Cond.code yX9_trip cX9_trip 4 (some .int) ∈ UW := tbu (tb4 (List.mem_of_getElem? (i := 169) rfl)) rfl
theorem vy_trip : yOk yX9_trip 3 := ⟨by decide +kernel, by decide +kernel, by decide +kernel⟩
theorem vk_tripAgain : Cond.methodLink RL 88 yX9_tripAgain ∈ UW := tbu (tb4 (List.mem_of_getElem? (i := 211) rfl)) rfl
theorem vi_tripAgain : Cond.instanceMethod yX9_tripAgain ∈ UW := tbu (tb4 (List.mem_of_getElem? (i := 212) rfl)) rfl
theorem vs_tripAgain : Cond.selects RX9 yX9_tripAgain yX9_tripAgain ∈ UW := tbu (tb4 (List.mem_of_getElem? (i := 213) rfl)) rfl
theorem vc_tripAgain : Cond.code yX9_tripAgain cX9_tripAgain 3 (some .int) ∈ UW := tbu (tb4 (List.mem_of_getElem? (i := 214) rfl)) rfl
theorem vy_tripAgain : yOk yX9_tripAgain 2 := ⟨by decide +kernel, by decide +kernel, by decide +kernel⟩
theorem vk_band : Cond.methodLink RL 91 yX9_band ∈ UW := tbu (tb4 (List.mem_of_getElem? (i := 222) rfl)) rfl
theorem vi_band : Cond.instanceMethod yX9_band ∈ UW := tbu (tb4 (List.mem_of_getElem? (i := 223) rfl)) rfl
theorem vs_band : Cond.selects RX9 yX9_band yX9_band ∈ UW := tbu (tb4 (List.mem_of_getElem? (i := 224) rfl)) rfl
theorem vc_band : Cond.code yX9_band cX9_band 2 (some .int) ∈ UW := tbu (tb4 (List.mem_of_getElem? (i := 225) rfl)) rfl
theorem vy_band : yOk yX9_band 1 := ⟨by decide +kernel, by decide +kernel, by decide +kernel⟩
theorem vk_bestOffset : Cond.methodLink RL 94 yX9_bestOffset ∈ UW := tbu (tb4 (List.mem_of_getElem? (i := 237) rfl)) rfl
theorem vi_bestOffset : Cond.instanceMethod yX9_bestOffset ∈ UW := tbu (tb4 (List.mem_of_getElem? (i := 238) rfl)) rfl
theorem vs_bestOffset : Cond.selects RX9 yX9_bestOffset yX9_bestOffset ∈ UW := tbu (tb4 (List.mem_of_getElem? (i := 239) rfl)) rfl
theorem vc_bestOffset : Cond.code yX9_bestOffset cX9_bestOffset 3 (some .int) ∈ UW := tbu (tb5 (List.mem_of_getElem? (i := 0) rfl)) rfl
theorem vy_bestOffset : yOk yX9_bestOffset 2 := ⟨by decide +kernel, by decide +kernel, by decide +kernel⟩
theorem vk_press : Cond.methodLink RL 101 yX9_press ∈ UW := tbu (tb5 (List.mem_of_getElem? (i := 24) rfl)) rfl
theorem vi_press : Cond.instanceMethod yX9_press ∈ UW := tbu (tb5 (List.mem_of_getElem? (i := 25) rfl)) rfl
theorem vs_press : Cond.selects RX9 yX9_press yX9_press ∈ UW := tbu (tb5 (List.mem_of_getElem? (i := 26) rfl)) rfl
theorem vc_press : Cond.code yX9_press cX9_press 3 (some .int) ∈ UW := tbu (tb5 (List.mem_of_getElem? (i := 27) rfl)) rfl
theorem vy_press : yOk yX9_press 2 := ⟨by decide +kernel, by decide +kernel, by decide +kernel⟩
theorem vk_run : Cond.methodLink RL 104 yX9_run ∈ UW := tbu (tb5 (List.mem_of_getElem? (i := 44) rfl)) rfl
theorem vi_run : Cond.instanceMethod yX9_run ∈ UW := tbu (tb5 (List.mem_of_getElem? (i := 45) rfl)) rfl
theorem vs_run : Cond.selects RX9 yX9_run yX9_run ∈ UW := tbu (tb5 (List.mem_of_getElem? (i := 46) rfl)) rfl
theorem vc_run : Cond.code yX9_run cX9_run 2 (some .int) ∈ UW := tbu (tb5 (List.mem_of_getElem? (i := 47) rfl)) rfl
theorem vy_run : yOk yX9_run 1 := ⟨by decide +kernel, by decide +kernel, by decide +kernel⟩
theorem vk_soonest : Cond.methodLink RL 107 yX9_soonest ∈ UW := tbu (tb5 (List.mem_of_getElem? (i := 71) rfl)) rfl
theorem vi_soonest : Cond.instanceMethod yX9_soonest ∈ UW := tbu (tb5 (List.mem_of_getElem? (i := 72) rfl)) rfl
theorem vs_soonest : Cond.selects RX9 yX9_soonest yX9_soonest ∈ UW := tbu (tb5 (List.mem_of_getElem? (i := 73) rfl)) rfl
theorem vc_soonest : Cond.code yX9_soonest cX9_soonest 4 (some .int) ∈ UW := tbu (tb5 (List.mem_of_getElem? (i := 74) rfl)) rfl
theorem vy_soonest : yOk yX9_soonest 1 := ⟨by decide +kernel, by decide +kernel, by decide +kernel⟩
theorem vk_change : Cond.methodLink RL 110 yX9_change ∈ UW := tbu (tb5 (List.mem_of_getElem? (i := 96) rfl)) rfl
theorem vi_change : Cond.instanceMethod yX9_change ∈ UW := tbu (tb5 (List.mem_of_getElem? (i := 97) rfl)) rfl
theorem vs_change : Cond.selects RX9 yX9_change yX9_change ∈ UW := tbu (tb5 (List.mem_of_getElem? (i := 98) rfl)) rfl
theorem vc_change : Cond.code yX9_change cX9_change 2 (some .int) ∈ UW := tbu (tb5 (List.mem_of_getElem? (i := 99) rfl)) rfl
theorem vy_change : yOk yX9_change 1 := ⟨by decide +kernel, by decide +kernel, by decide +kernel⟩
theorem vk_mount : Cond.methodLink RL 113 yX9_mount ∈ UW := tbu (tb5 (List.mem_of_getElem? (i := 111) rfl)) rfl
theorem vi_mount : Cond.instanceMethod yX9_mount ∈ UW := tbu (tb5 (List.mem_of_getElem? (i := 112) rfl)) rfl
theorem vs_mount : Cond.selects RX9 yX9_mount yX9_mount ∈ UW := tbu (tb5 (List.mem_of_getElem? (i := 113) rfl)) rfl
theorem vc_mount : Cond.code yX9_mount cX9_mount 6 (some .int) ∈ UW := tbu (tb5 (List.mem_of_getElem? (i := 114) rfl)) rfl
theorem vy_mount : yOk yX9_mount 4 := ⟨by decide +kernel, by decide +kernel, by decide +kernel⟩
theorem vk_account : Cond.methodLink RL 117 yX9_account ∈ UW := tbu (tb5 (List.mem_of_getElem? (i := 122) rfl)) rfl
theorem vi_account : Cond.instanceMethod yX9_account ∈ UW := tbu (tb5 (List.mem_of_getElem? (i := 123) rfl)) rfl
theorem vs_account : Cond.selects RX9 yX9_account yX9_account ∈ UW := tbu (tb5 (List.mem_of_getElem? (i := 124) rfl)) rfl
theorem vc_account : Cond.code yX9_account cX9_account 2 (some .int) ∈ UW := tbu (tb5 (List.mem_of_getElem? (i := 125) rfl)) rfl
theorem vy_account : yOk yX9_account 1 := ⟨by decide +kernel, by decide +kernel, by decide +kernel⟩
theorem vk_litShare : Cond.methodLink RL 120 yX9_litShare ∈ UW := tbu (tb5 (List.mem_of_getElem? (i := 164) rfl)) rfl
theorem vi_litShare : Cond.instanceMethod yX9_litShare ∈ UW := tbu (tb5 (List.mem_of_getElem? (i := 165) rfl)) rfl
theorem vs_litShare : Cond.selects RX9 yX9_litShare yX9_litShare ∈ UW := tbu (tb5 (List.mem_of_getElem? (i := 166) rfl)) rfl
theorem vc_litShare : Cond.code yX9_litShare cX9_litShare 4 (some .int) ∈ UW := tbu (tb5 (List.mem_of_getElem? (i := 167) rfl)) rfl
theorem vy_litShare : yOk yX9_litShare 2 := ⟨by decide +kernel, by decide +kernel, by decide +kernel⟩
theorem vl_123 : Cond.classLink RL 123 (exN 5) ∈ UW := tbu (tb5 (List.mem_of_getElem? (i := 150) rfl)) rfl
theorem vcast_5 : Cond.castable (exN 5) (exN 5) ∈ NW := nw_mem (tb5 (List.mem_of_getElem? (i := 162) rfl)) rfl
theorem vk_append : Cond.methodLink RL 129 yX9_append ∈ UW := tbu (tb5 (List.mem_of_getElem? (i := 186) rfl)) rfl
theorem vi_append : Cond.instanceMethod yX9_append ∈ UW := tbu (tb5 (List.mem_of_getElem? (i := 187) rfl)) rfl
theorem vs_append : Cond.selects RX9 yX9_append yX9_append ∈ UW := tbu (tb5 (List.mem_of_getElem? (i := 188) rfl)) rfl
theorem vc_append : Cond.code yX9_append cX9_append 5 (some .int) ∈ UW := tbu (tb5 (List.mem_of_getElem? (i := 189) rfl)) rfl
theorem vy_append : yOk yX9_append 1 := ⟨by decide +kernel, by decide +kernel, by decide +kernel⟩
theorem vk_text : Cond.methodLink RL 132 yX9_text ∈ UW := tbu (tb5 (List.mem_of_getElem? (i := 197) rfl)) rfl
theorem vi_text : Cond.instanceMethod yX9_text ∈ UW := tbu (tb5 (List.mem_of_getElem? (i := 198) rfl)) rfl
theorem vs_text : Cond.selects RX9 yX9_text yX9_text ∈ UW := tbu (tb5 (List.mem_of_getElem? (i := 199) rfl)) rfl
theorem vc_text : Cond.code yX9_text cX9_text 2 (some .int) ∈ UW := tbu (tb5 (List.mem_of_getElem? (i := 200) rfl)) rfl
theorem vy_text : yOk yX9_text 0 := ⟨by decide +kernel, by decide +kernel, by decide +kernel⟩
theorem vk_report : Cond.methodLink RL 135 yX9_report ∈ UW := tbu (tb6 (List.mem_of_getElem? (i := 64) rfl)) rfl
theorem vi_report : Cond.instanceMethod yX9_report ∈ UW := tbu (tb6 (List.mem_of_getElem? (i := 65) rfl)) rfl
theorem vs_report : Cond.selects RX9 yX9_report yX9_report ∈ UW := tbu (tb6 (List.mem_of_getElem? (i := 66) rfl)) rfl
theorem vc_report : Cond.code yX9_report cX9_report 4 (some .int) ∈ UW := tbu (tb6 (List.mem_of_getElem? (i := 67) rfl)) rfl
theorem vy_report : yOk yX9_report 1 := ⟨by decide +kernel, by decide +kernel, by decide +kernel⟩
theorem vk_character : Cond.methodLink RL 138 yX9_character ∈ UW := tbu (tb6 (List.mem_of_getElem? (i := 102) rfl)) rfl
theorem vi_character : Cond.instanceMethod yX9_character ∈ UW := tbu (tb6 (List.mem_of_getElem? (i := 103) rfl)) rfl
theorem vs_character : Cond.selects RX9 yX9_character yX9_character ∈ UW := tbu (tb6 (List.mem_of_getElem? (i := 104) rfl)) rfl
theorem vc_character : Cond.code yX9_character cX9_character 2 (some .char) ∈ UW := tbu (tb6 (List.mem_of_getElem? (i := 105) rfl)) rfl
theorem vy_character : yOk yX9_character 1 := ⟨by decide +kernel, by decide +kernel, by decide +kernel⟩
theorem vk_undo : Cond.methodLink RL 142 yX9_undo ∈ UW := tbu (tb6 (List.mem_of_getElem? (i := 109) rfl)) rfl
theorem vi_undo : Cond.instanceMethod yX9_undo ∈ UW := tbu (tb6 (List.mem_of_getElem? (i := 110) rfl)) rfl
theorem vs_undo : Cond.selects RX9 yX9_undo yX9_undo ∈ UW := tbu (tb6 (List.mem_of_getElem? (i := 111) rfl)) rfl
theorem vc_undo : Cond.code yX9_undo cX9_undo 1 (some .int) ∈ UW := tbu (tb6 (List.mem_of_getElem? (i := 112) rfl)) rfl
theorem vy_undo : yOk yX9_undo 0 := ⟨by decide +kernel, by decide +kernel, by decide +kernel⟩
theorem vk_restore : Cond.methodLink RL 145 yX9_restore ∈ UW := tbu (tb6 (List.mem_of_getElem? (i := 120) rfl)) rfl
theorem vi_restore : Cond.instanceMethod yX9_restore ∈ UW := tbu (tb6 (List.mem_of_getElem? (i := 121) rfl)) rfl
theorem vs_restore : Cond.selects RX9 yX9_restore yX9_restore ∈ UW := tbu (tb6 (List.mem_of_getElem? (i := 122) rfl)) rfl
theorem vc_restore : Cond.code yX9_restore cX9_restore 1 (some .int) ∈ UW := tbu (tb6 (List.mem_of_getElem? (i := 123) rfl)) rfl
theorem vy_restore : yOk yX9_restore 0 := ⟨by decide +kernel, by decide +kernel, by decide +kernel⟩
theorem cw_cycle {Ω : Wd} (l : Launch) (hO : OkW Ω) (hX : LX Ω) (hl0 : l.stackTraces = false) (hT : ThrOk Ω) (hN : NcX Ω) (t5 : Nat) {cL : ClassId} (ht : (wT Ω)[t5]? = some (cL, .long)) {out : Nat} (ho : ∀ i, i < wN Ω → wA Ω i ≠ out) (M : Mem) (p0 : Int32) (f : Nat → Int64) {rx : Nat ⊕ Int32} {M' : Mem} (hf : fX9_cycle M p0 = some (rx, M')) {k : Int32} (hk : ResK [1, 2] rx k) : CtW l yL_cycle (.codeWith yL_cycle cL_cycle 4 (some .int) [(0, 9, 12, 13), (0, 9, 15, 15)]) 9 183 Ω out [.ref (wA Ω 0), .int p0, .ref out] M (lc cL f) k M' (EL cL rx) := by
  refine wr_of [(0, .ref (wA Ω 0)), (1, .int p0), (2, .ref out)] hO ho (by decide +kernel) rfl (Nat.le_of_ble_eq_true rfl) rfl (fun p e s m below meth c B ls hl => ?_)
  have b1 := B.1
  have b2 := B.2.1
  refine lv_aload_n b1 b2 dL_cycle_0 rfl (lv_at hl 2 rfl) ?_
  refine lv_iconst (v := 0) b1 b2 dL_cycle_1 (by decide) ?_
  refine lv_aload_n b1 b2 dL_cycle_2 rfl (lv_at hl 0 rfl) ?_
  refine lv_iload_n b1 b2 dL_cycle_3 rfl (lv_at hl 1 rfl) ?_
  have hC := c_X9_cycle l hO hX hl0 hT M p0 _ hf
  cases rx with
  | inr v =>
    have hk0 : k = 0 := hk
    subst hk0
    exact wr_callR (v := some (.int v)) (M' := M') (As := [.int p0]) (st := [.int 0, .ref out]) B hC hX dL_cycle_4 ⟨vk_cycle, vi_cycle, vs_cycle, vn_X9, vc_cycle⟩ rfl vy_cycle ⟨(Nat.le_of_ble_eq_true rfl), (Nat.le_of_ble_eq_true rfl)⟩ (Nat.le_of_ble_eq_true rfl) rfl hl (fun H1 locs1 hP1 hS1 => wr_ret B rfl t5 ht (fun g hg => ⟨g, rfl, fun v' h => by cases h; exact hg⟩) hP1 hS1 18 (by decide) dL_cycle_7 dL_cycle_8 dL_cycle_9 dL_cycle_18 dL_cycle_19)
  | inl e0 =>
    obtain ⟨i, hi, rfl⟩ := hk
    match i, hi with
    | 0, hi =>
      cases hi
      exact wr_callX (M' := M') (As := [.int p0]) (st := [.int 0, .ref out]) B hC hX dL_cycle_4 ⟨vk_cycle, vi_cycle, vs_cycle, vn_X9, vc_cycle⟩ rfl vy_cycle ⟨(Nat.le_of_ble_eq_true rfl), (Nat.le_of_ble_eq_true rfl)⟩ (Nat.le_of_ble_eq_true rfl) rfl hl (fun H1 locs1 q ce hP1 hS1 hce hcv hcl => wr_catch B hN (k := 1) (by decide) _ ⟨f, rfl, fun v h => by cases h⟩ hP1 hS1 hce hcv hcl [] ⟨0, 9, 12, 13⟩ [⟨0, 9, 15, 15⟩] rfl (fun _ h => absurd h List.not_mem_nil) rfl (by decide) vl_13 vcast_1 (lv_astore_n b1 b2 dL_cycle_12 rfl hl (Nat.le_of_ble_eq_true rfl) rfl (fun ls' _ => wr_hret B ⟨f, rfl, fun v h => by cases h⟩ hP1 hS1 (by decide) dL_cycle_13 dL_cycle_14)))
    | 1, hi =>
      cases hi
      exact wr_callX (M' := M') (As := [.int p0]) (st := [.int 0, .ref out]) B hC hX dL_cycle_4 ⟨vk_cycle, vi_cycle, vs_cycle, vn_X9, vc_cycle⟩ rfl vy_cycle ⟨(Nat.le_of_ble_eq_true rfl), (Nat.le_of_ble_eq_true rfl)⟩ (Nat.le_of_ble_eq_true rfl) rfl hl (fun H1 locs1 q ce hP1 hS1 hce hcv hcl => wr_catch B hN (k := 2) (by decide) _ ⟨f, rfl, fun v h => by cases h⟩ hP1 hS1 hce hcv hcl [⟨0, 9, 12, 13⟩] ⟨0, 9, 15, 15⟩ [] rfl (List.forall_mem_cons.mpr ⟨⟨1, by decide, by decide, by decide, vl_13⟩, fun _ h => absurd h List.not_mem_nil⟩) rfl (by decide) vl_15 vcast_2 (lv_astore_n b1 b2 dL_cycle_15 rfl hl (Nat.le_of_ble_eq_true rfl) rfl (fun ls' _ => wr_hret B ⟨f, rfl, fun v h => by cases h⟩ hP1 hS1 (by decide) dL_cycle_16 dL_cycle_17)))
    | n + 2, hi => simp at hi
theorem cw_speed {Ω : Wd} (l : Launch) (hO : OkW Ω) (hX : LX Ω) (hl0 : l.stackTraces = false) (hT : ThrOk Ω) (hN : NcX Ω) (t5 : Nat) {cL : ClassId} (ht : (wT Ω)[t5]? = some (cL, .long)) {out : Nat} (ho : ∀ i, i < wN Ω → wA Ω i ≠ out) (M : Mem) (p0 : Int32) (f : Nat → Int64) {rx : Nat ⊕ Int32} {M' : Mem} (hf : fX9_speed M p0 = some (rx, M')) {k : Int32} (hk : ResK [1] rx k) : CtW l yL_speed (.codeWith yL_speed cL_speed 4 (some .int) [(0, 9, 12, 13)]) 9 183 Ω out [.ref (wA Ω 0), .int p0, .ref out] M (lc cL f) k M' (EL cL rx) := by
  refine wr_of [(0, .ref (wA Ω 0)), (1, .int p0), (2, .ref out)] hO ho (by decide +kernel) rfl (Nat.le_of_ble_eq_true rfl) rfl (fun p e s m below meth c B ls hl => ?_)
  have b1 := B.1
  have b2 := B.2.1
  refine lv_aload_n b1 b2 dL_speed_0 rfl (lv_at hl 2 rfl) ?_
  refine lv_iconst (v := 0) b1 b2 dL_speed_1 (by decide) ?_
  refine lv_aload_n b1 b2 dL_speed_2 rfl (lv_at hl 0 rfl) ?_
  refine lv_iload_n b1 b2 dL_speed_3 rfl (lv_at hl 1 rfl) ?_
  have hC := c_X9_speed l hO hX hl0 hT M p0 _ hf
  cases rx with
  | inr v =>
    have hk0 : k = 0 := hk
    subst hk0
    exact wr_callR (v := some (.int v)) (M' := M') (As := [.int p0]) (st := [.int 0, .ref out]) B hC hX dL_speed_4 ⟨vk_speed, vi_speed, vs_speed, vn_X9, vc_speed⟩ rfl vy_speed ⟨(Nat.le_of_ble_eq_true rfl), (Nat.le_of_ble_eq_true rfl)⟩ (Nat.le_of_ble_eq_true rfl) rfl hl (fun H1 locs1 hP1 hS1 => wr_ret B rfl t5 ht (fun g hg => ⟨g, rfl, fun v' h => by cases h; exact hg⟩) hP1 hS1 15 (by decide) dL_speed_7 dL_speed_8 dL_speed_9 dL_speed_15 dL_speed_16)
  | inl e0 =>
    obtain ⟨i, hi, rfl⟩ := hk
    match i, hi with
    | 0, hi =>
      cases hi
      exact wr_callX (M' := M') (As := [.int p0]) (st := [.int 0, .ref out]) B hC hX dL_speed_4 ⟨vk_speed, vi_speed, vs_speed, vn_X9, vc_speed⟩ rfl vy_speed ⟨(Nat.le_of_ble_eq_true rfl), (Nat.le_of_ble_eq_true rfl)⟩ (Nat.le_of_ble_eq_true rfl) rfl hl (fun H1 locs1 q ce hP1 hS1 hce hcv hcl => wr_catch B hN (k := 1) (by decide) _ ⟨f, rfl, fun v h => by cases h⟩ hP1 hS1 hce hcv hcl [] ⟨0, 9, 12, 13⟩ [] rfl (fun _ h => absurd h List.not_mem_nil) rfl (by decide) vl_13 vcast_1 (lv_astore_n b1 b2 dL_speed_12 rfl hl (Nat.le_of_ble_eq_true rfl) rfl (fun ls' _ => wr_hret B ⟨f, rfl, fun v h => by cases h⟩ hP1 hS1 (by decide) dL_speed_13 dL_speed_14)))
    | n + 1, hi => simp at hi
theorem cw_junction {Ω : Wd} (l : Launch) (hO : OkW Ω) (hX : LX Ω) (hl0 : l.stackTraces = false) (hT : ThrOk Ω) (hN : NcX Ω) (t5 : Nat) {cL : ClassId} (ht : (wT Ω)[t5]? = some (cL, .long)) {out : Nat} (ho : ∀ i, i < wN Ω → wA Ω i ≠ out) (M : Mem) (p0 : Int32) (f : Nat → Int64) {rx : Nat ⊕ Int32} {M' : Mem} (hf : fX9_junction M p0 = some (rx, M')) {k : Int32} (hk : ResK [1, 2] rx k) : CtW l yL_junction (.codeWith yL_junction cL_junction 4 (some .int) [(0, 9, 12, 13), (0, 9, 15, 15)]) 9 182 Ω out [.ref (wA Ω 0), .int p0, .ref out] M (lc cL f) k M' (EL cL rx) := by
  refine wr_of [(0, .ref (wA Ω 0)), (1, .int p0), (2, .ref out)] hO ho (by decide +kernel) rfl (Nat.le_of_ble_eq_true rfl) rfl (fun p e s m below meth c B ls hl => ?_)
  have b1 := B.1
  have b2 := B.2.1
  refine lv_aload_n b1 b2 dL_junction_0 rfl (lv_at hl 2 rfl) ?_
  refine lv_iconst (v := 0) b1 b2 dL_junction_1 (by decide) ?_
  refine lv_aload_n b1 b2 dL_junction_2 rfl (lv_at hl 0 rfl) ?_
  refine lv_iload_n b1 b2 dL_junction_3 rfl (lv_at hl 1 rfl) ?_
  have hC := c_X9_junction l hO hX hl0 hT M p0 _ hf
  cases rx with
  | inr v =>
    have hk0 : k = 0 := hk
    subst hk0
    exact wr_callR (v := some (.int v)) (M' := M') (As := [.int p0]) (st := [.int 0, .ref out]) B hC hX dL_junction_4 ⟨vk_junction, vi_junction, vs_junction, vn_X9, vc_junction⟩ rfl vy_junction ⟨(Nat.le_of_ble_eq_true rfl), (Nat.le_of_ble_eq_true rfl)⟩ (Nat.le_of_ble_eq_true rfl) rfl hl (fun H1 locs1 hP1 hS1 => wr_ret B rfl t5 ht (fun g hg => ⟨g, rfl, fun v' h => by cases h; exact hg⟩) hP1 hS1 18 (by decide) dL_junction_7 dL_junction_8 dL_junction_9 dL_junction_18 dL_junction_19)
  | inl e0 =>
    obtain ⟨i, hi, rfl⟩ := hk
    match i, hi with
    | 0, hi =>
      cases hi
      exact wr_callX (M' := M') (As := [.int p0]) (st := [.int 0, .ref out]) B hC hX dL_junction_4 ⟨vk_junction, vi_junction, vs_junction, vn_X9, vc_junction⟩ rfl vy_junction ⟨(Nat.le_of_ble_eq_true rfl), (Nat.le_of_ble_eq_true rfl)⟩ (Nat.le_of_ble_eq_true rfl) rfl hl (fun H1 locs1 q ce hP1 hS1 hce hcv hcl => wr_catch B hN (k := 1) (by decide) _ ⟨f, rfl, fun v h => by cases h⟩ hP1 hS1 hce hcv hcl [] ⟨0, 9, 12, 13⟩ [⟨0, 9, 15, 15⟩] rfl (fun _ h => absurd h List.not_mem_nil) rfl (by decide) vl_13 vcast_1 (lv_astore_n b1 b2 dL_junction_12 rfl hl (Nat.le_of_ble_eq_true rfl) rfl (fun ls' _ => wr_hret B ⟨f, rfl, fun v h => by cases h⟩ hP1 hS1 (by decide) dL_junction_13 dL_junction_14)))
    | 1, hi =>
      cases hi
      exact wr_callX (M' := M') (As := [.int p0]) (st := [.int 0, .ref out]) B hC hX dL_junction_4 ⟨vk_junction, vi_junction, vs_junction, vn_X9, vc_junction⟩ rfl vy_junction ⟨(Nat.le_of_ble_eq_true rfl), (Nat.le_of_ble_eq_true rfl)⟩ (Nat.le_of_ble_eq_true rfl) rfl hl (fun H1 locs1 q ce hP1 hS1 hce hcv hcl => wr_catch B hN (k := 2) (by decide) _ ⟨f, rfl, fun v h => by cases h⟩ hP1 hS1 hce hcv hcl [⟨0, 9, 12, 13⟩] ⟨0, 9, 15, 15⟩ [] rfl (List.forall_mem_cons.mpr ⟨⟨1, by decide, by decide, by decide, vl_13⟩, fun _ h => absurd h List.not_mem_nil⟩) rfl (by decide) vl_15 vcast_2 (lv_astore_n b1 b2 dL_junction_15 rfl hl (Nat.le_of_ble_eq_true rfl) rfl (fun ls' _ => wr_hret B ⟨f, rfl, fun v h => by cases h⟩ hP1 hS1 (by decide) dL_junction_16 dL_junction_17)))
    | n + 2, hi => simp at hi
theorem cw_offset {Ω : Wd} (l : Launch) (hO : OkW Ω) (hX : LX Ω) (hl0 : l.stackTraces = false) (hT : ThrOk Ω) (hN : NcX Ω) (t5 : Nat) {cL : ClassId} (ht : (wT Ω)[t5]? = some (cL, .long)) {out : Nat} (ho : ∀ i, i < wN Ω → wA Ω i ≠ out) (M : Mem) (p0 : Int32) (p1 : Int32) (f : Nat → Int64) {rx : Nat ⊕ Int32} {M' : Mem} (hf : fX9_offset M p0 p1 = some (rx, M')) {k : Int32} (hk : ResK [0, 1, 2] rx k) : CtW l yL_offset (.codeWith yL_offset cL_offset 5 (some .int) [(0, 10, 13, 27), (0, 10, 17, 13), (0, 10, 21, 15)]) 9 188 Ω out [.ref (wA Ω 0), .int p0, .int p1, .ref out] M (lc cL f) k M' (EL cL rx) := by
  refine wr_of [(0, .ref (wA Ω 0)), (1, .int p0), (2, .int p1), (3, .ref out)] hO ho (by decide +kernel) rfl (Nat.le_of_ble_eq_true rfl) rfl (fun p e s m below meth c B ls hl => ?_)
  have b1 := B.1
  have b2 := B.2.1
  refine lv_aload_n b1 b2 dL_offset_0 rfl (lv_at hl 3 rfl) ?_
  refine lv_iconst (v := 0) b1 b2 dL_offset_1 (by decide) ?_
  refine lv_aload_n b1 b2 dL_offset_2 rfl (lv_at hl 0 rfl) ?_
  refine lv_iload_n b1 b2 dL_offset_3 rfl (lv_at hl 1 rfl) ?_
  refine lv_iload_n b1 b2 dL_offset_4 rfl (lv_at hl 2 rfl) ?_
  have hC := c_X9_offset l hO hX hl0 hT M p0 p1 _ hf
  cases rx with
  | inr v =>
    have hk0 : k = 0 := hk
    subst hk0
    exact wr_callR (v := some (.int v)) (M' := M') (As := [.int p0, .int p1]) (st := [.int 0, .ref out]) B hC hX dL_offset_5 ⟨vk_offset, vi_offset, vs_offset, vn_X9, vc_offset⟩ rfl vy_offset ⟨(Nat.le_of_ble_eq_true rfl), (Nat.le_of_ble_eq_true rfl)⟩ (Nat.le_of_ble_eq_true rfl) rfl hl (fun H1 locs1 hP1 hS1 => wr_ret B rfl t5 ht (fun g hg => ⟨g, rfl, fun v' h => by cases h; exact hg⟩) hP1 hS1 25 (by decide) dL_offset_8 dL_offset_9 dL_offset_10 dL_offset_25 dL_offset_26)
  | inl e0 =>
    obtain ⟨i, hi, rfl⟩ := hk
    match i, hi with
    | 0, hi =>
      cases hi
      exact wr_callX (M' := M') (As := [.int p0, .int p1]) (st := [.int 0, .ref out]) B hC hX dL_offset_5 ⟨vk_offset, vi_offset, vs_offset, vn_X9, vc_offset⟩ rfl vy_offset ⟨(Nat.le_of_ble_eq_true rfl), (Nat.le_of_ble_eq_true rfl)⟩ (Nat.le_of_ble_eq_true rfl) rfl hl (fun H1 locs1 q ce hP1 hS1 hce hcv hcl => wr_catch B hN (k := 0) (by decide) _ ⟨f, rfl, fun v h => by cases h⟩ hP1 hS1 hce hcv hcl [] ⟨0, 10, 13, 27⟩ [⟨0, 10, 17, 13⟩, ⟨0, 10, 21, 15⟩] rfl (fun _ h => absurd h List.not_mem_nil) rfl (by decide) vl_27 vcast_0 (lv_astore b1 b2 dL_offset_13 hl (Nat.le_of_ble_eq_true rfl) rfl (fun ls' _ => wr_hret B ⟨f, rfl, fun v h => by cases h⟩ hP1 hS1 (by decide) dL_offset_15 dL_offset_16)))
    | 1, hi =>
      cases hi
      exact wr_callX (M' := M') (As := [.int p0, .int p1]) (st := [.int 0, .ref out]) B hC hX dL_offset_5 ⟨vk_offset, vi_offset, vs_offset, vn_X9, vc_offset⟩ rfl vy_offset ⟨(Nat.le_of_ble_eq_true rfl), (Nat.le_of_ble_eq_true rfl)⟩ (Nat.le_of_ble_eq_true rfl) rfl hl (fun H1 locs1 q ce hP1 hS1 hce hcv hcl => wr_catch B hN (k := 1) (by decide) _ ⟨f, rfl, fun v h => by cases h⟩ hP1 hS1 hce hcv hcl [⟨0, 10, 13, 27⟩] ⟨0, 10, 17, 13⟩ [⟨0, 10, 21, 15⟩] rfl (List.forall_mem_cons.mpr ⟨⟨0, by decide, by decide, by decide, vl_27⟩, fun _ h => absurd h List.not_mem_nil⟩) rfl (by decide) vl_13 vcast_1 (lv_astore b1 b2 dL_offset_17 hl (Nat.le_of_ble_eq_true rfl) rfl (fun ls' _ => wr_hret B ⟨f, rfl, fun v h => by cases h⟩ hP1 hS1 (by decide) dL_offset_19 dL_offset_20)))
    | 2, hi =>
      cases hi
      exact wr_callX (M' := M') (As := [.int p0, .int p1]) (st := [.int 0, .ref out]) B hC hX dL_offset_5 ⟨vk_offset, vi_offset, vs_offset, vn_X9, vc_offset⟩ rfl vy_offset ⟨(Nat.le_of_ble_eq_true rfl), (Nat.le_of_ble_eq_true rfl)⟩ (Nat.le_of_ble_eq_true rfl) rfl hl (fun H1 locs1 q ce hP1 hS1 hce hcv hcl => wr_catch B hN (k := 2) (by decide) _ ⟨f, rfl, fun v h => by cases h⟩ hP1 hS1 hce hcv hcl [⟨0, 10, 13, 27⟩, ⟨0, 10, 17, 13⟩] ⟨0, 10, 21, 15⟩ [] rfl (List.forall_mem_cons.mpr ⟨⟨0, by decide, by decide, by decide, vl_27⟩, List.forall_mem_cons.mpr ⟨⟨1, by decide, by decide, by decide, vl_13⟩, fun _ h => absurd h List.not_mem_nil⟩⟩) rfl (by decide) vl_15 vcast_2 (lv_astore b1 b2 dL_offset_21 hl (Nat.le_of_ble_eq_true rfl) rfl (fun ls' _ => wr_hret B ⟨f, rfl, fun v h => by cases h⟩ hP1 hS1 (by decide) dL_offset_23 dL_offset_24)))
    | n + 3, hi => simp at hi
theorem cw_road {Ω : Wd} (l : Launch) (hO : OkW Ω) (hX : LX Ω) (hl0 : l.stackTraces = false) (hT : ThrOk Ω) (hN : NcX Ω) (t5 : Nat) {cL : ClassId} (ht : (wT Ω)[t5]? = some (cL, .long)) {out : Nat} (ho : ∀ i, i < wN Ω → wA Ω i ≠ out) (M : Mem) (p0 : Int32) (p1 : Int32) (p2 : Int32) (f : Nat → Int64) {rx : Nat ⊕ Int32} {M' : Mem} (hf : fX9_road M p0 p1 p2 = some (rx, M')) {k : Int32} (hk : ResK [0] rx k) : CtW l yL_road (.codeWith yL_road cL_road 6 (some .int) [(0, 12, 15, 27)]) 9 190 Ω out [.ref (wA Ω 0), .int p0, .int p1, .int p2, .ref out] M (lc cL f) k M' (EL cL rx) := by
  refine wr_of [(0, .ref (wA Ω 0)), (1, .int p0), (2, .int p1), (3, .int p2), (4, .ref out)] hO ho (by decide +kernel) rfl (Nat.le_of_ble_eq_true rfl) rfl (fun p e s m below meth c B ls hl => ?_)
  have b1 := B.1
  have b2 := B.2.1
  refine lv_aload b1 b2 dL_road_0 (lv_at hl 4 rfl) ?_
  refine lv_iconst (v := 0) b1 b2 dL_road_2 (by decide) ?_
  refine lv_aload_n b1 b2 dL_road_3 rfl (lv_at hl 0 rfl) ?_
  refine lv_iload_n b1 b2 dL_road_4 rfl (lv_at hl 1 rfl) ?_
  refine lv_iload_n b1 b2 dL_road_5 rfl (lv_at hl 2 rfl) ?_
  refine lv_iload_n b1 b2 dL_road_6 rfl (lv_at hl 3 rfl) ?_
  have hC := c_X9_road l hO hX hl0 hT M p0 p1 p2 _ hf
  cases rx with
  | inr v =>
    have hk0 : k = 0 := hk
    subst hk0
    exact wr_callR (v := some (.int v)) (M' := M') (As := [.int p0, .int p1, .int p2]) (st := [.int 0, .ref out]) B hC hX dL_road_7 ⟨vk_road, vi_road, vs_road, vn_X9, vc_road⟩ rfl vy_road ⟨(Nat.le_of_ble_eq_true rfl), (Nat.le_of_ble_eq_true rfl)⟩ (Nat.le_of_ble_eq_true rfl) rfl hl (fun H1 locs1 hP1 hS1 => wr_ret B rfl t5 ht (fun g hg => ⟨g, rfl, fun v' h => by cases h; exact hg⟩) hP1 hS1 19 (by decide) dL_road_10 dL_road_11 dL_road_12 dL_road_19 dL_road_20)
  | inl e0 =>
    obtain ⟨i, hi, rfl⟩ := hk
    match i, hi with
    | 0, hi =>
      cases hi
      exact wr_callX (M' := M') (As := [.int p0, .int p1, .int p2]) (st := [.int 0, .ref out]) B hC hX dL_road_7 ⟨vk_road, vi_road, vs_road, vn_X9, vc_road⟩ rfl vy_road ⟨(Nat.le_of_ble_eq_true rfl), (Nat.le_of_ble_eq_true rfl)⟩ (Nat.le_of_ble_eq_true rfl) rfl hl (fun H1 locs1 q ce hP1 hS1 hce hcv hcl => wr_catch B hN (k := 0) (by decide) _ ⟨f, rfl, fun v h => by cases h⟩ hP1 hS1 hce hcv hcl [] ⟨0, 12, 15, 27⟩ [] rfl (fun _ h => absurd h List.not_mem_nil) rfl (by decide) vl_27 vcast_0 (lv_astore b1 b2 dL_road_15 hl (Nat.le_of_ble_eq_true rfl) rfl (fun ls' _ => wr_hret B ⟨f, rfl, fun v h => by cases h⟩ hP1 hS1 (by decide) dL_road_17 dL_road_18)))
    | n + 1, hi => simp at hi
theorem cw_told {Ω : Wd} (l : Launch) (hO : OkW Ω) (hX : LX Ω) (hl0 : l.stackTraces = false) (hT : ThrOk Ω) (hN : NcX Ω) (t5 : Nat) {cL : ClassId} (ht : (wT Ω)[t5]? = some (cL, .long)) {out : Nat} (ho : ∀ i, i < wN Ω → wA Ω i ≠ out) (M : Mem) (p0 : Int32) (p1 : Int32) (f : Nat → Int64) {rx : Nat ⊕ Int32} (hf : fX9_told M p0 p1 = some rx) {k : Int32} (hk : ResK [0, 1] rx k) : CtW l yL_told (.codeWith yL_told cL_told 5 (some .int) [(0, 10, 13, 27), (0, 10, 17, 13)]) 8 165 Ω out [.ref (wA Ω 0), .int p0, .int p1, .ref out] M (lc cL f) k M (EL cL rx) := by
  refine wr_of [(0, .ref (wA Ω 0)), (1, .int p0), (2, .int p1), (3, .ref out)] hO ho (by decide +kernel) rfl (Nat.le_of_ble_eq_true rfl) rfl (fun p e s m below meth c B ls hl => ?_)
  have b1 := B.1
  have b2 := B.2.1
  refine lv_aload_n b1 b2 dL_told_0 rfl (lv_at hl 3 rfl) ?_
  refine lv_iconst (v := 0) b1 b2 dL_told_1 (by decide) ?_
  refine lv_aload_n b1 b2 dL_told_2 rfl (lv_at hl 0 rfl) ?_
  refine lv_iload_n b1 b2 dL_told_3 rfl (lv_at hl 1 rfl) ?_
  refine lv_iload_n b1 b2 dL_told_4 rfl (lv_at hl 2 rfl) ?_
  have hC := c_X9_told l hO hX hl0 hT M p0 p1 _ hf
  cases rx with
  | inr v =>
    have hk0 : k = 0 := hk
    subst hk0
    exact wr_callR (v := some (.int v)) (M' := M) (As := [.int p0, .int p1]) (st := [.int 0, .ref out]) B hC hX dL_told_5 ⟨vk_told, vi_told, vs_told, vn_X9, vc_told⟩ rfl vy_told ⟨(Nat.le_of_ble_eq_true rfl), (Nat.le_of_ble_eq_true rfl)⟩ (Nat.le_of_ble_eq_true rfl) rfl hl (fun H1 locs1 hP1 hS1 => wr_ret B rfl t5 ht (fun g hg => ⟨g, rfl, fun v' h => by cases h; exact hg⟩) hP1 hS1 21 (by decide) dL_told_8 dL_told_9 dL_told_10 dL_told_21 dL_told_22)
  | inl e0 =>
    obtain ⟨i, hi, rfl⟩ := hk
    match i, hi with
    | 0, hi =>
      cases hi
      exact wr_callX (M' := M) (As := [.int p0, .int p1]) (st := [.int 0, .ref out]) B hC hX dL_told_5 ⟨vk_told, vi_told, vs_told, vn_X9, vc_told⟩ rfl vy_told ⟨(Nat.le_of_ble_eq_true rfl), (Nat.le_of_ble_eq_true rfl)⟩ (Nat.le_of_ble_eq_true rfl) rfl hl (fun H1 locs1 q ce hP1 hS1 hce hcv hcl => wr_catch B hN (k := 0) (by decide) _ ⟨f, rfl, fun v h => by cases h⟩ hP1 hS1 hce hcv hcl [] ⟨0, 10, 13, 27⟩ [⟨0, 10, 17, 13⟩] rfl (fun _ h => absurd h List.not_mem_nil) rfl (by decide) vl_27 vcast_0 (lv_astore b1 b2 dL_told_13 hl (Nat.le_of_ble_eq_true rfl) rfl (fun ls' _ => wr_hret B ⟨f, rfl, fun v h => by cases h⟩ hP1 hS1 (by decide) dL_told_15 dL_told_16)))
    | 1, hi =>
      cases hi
      exact wr_callX (M' := M) (As := [.int p0, .int p1]) (st := [.int 0, .ref out]) B hC hX dL_told_5 ⟨vk_told, vi_told, vs_told, vn_X9, vc_told⟩ rfl vy_told ⟨(Nat.le_of_ble_eq_true rfl), (Nat.le_of_ble_eq_true rfl)⟩ (Nat.le_of_ble_eq_true rfl) rfl hl (fun H1 locs1 q ce hP1 hS1 hce hcv hcl => wr_catch B hN (k := 1) (by decide) _ ⟨f, rfl, fun v h => by cases h⟩ hP1 hS1 hce hcv hcl [⟨0, 10, 13, 27⟩] ⟨0, 10, 17, 13⟩ [] rfl (List.forall_mem_cons.mpr ⟨⟨0, by decide, by decide, by decide, vl_27⟩, fun _ h => absurd h List.not_mem_nil⟩) rfl (by decide) vl_13 vcast_1 (lv_astore b1 b2 dL_told_17 hl (Nat.le_of_ble_eq_true rfl) rfl (fun ls' _ => wr_hret B ⟨f, rfl, fun v h => by cases h⟩ hP1 hS1 (by decide) dL_told_19 dL_told_20)))
    | n + 2, hi => simp at hi
theorem cw_group {Ω : Wd} (l : Launch) (hO : OkW Ω) (hX : LX Ω) (hl0 : l.stackTraces = false) (hT : ThrOk Ω) (hN : NcX Ω) (t5 : Nat) {cL : ClassId} (ht : (wT Ω)[t5]? = some (cL, .long)) {out : Nat} (ho : ∀ i, i < wN Ω → wA Ω i ≠ out) (M : Mem) (p0 : Int32) (p1 : Int32) (p2 : Int32) (p3 : Int32) (f : Nat → Int64) {rx : Nat ⊕ Int32} {M' : Mem} (hf : fX9_group M p0 p1 p2 p3 = some (rx, M')) {k : Int32} (hk : ResK [0, 1, 2] rx k) : CtW l yL_group (.codeWith yL_group cL_group 7 (some .int) [(0, 14, 17, 27), (0, 14, 21, 13), (0, 14, 25, 15)]) 9 186 Ω out [.ref (wA Ω 0), .int p0, .int p1, .int p2, .int p3, .ref out] M (lc cL f) k M' (EL cL rx) := by
  refine wr_of [(0, .ref (wA Ω 0)), (1, .int p0), (2, .int p1), (3, .int p2), (4, .int p3), (5, .ref out)] hO ho (by decide +kernel) rfl (Nat.le_of_ble_eq_true rfl) rfl (fun p e s m below meth c B ls hl => ?_)
  have b1 := B.1
  have b2 := B.2.1
  refine lv_aload b1 b2 dL_group_0 (lv_at hl 5 rfl) ?_
  refine lv_iconst (v := 0) b1 b2 dL_group_2 (by decide) ?_
  refine lv_aload_n b1 b2 dL_group_3 rfl (lv_at hl 0 rfl) ?_
  refine lv_iload_n b1 b2 dL_group_4 rfl (lv_at hl 1 rfl) ?_
  refine lv_iload_n b1 b2 dL_group_5 rfl (lv_at hl 2 rfl) ?_
  refine lv_iload_n b1 b2 dL_group_6 rfl (lv_at hl 3 rfl) ?_
  refine lv_iload b1 b2 dL_group_7 (lv_at hl 4 rfl) ?_
  have hC := c_X9_group l hO hX hl0 hT M p0 p1 p2 p3 _ hf
  cases rx with
  | inr v =>
    have hk0 : k = 0 := hk
    subst hk0
    exact wr_callR (v := some (.int v)) (M' := M') (As := [.int p0, .int p1, .int p2, .int p3]) (st := [.int 0, .ref out]) B hC hX dL_group_9 ⟨vk_group, vi_group, vs_group, vn_X9, vc_group⟩ rfl vy_group ⟨(Nat.le_of_ble_eq_true rfl), (Nat.le_of_ble_eq_true rfl)⟩ (Nat.le_of_ble_eq_true rfl) rfl hl (fun H1 locs1 hP1 hS1 => wr_ret B rfl t5 ht (fun g hg => ⟨g, rfl, fun v' h => by cases h; exact hg⟩) hP1 hS1 29 (by decide) dL_group_12 dL_group_13 dL_group_14 dL_group_29 dL_group_30)
  | inl e0 =>
    obtain ⟨i, hi, rfl⟩ := hk
    match i, hi with
    | 0, hi =>
      cases hi
      exact wr_callX (M' := M') (As := [.int p0, .int p1, .int p2, .int p3]) (st := [.int 0, .ref out]) B hC hX dL_group_9 ⟨vk_group, vi_group, vs_group, vn_X9, vc_group⟩ rfl vy_group ⟨(Nat.le_of_ble_eq_true rfl), (Nat.le_of_ble_eq_true rfl)⟩ (Nat.le_of_ble_eq_true rfl) rfl hl (fun H1 locs1 q ce hP1 hS1 hce hcv hcl => wr_catch B hN (k := 0) (by decide) _ ⟨f, rfl, fun v h => by cases h⟩ hP1 hS1 hce hcv hcl [] ⟨0, 14, 17, 27⟩ [⟨0, 14, 21, 13⟩, ⟨0, 14, 25, 15⟩] rfl (fun _ h => absurd h List.not_mem_nil) rfl (by decide) vl_27 vcast_0 (lv_astore b1 b2 dL_group_17 hl (Nat.le_of_ble_eq_true rfl) rfl (fun ls' _ => wr_hret B ⟨f, rfl, fun v h => by cases h⟩ hP1 hS1 (by decide) dL_group_19 dL_group_20)))
    | 1, hi =>
      cases hi
      exact wr_callX (M' := M') (As := [.int p0, .int p1, .int p2, .int p3]) (st := [.int 0, .ref out]) B hC hX dL_group_9 ⟨vk_group, vi_group, vs_group, vn_X9, vc_group⟩ rfl vy_group ⟨(Nat.le_of_ble_eq_true rfl), (Nat.le_of_ble_eq_true rfl)⟩ (Nat.le_of_ble_eq_true rfl) rfl hl (fun H1 locs1 q ce hP1 hS1 hce hcv hcl => wr_catch B hN (k := 1) (by decide) _ ⟨f, rfl, fun v h => by cases h⟩ hP1 hS1 hce hcv hcl [⟨0, 14, 17, 27⟩] ⟨0, 14, 21, 13⟩ [⟨0, 14, 25, 15⟩] rfl (List.forall_mem_cons.mpr ⟨⟨0, by decide, by decide, by decide, vl_27⟩, fun _ h => absurd h List.not_mem_nil⟩) rfl (by decide) vl_13 vcast_1 (lv_astore b1 b2 dL_group_21 hl (Nat.le_of_ble_eq_true rfl) rfl (fun ls' _ => wr_hret B ⟨f, rfl, fun v h => by cases h⟩ hP1 hS1 (by decide) dL_group_23 dL_group_24)))
    | 2, hi =>
      cases hi
      exact wr_callX (M' := M') (As := [.int p0, .int p1, .int p2, .int p3]) (st := [.int 0, .ref out]) B hC hX dL_group_9 ⟨vk_group, vi_group, vs_group, vn_X9, vc_group⟩ rfl vy_group ⟨(Nat.le_of_ble_eq_true rfl), (Nat.le_of_ble_eq_true rfl)⟩ (Nat.le_of_ble_eq_true rfl) rfl hl (fun H1 locs1 q ce hP1 hS1 hce hcv hcl => wr_catch B hN (k := 2) (by decide) _ ⟨f, rfl, fun v h => by cases h⟩ hP1 hS1 hce hcv hcl [⟨0, 14, 17, 27⟩, ⟨0, 14, 21, 13⟩] ⟨0, 14, 25, 15⟩ [] rfl (List.forall_mem_cons.mpr ⟨⟨0, by decide, by decide, by decide, vl_27⟩, List.forall_mem_cons.mpr ⟨⟨1, by decide, by decide, by decide, vl_13⟩, fun _ h => absurd h List.not_mem_nil⟩⟩) rfl (by decide) vl_15 vcast_2 (lv_astore b1 b2 dL_group_25 hl (Nat.le_of_ble_eq_true rfl) rfl (fun ls' _ => wr_hret B ⟨f, rfl, fun v h => by cases h⟩ hP1 hS1 (by decide) dL_group_27 dL_group_28)))
    | n + 3, hi => simp at hi
theorem cw_groupTold {Ω : Wd} (l : Launch) (hO : OkW Ω) (hX : LX Ω) (hl0 : l.stackTraces = false) (hT : ThrOk Ω) (hN : NcX Ω) (t5 : Nat) {cL : ClassId} (ht : (wT Ω)[t5]? = some (cL, .long)) {out : Nat} (ho : ∀ i, i < wN Ω → wA Ω i ≠ out) (M : Mem) (p0 : Int32) (p1 : Int32) (p2 : Int32) (f : Nat → Int64) {rx : Nat ⊕ Int32} (hf : fX9_groupTold M p0 p1 p2 = some rx) {k : Int32} (hk : ResK [0, 1] rx k) : CtW l yL_groupTold (.codeWith yL_groupTold cL_groupTold 6 (some .int) [(0, 12, 15, 27), (0, 12, 19, 13)]) 10 208 Ω out [.ref (wA Ω 0), .int p0, .int p1, .int p2, .ref out] M (lc cL f) k M (EL cL rx) := by
  refine wr_of [(0, .ref (wA Ω 0)), (1, .int p0), (2, .int p1), (3, .int p2), (4, .ref out)] hO ho (by decide +kernel) rfl (Nat.le_of_ble_eq_true rfl) rfl (fun p e s m below meth c B ls hl => ?_)
  have b1 := B.1
  have b2 := B.2.1
  refine lv_aload b1 b2 dL_groupTold_0 (lv_at hl 4 rfl) ?_
  refine lv_iconst (v := 0) b1 b2 dL_groupTold_2 (by decide) ?_
  refine lv_aload_n b1 b2 dL_groupTold_3 rfl (lv_at hl 0 rfl) ?_
  refine lv_iload_n b1 b2 dL_groupTold_4 rfl (lv_at hl 1 rfl) ?_
  refine lv_iload_n b1 b2 dL_groupTold_5 rfl (lv_at hl 2 rfl) ?_
  refine lv_iload_n b1 b2 dL_groupTold_6 rfl (lv_at hl 3 rfl) ?_
  have hC := c_X9_groupTold l hO hX hl0 hT M p0 p1 p2 _ hf
  cases rx with
  | inr v =>
    have hk0 : k = 0 := hk
    subst hk0
    exact wr_callR (v := some (.int v)) (M' := M) (As := [.int p0, .int p1, .int p2]) (st := [.int 0, .ref out]) B hC hX dL_groupTold_7 ⟨vk_groupTold, vi_groupTold, vs_groupTold, vn_X9, vc_groupTold⟩ rfl vy_groupTold ⟨(Nat.le_of_ble_eq_true rfl), (Nat.le_of_ble_eq_true rfl)⟩ (Nat.le_of_ble_eq_true rfl) rfl hl (fun H1 locs1 hP1 hS1 => wr_ret B rfl t5 ht (fun g hg => ⟨g, rfl, fun v' h => by cases h; exact hg⟩) hP1 hS1 23 (by decide) dL_groupTold_10 dL_groupTold_11 dL_groupTold_12 dL_groupTold_23 dL_groupTold_24)
  | inl e0 =>
    obtain ⟨i, hi, rfl⟩ := hk
    match i, hi with
    | 0, hi =>
      cases hi
      exact wr_callX (M' := M) (As := [.int p0, .int p1, .int p2]) (st := [.int 0, .ref out]) B hC hX dL_groupTold_7 ⟨vk_groupTold, vi_groupTold, vs_groupTold, vn_X9, vc_groupTold⟩ rfl vy_groupTold ⟨(Nat.le_of_ble_eq_true rfl), (Nat.le_of_ble_eq_true rfl)⟩ (Nat.le_of_ble_eq_true rfl) rfl hl (fun H1 locs1 q ce hP1 hS1 hce hcv hcl => wr_catch B hN (k := 0) (by decide) _ ⟨f, rfl, fun v h => by cases h⟩ hP1 hS1 hce hcv hcl [] ⟨0, 12, 15, 27⟩ [⟨0, 12, 19, 13⟩] rfl (fun _ h => absurd h List.not_mem_nil) rfl (by decide) vl_27 vcast_0 (lv_astore b1 b2 dL_groupTold_15 hl (Nat.le_of_ble_eq_true rfl) rfl (fun ls' _ => wr_hret B ⟨f, rfl, fun v h => by cases h⟩ hP1 hS1 (by decide) dL_groupTold_17 dL_groupTold_18)))
    | 1, hi =>
      cases hi
      exact wr_callX (M' := M) (As := [.int p0, .int p1, .int p2]) (st := [.int 0, .ref out]) B hC hX dL_groupTold_7 ⟨vk_groupTold, vi_groupTold, vs_groupTold, vn_X9, vc_groupTold⟩ rfl vy_groupTold ⟨(Nat.le_of_ble_eq_true rfl), (Nat.le_of_ble_eq_true rfl)⟩ (Nat.le_of_ble_eq_true rfl) rfl hl (fun H1 locs1 q ce hP1 hS1 hce hcv hcl => wr_catch B hN (k := 1) (by decide) _ ⟨f, rfl, fun v h => by cases h⟩ hP1 hS1 hce hcv hcl [⟨0, 12, 15, 27⟩] ⟨0, 12, 19, 13⟩ [] rfl (List.forall_mem_cons.mpr ⟨⟨0, by decide, by decide, by decide, vl_27⟩, fun _ h => absurd h List.not_mem_nil⟩) rfl (by decide) vl_13 vcast_1 (lv_astore b1 b2 dL_groupTold_19 hl (Nat.le_of_ble_eq_true rfl) rfl (fun ls' _ => wr_hret B ⟨f, rfl, fun v h => by cases h⟩ hP1 hS1 (by decide) dL_groupTold_21 dL_groupTold_22)))
    | n + 2, hi => simp at hi
theorem cw_conflict {Ω : Wd} (l : Launch) (hO : OkW Ω) (hX : LX Ω) (hl0 : l.stackTraces = false) (hT : ThrOk Ω) (hN : NcX Ω) (t5 : Nat) {cL : ClassId} (ht : (wT Ω)[t5]? = some (cL, .long)) {out : Nat} (ho : ∀ i, i < wN Ω → wA Ω i ≠ out) (M : Mem) (p0 : Int32) (p1 : Int32) (p2 : Int32) (p3 : Int32) (p4 : Int32) (f : Nat → Int64) {rx : Nat ⊕ Int32} {M' : Mem} (hf : fX9_conflict M p0 p1 p2 p3 p4 = some (rx, M')) {k : Int32} (hk : ResK [0, 1, 2, 3] rx k) : CtW l yL_conflict (.codeWith yL_conflict cL_conflict 8 (some .int) [(0, 16, 19, 27), (0, 16, 23, 13), (0, 16, 27, 15), (0, 16, 31, 47)]) 10 210 Ω out [.ref (wA Ω 0), .int p0, .int p1, .int p2, .int p3, .int p4, .ref out] M (lc cL f) k M' (EL cL rx) := by
  refine wr_of [(0, .ref (wA Ω 0)), (1, .int p0), (2, .int p1), (3, .int p2), (4, .int p3), (5, .int p4), (6, .ref out)] hO ho (by decide +kernel) rfl (Nat.le_of_ble_eq_true rfl) rfl (fun p e s m below meth c B ls hl => ?_)
  have b1 := B.1
  have b2 := B.2.1
  refine lv_aload b1 b2 dL_conflict_0 (lv_at hl 6 rfl) ?_
  refine lv_iconst (v := 0) b1 b2 dL_conflict_2 (by decide) ?_
  refine lv_aload_n b1 b2 dL_conflict_3 rfl (lv_at hl 0 rfl) ?_
  refine lv_iload_n b1 b2 dL_conflict_4 rfl (lv_at hl 1 rfl) ?_
  refine lv_iload_n b1 b2 dL_conflict_5 rfl (lv_at hl 2 rfl) ?_
  refine lv_iload_n b1 b2 dL_conflict_6 rfl (lv_at hl 3 rfl) ?_
  refine lv_iload b1 b2 dL_conflict_7 (lv_at hl 4 rfl) ?_
  refine lv_iload b1 b2 dL_conflict_9 (lv_at hl 5 rfl) ?_
  have hC := c_X9_conflict l hO hX hl0 hT M p0 p1 p2 p3 p4 _ hf
  cases rx with
  | inr v =>
    have hk0 : k = 0 := hk
    subst hk0
    exact wr_callR (v := some (.int v)) (M' := M') (As := [.int p0, .int p1, .int p2, .int p3, .int p4]) (st := [.int 0, .ref out]) B hC hX dL_conflict_11 ⟨vk_conflict, vi_conflict, vs_conflict, vn_X9, vc_conflict⟩ rfl vy_conflict ⟨(Nat.le_of_ble_eq_true rfl), (Nat.le_of_ble_eq_true rfl)⟩ (Nat.le_of_ble_eq_true rfl) rfl hl (fun H1 locs1 hP1 hS1 => wr_ret B rfl t5 ht (fun g hg => ⟨g, rfl, fun v' h => by cases h; exact hg⟩) hP1 hS1 35 (by decide) dL_conflict_14 dL_conflict_15 dL_conflict_16 dL_conflict_35 dL_conflict_36)
  | inl e0 =>
    obtain ⟨i, hi, rfl⟩ := hk
    match i, hi with
    | 0, hi =>
      cases hi
      exact wr_callX (M' := M') (As := [.int p0, .int p1, .int p2, .int p3, .int p4]) (st := [.int 0, .ref out]) B hC hX dL_conflict_11 ⟨vk_conflict, vi_conflict, vs_conflict, vn_X9, vc_conflict⟩ rfl vy_conflict ⟨(Nat.le_of_ble_eq_true rfl), (Nat.le_of_ble_eq_true rfl)⟩ (Nat.le_of_ble_eq_true rfl) rfl hl (fun H1 locs1 q ce hP1 hS1 hce hcv hcl => wr_catch B hN (k := 0) (by decide) _ ⟨f, rfl, fun v h => by cases h⟩ hP1 hS1 hce hcv hcl [] ⟨0, 16, 19, 27⟩ [⟨0, 16, 23, 13⟩, ⟨0, 16, 27, 15⟩, ⟨0, 16, 31, 47⟩] rfl (fun _ h => absurd h List.not_mem_nil) rfl (by decide) vl_27 vcast_0 (lv_astore b1 b2 dL_conflict_19 hl (Nat.le_of_ble_eq_true rfl) rfl (fun ls' _ => wr_hret B ⟨f, rfl, fun v h => by cases h⟩ hP1 hS1 (by decide) dL_conflict_21 dL_conflict_22)))
    | 1, hi =>
      cases hi
      exact wr_callX (M' := M') (As := [.int p0, .int p1, .int p2, .int p3, .int p4]) (st := [.int 0, .ref out]) B hC hX dL_conflict_11 ⟨vk_conflict, vi_conflict, vs_conflict, vn_X9, vc_conflict⟩ rfl vy_conflict ⟨(Nat.le_of_ble_eq_true rfl), (Nat.le_of_ble_eq_true rfl)⟩ (Nat.le_of_ble_eq_true rfl) rfl hl (fun H1 locs1 q ce hP1 hS1 hce hcv hcl => wr_catch B hN (k := 1) (by decide) _ ⟨f, rfl, fun v h => by cases h⟩ hP1 hS1 hce hcv hcl [⟨0, 16, 19, 27⟩] ⟨0, 16, 23, 13⟩ [⟨0, 16, 27, 15⟩, ⟨0, 16, 31, 47⟩] rfl (List.forall_mem_cons.mpr ⟨⟨0, by decide, by decide, by decide, vl_27⟩, fun _ h => absurd h List.not_mem_nil⟩) rfl (by decide) vl_13 vcast_1 (lv_astore b1 b2 dL_conflict_23 hl (Nat.le_of_ble_eq_true rfl) rfl (fun ls' _ => wr_hret B ⟨f, rfl, fun v h => by cases h⟩ hP1 hS1 (by decide) dL_conflict_25 dL_conflict_26)))
    | 2, hi =>
      cases hi
      exact wr_callX (M' := M') (As := [.int p0, .int p1, .int p2, .int p3, .int p4]) (st := [.int 0, .ref out]) B hC hX dL_conflict_11 ⟨vk_conflict, vi_conflict, vs_conflict, vn_X9, vc_conflict⟩ rfl vy_conflict ⟨(Nat.le_of_ble_eq_true rfl), (Nat.le_of_ble_eq_true rfl)⟩ (Nat.le_of_ble_eq_true rfl) rfl hl (fun H1 locs1 q ce hP1 hS1 hce hcv hcl => wr_catch B hN (k := 2) (by decide) _ ⟨f, rfl, fun v h => by cases h⟩ hP1 hS1 hce hcv hcl [⟨0, 16, 19, 27⟩, ⟨0, 16, 23, 13⟩] ⟨0, 16, 27, 15⟩ [⟨0, 16, 31, 47⟩] rfl (List.forall_mem_cons.mpr ⟨⟨0, by decide, by decide, by decide, vl_27⟩, List.forall_mem_cons.mpr ⟨⟨1, by decide, by decide, by decide, vl_13⟩, fun _ h => absurd h List.not_mem_nil⟩⟩) rfl (by decide) vl_15 vcast_2 (lv_astore b1 b2 dL_conflict_27 hl (Nat.le_of_ble_eq_true rfl) rfl (fun ls' _ => wr_hret B ⟨f, rfl, fun v h => by cases h⟩ hP1 hS1 (by decide) dL_conflict_29 dL_conflict_30)))
    | 3, hi =>
      cases hi
      exact wr_callX (M' := M') (As := [.int p0, .int p1, .int p2, .int p3, .int p4]) (st := [.int 0, .ref out]) B hC hX dL_conflict_11 ⟨vk_conflict, vi_conflict, vs_conflict, vn_X9, vc_conflict⟩ rfl vy_conflict ⟨(Nat.le_of_ble_eq_true rfl), (Nat.le_of_ble_eq_true rfl)⟩ (Nat.le_of_ble_eq_true rfl) rfl hl (fun H1 locs1 q ce hP1 hS1 hce hcv hcl => wr_catch B hN (k := 3) (by decide) _ ⟨f, rfl, fun v h => by cases h⟩ hP1 hS1 hce hcv hcl [⟨0, 16, 19, 27⟩, ⟨0, 16, 23, 13⟩, ⟨0, 16, 27, 15⟩] ⟨0, 16, 31, 47⟩ [] rfl (List.forall_mem_cons.mpr ⟨⟨0, by decide, by decide, by decide, vl_27⟩, List.forall_mem_cons.mpr ⟨⟨1, by decide, by decide, by decide, vl_13⟩, List.forall_mem_cons.mpr ⟨⟨2, by decide, by decide, by decide, vl_15⟩, fun _ h => absurd h List.not_mem_nil⟩⟩⟩) rfl (by decide) vl_47 vcast_3 (lv_astore b1 b2 dL_conflict_31 hl (Nat.le_of_ble_eq_true rfl) rfl (fun ls' _ => wr_hret B ⟨f, rfl, fun v h => by cases h⟩ hP1 hS1 (by decide) dL_conflict_33 dL_conflict_34)))
    | n + 4, hi => simp at hi
theorem cw_peace {Ω : Wd} (l : Launch) (hO : OkW Ω) (hX : LX Ω) (hl0 : l.stackTraces = false) (hT : ThrOk Ω) (hN : NcX Ω) (t5 : Nat) {cL : ClassId} (ht : (wT Ω)[t5]? = some (cL, .long)) {out : Nat} (ho : ∀ i, i < wN Ω → wA Ω i ≠ out) (M : Mem) (p0 : Int32) (p1 : Int32) (p2 : Int32) (f : Nat → Int64) {rx : Nat ⊕ Int32} {M' : Mem} (hf : fX9_peace M p0 p1 p2 = some (rx, M')) {k : Int32} (hk : ResK [0, 4] rx k) : CtW l yL_peace (.codeWith yL_peace cL_peace 6 (some .int) [(0, 12, 15, 27), (0, 12, 19, 52)]) 10 209 Ω out [.ref (wA Ω 0), .int p0, .int p1, .int p2, .ref out] M (lc cL f) k M' (EL cL rx) := by
  refine wr_of [(0, .ref (wA Ω 0)), (1, .int p0), (2, .int p1), (3, .int p2), (4, .ref out)] hO ho (by decide +kernel) rfl (Nat.le_of_ble_eq_true rfl) rfl (fun p e s m below meth c B ls hl => ?_)
  have b1 := B.1
  have b2 := B.2.1
  refine lv_aload b1 b2 dL_peace_0 (lv_at hl 4 rfl) ?_
  refine lv_iconst (v := 0) b1 b2 dL_peace_2 (by decide) ?_
  refine lv_aload_n b1 b2 dL_peace_3 rfl (lv_at hl 0 rfl) ?_
  refine lv_iload_n b1 b2 dL_peace_4 rfl (lv_at hl 1 rfl) ?_
  refine lv_iload_n b1 b2 dL_peace_5 rfl (lv_at hl 2 rfl) ?_
  refine lv_iload_n b1 b2 dL_peace_6 rfl (lv_at hl 3 rfl) ?_
  have hC := c_X9_peace l hO hX hl0 hT M p0 p1 p2 _ hf
  cases rx with
  | inr v =>
    have hk0 : k = 0 := hk
    subst hk0
    exact wr_callR (v := some (.int v)) (M' := M') (As := [.int p0, .int p1, .int p2]) (st := [.int 0, .ref out]) B hC hX dL_peace_7 ⟨vk_peace, vi_peace, vs_peace, vn_X9, vc_peace⟩ rfl vy_peace ⟨(Nat.le_of_ble_eq_true rfl), (Nat.le_of_ble_eq_true rfl)⟩ (Nat.le_of_ble_eq_true rfl) rfl hl (fun H1 locs1 hP1 hS1 => wr_ret B rfl t5 ht (fun g hg => ⟨g, rfl, fun v' h => by cases h; exact hg⟩) hP1 hS1 23 (by decide) dL_peace_10 dL_peace_11 dL_peace_12 dL_peace_23 dL_peace_24)
  | inl e0 =>
    obtain ⟨i, hi, rfl⟩ := hk
    match i, hi with
    | 0, hi =>
      cases hi
      exact wr_callX (M' := M') (As := [.int p0, .int p1, .int p2]) (st := [.int 0, .ref out]) B hC hX dL_peace_7 ⟨vk_peace, vi_peace, vs_peace, vn_X9, vc_peace⟩ rfl vy_peace ⟨(Nat.le_of_ble_eq_true rfl), (Nat.le_of_ble_eq_true rfl)⟩ (Nat.le_of_ble_eq_true rfl) rfl hl (fun H1 locs1 q ce hP1 hS1 hce hcv hcl => wr_catch B hN (k := 0) (by decide) _ ⟨f, rfl, fun v h => by cases h⟩ hP1 hS1 hce hcv hcl [] ⟨0, 12, 15, 27⟩ [⟨0, 12, 19, 52⟩] rfl (fun _ h => absurd h List.not_mem_nil) rfl (by decide) vl_27 vcast_0 (lv_astore b1 b2 dL_peace_15 hl (Nat.le_of_ble_eq_true rfl) rfl (fun ls' _ => wr_hret B ⟨f, rfl, fun v h => by cases h⟩ hP1 hS1 (by decide) dL_peace_17 dL_peace_18)))
    | 1, hi =>
      cases hi
      exact wr_callX (M' := M') (As := [.int p0, .int p1, .int p2]) (st := [.int 0, .ref out]) B hC hX dL_peace_7 ⟨vk_peace, vi_peace, vs_peace, vn_X9, vc_peace⟩ rfl vy_peace ⟨(Nat.le_of_ble_eq_true rfl), (Nat.le_of_ble_eq_true rfl)⟩ (Nat.le_of_ble_eq_true rfl) rfl hl (fun H1 locs1 q ce hP1 hS1 hce hcv hcl => wr_catch B hN (k := 4) (by decide) _ ⟨f, rfl, fun v h => by cases h⟩ hP1 hS1 hce hcv hcl [⟨0, 12, 15, 27⟩] ⟨0, 12, 19, 52⟩ [] rfl (List.forall_mem_cons.mpr ⟨⟨0, by decide, by decide, by decide, vl_27⟩, fun _ h => absurd h List.not_mem_nil⟩) rfl (by decide) vl_52 vcast_4 (lv_astore b1 b2 dL_peace_19 hl (Nat.le_of_ble_eq_true rfl) rfl (fun ls' _ => wr_hret B ⟨f, rfl, fun v h => by cases h⟩ hP1 hS1 (by decide) dL_peace_21 dL_peace_22)))
    | n + 2, hi => simp at hi
theorem cw_clearance {Ω : Wd} (l : Launch) (hO : OkW Ω) (hX : LX Ω) (hl0 : l.stackTraces = false) (hT : ThrOk Ω) (hN : NcX Ω) (t5 : Nat) {cL : ClassId} (ht : (wT Ω)[t5]? = some (cL, .long)) {out : Nat} (ho : ∀ i, i < wN Ω → wA Ω i ≠ out) (M : Mem) (p0 : Int32) (p1 : Int32) (p2 : Int32) (f : Nat → Int64) {rx : Nat ⊕ Int32} (hf : fX9_clearance M p0 p1 p2 = some rx) {k : Int32} (hk : ResK [0] rx k) : CtW l yL_clearance (.codeWith yL_clearance cL_clearance 6 (some .int) [(0, 12, 15, 27)]) 10 208 Ω out [.ref (wA Ω 0), .int p0, .int p1, .int p2, .ref out] M (lc cL f) k M (EL cL rx) := by
  refine wr_of [(0, .ref (wA Ω 0)), (1, .int p0), (2, .int p1), (3, .int p2), (4, .ref out)] hO ho (by decide +kernel) rfl (Nat.le_of_ble_eq_true rfl) rfl (fun p e s m below meth c B ls hl => ?_)
  have b1 := B.1
  have b2 := B.2.1
  refine lv_aload b1 b2 dL_clearance_0 (lv_at hl 4 rfl) ?_
  refine lv_iconst (v := 0) b1 b2 dL_clearance_2 (by decide) ?_
  refine lv_aload_n b1 b2 dL_clearance_3 rfl (lv_at hl 0 rfl) ?_
  refine lv_iload_n b1 b2 dL_clearance_4 rfl (lv_at hl 1 rfl) ?_
  refine lv_iload_n b1 b2 dL_clearance_5 rfl (lv_at hl 2 rfl) ?_
  refine lv_iload_n b1 b2 dL_clearance_6 rfl (lv_at hl 3 rfl) ?_
  have hC := c_X9_clearance l hO hX hl0 hT M p0 p1 p2 _ hf
  cases rx with
  | inr v =>
    have hk0 : k = 0 := hk
    subst hk0
    exact wr_callR (v := some (.int v)) (M' := M) (As := [.int p0, .int p1, .int p2]) (st := [.int 0, .ref out]) B hC hX dL_clearance_7 ⟨vk_clearance, vi_clearance, vs_clearance, vn_X9, vc_clearance⟩ rfl vy_clearance ⟨(Nat.le_of_ble_eq_true rfl), (Nat.le_of_ble_eq_true rfl)⟩ (Nat.le_of_ble_eq_true rfl) rfl hl (fun H1 locs1 hP1 hS1 => wr_ret B rfl t5 ht (fun g hg => ⟨g, rfl, fun v' h => by cases h; exact hg⟩) hP1 hS1 19 (by decide) dL_clearance_10 dL_clearance_11 dL_clearance_12 dL_clearance_19 dL_clearance_20)
  | inl e0 =>
    obtain ⟨i, hi, rfl⟩ := hk
    match i, hi with
    | 0, hi =>
      cases hi
      exact wr_callX (M' := M) (As := [.int p0, .int p1, .int p2]) (st := [.int 0, .ref out]) B hC hX dL_clearance_7 ⟨vk_clearance, vi_clearance, vs_clearance, vn_X9, vc_clearance⟩ rfl vy_clearance ⟨(Nat.le_of_ble_eq_true rfl), (Nat.le_of_ble_eq_true rfl)⟩ (Nat.le_of_ble_eq_true rfl) rfl hl (fun H1 locs1 q ce hP1 hS1 hce hcv hcl => wr_catch B hN (k := 0) (by decide) _ ⟨f, rfl, fun v h => by cases h⟩ hP1 hS1 hce hcv hcl [] ⟨0, 12, 15, 27⟩ [] rfl (fun _ h => absurd h List.not_mem_nil) rfl (by decide) vl_27 vcast_0 (lv_astore b1 b2 dL_clearance_15 hl (Nat.le_of_ble_eq_true rfl) rfl (fun ls' _ => wr_hret B ⟨f, rfl, fun v h => by cases h⟩ hP1 hS1 (by decide) dL_clearance_17 dL_clearance_18)))
    | n + 1, hi => simp at hi
theorem cw_green {Ω : Wd} (l : Launch) (hO : OkW Ω) (hX : LX Ω) (hl0 : l.stackTraces = false) (hT : ThrOk Ω) (hN : NcX Ω) (t5 : Nat) {cL : ClassId} (ht : (wT Ω)[t5]? = some (cL, .long)) {out : Nat} (ho : ∀ i, i < wN Ω → wA Ω i ≠ out) (M : Mem) (p0 : Int32) (p1 : Int32) (p2 : Int32) (p3 : Int32) (p4 : Int32) (f : Nat → Int64) {rx : Nat ⊕ Int32} {M' : Mem} (hf : fX9_green M p0 p1 p2 p3 p4 = some (rx, M')) {k : Int32} (hk : ResK [0, 1, 2, 3] rx k) : CtW l yL_green (.codeWith yL_green cL_green 8 (some .int) [(0, 16, 19, 27), (0, 16, 23, 13), (0, 16, 27, 15), (0, 16, 31, 47)]) 9 193 Ω out [.ref (wA Ω 0), .int p0, .int p1, .int p2, .int p3, .int p4, .ref out] M (lc cL f) k M' (EL cL rx) := by
  refine wr_of [(0, .ref (wA Ω 0)), (1, .int p0), (2, .int p1), (3, .int p2), (4, .int p3), (5, .int p4), (6, .ref out)] hO ho (by decide +kernel) rfl (Nat.le_of_ble_eq_true rfl) rfl (fun p e s m below meth c B ls hl => ?_)
  have b1 := B.1
  have b2 := B.2.1
  refine lv_aload b1 b2 dL_green_0 (lv_at hl 6 rfl) ?_
  refine lv_iconst (v := 0) b1 b2 dL_green_2 (by decide) ?_
  refine lv_aload_n b1 b2 dL_green_3 rfl (lv_at hl 0 rfl) ?_
  refine lv_iload_n b1 b2 dL_green_4 rfl (lv_at hl 1 rfl) ?_
  refine lv_iload_n b1 b2 dL_green_5 rfl (lv_at hl 2 rfl) ?_
  refine lv_iload_n b1 b2 dL_green_6 rfl (lv_at hl 3 rfl) ?_
  refine lv_iload b1 b2 dL_green_7 (lv_at hl 4 rfl) ?_
  refine lv_iload b1 b2 dL_green_9 (lv_at hl 5 rfl) ?_
  have hC := c_X9_green l hO hX hl0 hT M p0 p1 p2 p3 p4 _ hf
  cases rx with
  | inr v =>
    have hk0 : k = 0 := hk
    subst hk0
    exact wr_callR (v := some (.int v)) (M' := M') (As := [.int p0, .int p1, .int p2, .int p3, .int p4]) (st := [.int 0, .ref out]) B hC hX dL_green_11 ⟨vk_green, vi_green, vs_green, vn_X9, vc_green⟩ rfl vy_green ⟨(Nat.le_of_ble_eq_true rfl), (Nat.le_of_ble_eq_true rfl)⟩ (Nat.le_of_ble_eq_true rfl) rfl hl (fun H1 locs1 hP1 hS1 => wr_ret B rfl t5 ht (fun g hg => ⟨g, rfl, fun v' h => by cases h; exact hg⟩) hP1 hS1 35 (by decide) dL_green_14 dL_green_15 dL_green_16 dL_green_35 dL_green_36)
  | inl e0 =>
    obtain ⟨i, hi, rfl⟩ := hk
    match i, hi with
    | 0, hi =>
      cases hi
      exact wr_callX (M' := M') (As := [.int p0, .int p1, .int p2, .int p3, .int p4]) (st := [.int 0, .ref out]) B hC hX dL_green_11 ⟨vk_green, vi_green, vs_green, vn_X9, vc_green⟩ rfl vy_green ⟨(Nat.le_of_ble_eq_true rfl), (Nat.le_of_ble_eq_true rfl)⟩ (Nat.le_of_ble_eq_true rfl) rfl hl (fun H1 locs1 q ce hP1 hS1 hce hcv hcl => wr_catch B hN (k := 0) (by decide) _ ⟨f, rfl, fun v h => by cases h⟩ hP1 hS1 hce hcv hcl [] ⟨0, 16, 19, 27⟩ [⟨0, 16, 23, 13⟩, ⟨0, 16, 27, 15⟩, ⟨0, 16, 31, 47⟩] rfl (fun _ h => absurd h List.not_mem_nil) rfl (by decide) vl_27 vcast_0 (lv_astore b1 b2 dL_green_19 hl (Nat.le_of_ble_eq_true rfl) rfl (fun ls' _ => wr_hret B ⟨f, rfl, fun v h => by cases h⟩ hP1 hS1 (by decide) dL_green_21 dL_green_22)))
    | 1, hi =>
      cases hi
      exact wr_callX (M' := M') (As := [.int p0, .int p1, .int p2, .int p3, .int p4]) (st := [.int 0, .ref out]) B hC hX dL_green_11 ⟨vk_green, vi_green, vs_green, vn_X9, vc_green⟩ rfl vy_green ⟨(Nat.le_of_ble_eq_true rfl), (Nat.le_of_ble_eq_true rfl)⟩ (Nat.le_of_ble_eq_true rfl) rfl hl (fun H1 locs1 q ce hP1 hS1 hce hcv hcl => wr_catch B hN (k := 1) (by decide) _ ⟨f, rfl, fun v h => by cases h⟩ hP1 hS1 hce hcv hcl [⟨0, 16, 19, 27⟩] ⟨0, 16, 23, 13⟩ [⟨0, 16, 27, 15⟩, ⟨0, 16, 31, 47⟩] rfl (List.forall_mem_cons.mpr ⟨⟨0, by decide, by decide, by decide, vl_27⟩, fun _ h => absurd h List.not_mem_nil⟩) rfl (by decide) vl_13 vcast_1 (lv_astore b1 b2 dL_green_23 hl (Nat.le_of_ble_eq_true rfl) rfl (fun ls' _ => wr_hret B ⟨f, rfl, fun v h => by cases h⟩ hP1 hS1 (by decide) dL_green_25 dL_green_26)))
    | 2, hi =>
      cases hi
      exact wr_callX (M' := M') (As := [.int p0, .int p1, .int p2, .int p3, .int p4]) (st := [.int 0, .ref out]) B hC hX dL_green_11 ⟨vk_green, vi_green, vs_green, vn_X9, vc_green⟩ rfl vy_green ⟨(Nat.le_of_ble_eq_true rfl), (Nat.le_of_ble_eq_true rfl)⟩ (Nat.le_of_ble_eq_true rfl) rfl hl (fun H1 locs1 q ce hP1 hS1 hce hcv hcl => wr_catch B hN (k := 2) (by decide) _ ⟨f, rfl, fun v h => by cases h⟩ hP1 hS1 hce hcv hcl [⟨0, 16, 19, 27⟩, ⟨0, 16, 23, 13⟩] ⟨0, 16, 27, 15⟩ [⟨0, 16, 31, 47⟩] rfl (List.forall_mem_cons.mpr ⟨⟨0, by decide, by decide, by decide, vl_27⟩, List.forall_mem_cons.mpr ⟨⟨1, by decide, by decide, by decide, vl_13⟩, fun _ h => absurd h List.not_mem_nil⟩⟩) rfl (by decide) vl_15 vcast_2 (lv_astore b1 b2 dL_green_27 hl (Nat.le_of_ble_eq_true rfl) rfl (fun ls' _ => wr_hret B ⟨f, rfl, fun v h => by cases h⟩ hP1 hS1 (by decide) dL_green_29 dL_green_30)))
    | 3, hi =>
      cases hi
      exact wr_callX (M' := M') (As := [.int p0, .int p1, .int p2, .int p3, .int p4]) (st := [.int 0, .ref out]) B hC hX dL_green_11 ⟨vk_green, vi_green, vs_green, vn_X9, vc_green⟩ rfl vy_green ⟨(Nat.le_of_ble_eq_true rfl), (Nat.le_of_ble_eq_true rfl)⟩ (Nat.le_of_ble_eq_true rfl) rfl hl (fun H1 locs1 q ce hP1 hS1 hce hcv hcl => wr_catch B hN (k := 3) (by decide) _ ⟨f, rfl, fun v h => by cases h⟩ hP1 hS1 hce hcv hcl [⟨0, 16, 19, 27⟩, ⟨0, 16, 23, 13⟩, ⟨0, 16, 27, 15⟩] ⟨0, 16, 31, 47⟩ [] rfl (List.forall_mem_cons.mpr ⟨⟨0, by decide, by decide, by decide, vl_27⟩, List.forall_mem_cons.mpr ⟨⟨1, by decide, by decide, by decide, vl_13⟩, List.forall_mem_cons.mpr ⟨⟨2, by decide, by decide, by decide, vl_15⟩, fun _ h => absurd h List.not_mem_nil⟩⟩⟩) rfl (by decide) vl_47 vcast_3 (lv_astore b1 b2 dL_green_31 hl (Nat.le_of_ble_eq_true rfl) rfl (fun ls' _ => wr_hret B ⟨f, rfl, fun v h => by cases h⟩ hP1 hS1 (by decide) dL_green_33 dL_green_34)))
    | n + 4, hi => simp at hi
theorem cw_hinders {Ω : Wd} (l : Launch) (hO : OkW Ω) (hX : LX Ω) (hl0 : l.stackTraces = false) (hT : ThrOk Ω) (hN : NcX Ω) (t5 : Nat) {cL : ClassId} (ht : (wT Ω)[t5]? = some (cL, .long)) {out : Nat} (ho : ∀ i, i < wN Ω → wA Ω i ≠ out) (M : Mem) (p0 : Int32) (p1 : Int32) (p2 : Int32) (p3 : Int32) (p4 : Int32) (f : Nat → Int64) {rx : Nat ⊕ Int32} (hf : fX9_hinders M p0 p1 p2 p3 p4 = some rx) {k : Int32} (hk : ResK [0, 1] rx k) : CtW l yL_hinders (.codeWith yL_hinders cL_hinders 8 (some .int) [(0, 16, 19, 27), (0, 16, 23, 13)]) 10 210 Ω out [.ref (wA Ω 0), .int p0, .int p1, .int p2, .int p3, .int p4, .ref out] M (lc cL f) k M (EL cL rx) := by
  refine wr_of [(0, .ref (wA Ω 0)), (1, .int p0), (2, .int p1), (3, .int p2), (4, .int p3), (5, .int p4), (6, .ref out)] hO ho (by decide +kernel) rfl (Nat.le_of_ble_eq_true rfl) rfl (fun p e s m below meth c B ls hl => ?_)
  have b1 := B.1
  have b2 := B.2.1
  refine lv_aload b1 b2 dL_hinders_0 (lv_at hl 6 rfl) ?_
  refine lv_iconst (v := 0) b1 b2 dL_hinders_2 (by decide) ?_
  refine lv_aload_n b1 b2 dL_hinders_3 rfl (lv_at hl 0 rfl) ?_
  refine lv_iload_n b1 b2 dL_hinders_4 rfl (lv_at hl 1 rfl) ?_
  refine lv_iload_n b1 b2 dL_hinders_5 rfl (lv_at hl 2 rfl) ?_
  refine lv_iload_n b1 b2 dL_hinders_6 rfl (lv_at hl 3 rfl) ?_
  refine lv_iload b1 b2 dL_hinders_7 (lv_at hl 4 rfl) ?_
  refine lv_iload b1 b2 dL_hinders_9 (lv_at hl 5 rfl) ?_
  have hC := c_X9_hinders l hO hX hl0 hT M p0 p1 p2 p3 p4 _ hf
  cases rx with
  | inr v =>
    have hk0 : k = 0 := hk
    subst hk0
    exact wr_callR (v := some (.int v)) (M' := M) (As := [.int p0, .int p1, .int p2, .int p3, .int p4]) (st := [.int 0, .ref out]) B hC hX dL_hinders_11 ⟨vk_hinders, vi_hinders, vs_hinders, vn_X9, vc_hinders⟩ rfl vy_hinders ⟨(Nat.le_of_ble_eq_true rfl), (Nat.le_of_ble_eq_true rfl)⟩ (Nat.le_of_ble_eq_true rfl) rfl hl (fun H1 locs1 hP1 hS1 => wr_ret B rfl t5 ht (fun g hg => ⟨g, rfl, fun v' h => by cases h; exact hg⟩) hP1 hS1 27 (by decide) dL_hinders_14 dL_hinders_15 dL_hinders_16 dL_hinders_27 dL_hinders_28)
  | inl e0 =>
    obtain ⟨i, hi, rfl⟩ := hk
    match i, hi with
    | 0, hi =>
      cases hi
      exact wr_callX (M' := M) (As := [.int p0, .int p1, .int p2, .int p3, .int p4]) (st := [.int 0, .ref out]) B hC hX dL_hinders_11 ⟨vk_hinders, vi_hinders, vs_hinders, vn_X9, vc_hinders⟩ rfl vy_hinders ⟨(Nat.le_of_ble_eq_true rfl), (Nat.le_of_ble_eq_true rfl)⟩ (Nat.le_of_ble_eq_true rfl) rfl hl (fun H1 locs1 q ce hP1 hS1 hce hcv hcl => wr_catch B hN (k := 0) (by decide) _ ⟨f, rfl, fun v h => by cases h⟩ hP1 hS1 hce hcv hcl [] ⟨0, 16, 19, 27⟩ [⟨0, 16, 23, 13⟩] rfl (fun _ h => absurd h List.not_mem_nil) rfl (by decide) vl_27 vcast_0 (lv_astore b1 b2 dL_hinders_19 hl (Nat.le_of_ble_eq_true rfl) rfl (fun ls' _ => wr_hret B ⟨f, rfl, fun v h => by cases h⟩ hP1 hS1 (by decide) dL_hinders_21 dL_hinders_22)))
    | 1, hi =>
      cases hi
      exact wr_callX (M' := M) (As := [.int p0, .int p1, .int p2, .int p3, .int p4]) (st := [.int 0, .ref out]) B hC hX dL_hinders_11 ⟨vk_hinders, vi_hinders, vs_hinders, vn_X9, vc_hinders⟩ rfl vy_hinders ⟨(Nat.le_of_ble_eq_true rfl), (Nat.le_of_ble_eq_true rfl)⟩ (Nat.le_of_ble_eq_true rfl) rfl hl (fun H1 locs1 q ce hP1 hS1 hce hcv hcl => wr_catch B hN (k := 1) (by decide) _ ⟨f, rfl, fun v h => by cases h⟩ hP1 hS1 hce hcv hcl [⟨0, 16, 19, 27⟩] ⟨0, 16, 23, 13⟩ [] rfl (List.forall_mem_cons.mpr ⟨⟨0, by decide, by decide, by decide, vl_27⟩, fun _ h => absurd h List.not_mem_nil⟩) rfl (by decide) vl_13 vcast_1 (lv_astore b1 b2 dL_hinders_23 hl (Nat.le_of_ble_eq_true rfl) rfl (fun ls' _ => wr_hret B ⟨f, rfl, fun v h => by cases h⟩ hP1 hS1 (by decide) dL_hinders_25 dL_hinders_26)))
    | n + 2, hi => simp at hi
theorem cw_dark {Ω : Wd} (l : Launch) (hO : OkW Ω) (hX : LX Ω) (hl0 : l.stackTraces = false) (hT : ThrOk Ω) (hN : NcX Ω) (t5 : Nat) {cL : ClassId} (ht : (wT Ω)[t5]? = some (cL, .long)) {out : Nat} (ho : ∀ i, i < wN Ω → wA Ω i ≠ out) (M : Mem) (p0 : Int32) (p1 : Int32) (p2 : Int32) (f : Nat → Int64) {rx : Nat ⊕ Int32} {M' : Mem} (hf : fX9_dark M p0 p1 p2 = some (rx, M')) {k : Int32} (hk : ResK [0, 2] rx k) : CtW l yL_dark (.codeWith yL_dark cL_dark 6 (some .int) [(0, 12, 15, 27), (0, 12, 19, 15)]) 10 209 Ω out [.ref (wA Ω 0), .int p0, .int p1, .int p2, .ref out] M (lc cL f) k M' (EL cL rx) := by
  refine wr_of [(0, .ref (wA Ω 0)), (1, .int p0), (2, .int p1), (3, .int p2), (4, .ref out)] hO ho (by decide +kernel) rfl (Nat.le_of_ble_eq_true rfl) rfl (fun p e s m below meth c B ls hl => ?_)
  have b1 := B.1
  have b2 := B.2.1
  refine lv_aload b1 b2 dL_dark_0 (lv_at hl 4 rfl) ?_
  refine lv_iconst (v := 0) b1 b2 dL_dark_2 (by decide) ?_
  refine lv_aload_n b1 b2 dL_dark_3 rfl (lv_at hl 0 rfl) ?_
  refine lv_iload_n b1 b2 dL_dark_4 rfl (lv_at hl 1 rfl) ?_
  refine lv_iload_n b1 b2 dL_dark_5 rfl (lv_at hl 2 rfl) ?_
  refine lv_iload_n b1 b2 dL_dark_6 rfl (lv_at hl 3 rfl) ?_
  have hC := c_X9_dark l hO hX hl0 hT M p0 p1 p2 _ hf
  cases rx with
  | inr v =>
    have hk0 : k = 0 := hk
    subst hk0
    exact wr_callR (v := some (.int v)) (M' := M') (As := [.int p0, .int p1, .int p2]) (st := [.int 0, .ref out]) B hC hX dL_dark_7 ⟨vk_dark, vi_dark, vs_dark, vn_X9, vc_dark⟩ rfl vy_dark ⟨(Nat.le_of_ble_eq_true rfl), (Nat.le_of_ble_eq_true rfl)⟩ (Nat.le_of_ble_eq_true rfl) rfl hl (fun H1 locs1 hP1 hS1 => wr_ret B rfl t5 ht (fun g hg => ⟨g, rfl, fun v' h => by cases h; exact hg⟩) hP1 hS1 23 (by decide) dL_dark_10 dL_dark_11 dL_dark_12 dL_dark_23 dL_dark_24)
  | inl e0 =>
    obtain ⟨i, hi, rfl⟩ := hk
    match i, hi with
    | 0, hi =>
      cases hi
      exact wr_callX (M' := M') (As := [.int p0, .int p1, .int p2]) (st := [.int 0, .ref out]) B hC hX dL_dark_7 ⟨vk_dark, vi_dark, vs_dark, vn_X9, vc_dark⟩ rfl vy_dark ⟨(Nat.le_of_ble_eq_true rfl), (Nat.le_of_ble_eq_true rfl)⟩ (Nat.le_of_ble_eq_true rfl) rfl hl (fun H1 locs1 q ce hP1 hS1 hce hcv hcl => wr_catch B hN (k := 0) (by decide) _ ⟨f, rfl, fun v h => by cases h⟩ hP1 hS1 hce hcv hcl [] ⟨0, 12, 15, 27⟩ [⟨0, 12, 19, 15⟩] rfl (fun _ h => absurd h List.not_mem_nil) rfl (by decide) vl_27 vcast_0 (lv_astore b1 b2 dL_dark_15 hl (Nat.le_of_ble_eq_true rfl) rfl (fun ls' _ => wr_hret B ⟨f, rfl, fun v h => by cases h⟩ hP1 hS1 (by decide) dL_dark_17 dL_dark_18)))
    | 1, hi =>
      cases hi
      exact wr_callX (M' := M') (As := [.int p0, .int p1, .int p2]) (st := [.int 0, .ref out]) B hC hX dL_dark_7 ⟨vk_dark, vi_dark, vs_dark, vn_X9, vc_dark⟩ rfl vy_dark ⟨(Nat.le_of_ble_eq_true rfl), (Nat.le_of_ble_eq_true rfl)⟩ (Nat.le_of_ble_eq_true rfl) rfl hl (fun H1 locs1 q ce hP1 hS1 hce hcv hcl => wr_catch B hN (k := 2) (by decide) _ ⟨f, rfl, fun v h => by cases h⟩ hP1 hS1 hce hcv hcl [⟨0, 12, 15, 27⟩] ⟨0, 12, 19, 15⟩ [] rfl (List.forall_mem_cons.mpr ⟨⟨0, by decide, by decide, by decide, vl_27⟩, fun _ h => absurd h List.not_mem_nil⟩) rfl (by decide) vl_15 vcast_2 (lv_astore b1 b2 dL_dark_19 hl (Nat.le_of_ble_eq_true rfl) rfl (fun ls' _ => wr_hret B ⟨f, rfl, fun v h => by cases h⟩ hP1 hS1 (by decide) dL_dark_21 dL_dark_22)))
    | n + 2, hi => simp at hi
theorem cw_make {Ω : Wd} (l : Launch) (hO : OkW Ω) (hX : LX Ω) (hl0 : l.stackTraces = false) (hT : ThrOk Ω) (hN : NcX Ω) (t5 : Nat) {cL : ClassId} (ht : (wT Ω)[t5]? = some (cL, .long)) {out : Nat} (ho : ∀ i, i < wN Ω → wA Ω i ≠ out) (M : Mem) (p0 : Int32) (p1 : Int32) (f : Nat → Int64) {rx : Nat ⊕ Int32} {M' : Mem} (hf : fX9_make M p0 p1 = some (rx, M')) {k : Int32} (hk : ResK [0, 2, 3] rx k) : CtW l yL_make (.codeWith yL_make cL_make 5 (some .int) [(0, 10, 13, 27), (0, 10, 17, 15), (0, 10, 21, 47)]) 15 370 Ω out [.ref (wA Ω 0), .int p0, .int p1, .ref out] M (lc cL f) k M' (EL cL rx) := by
  refine wr_of [(0, .ref (wA Ω 0)), (1, .int p0), (2, .int p1), (3, .ref out)] hO ho (by decide +kernel) rfl (Nat.le_of_ble_eq_true rfl) rfl (fun p e s m below meth c B ls hl => ?_)
  have b1 := B.1
  have b2 := B.2.1
  refine lv_aload_n b1 b2 dL_make_0 rfl (lv_at hl 3 rfl) ?_
  refine lv_iconst (v := 0) b1 b2 dL_make_1 (by decide) ?_
  refine lv_aload_n b1 b2 dL_make_2 rfl (lv_at hl 0 rfl) ?_
  refine lv_iload_n b1 b2 dL_make_3 rfl (lv_at hl 1 rfl) ?_
  refine lv_iload_n b1 b2 dL_make_4 rfl (lv_at hl 2 rfl) ?_
  have hC := c_X9_make l hO hX hl0 hT M p0 p1 _ hf
  cases rx with
  | inr v =>
    have hk0 : k = 0 := hk
    subst hk0
    exact wr_callR (v := some (.int v)) (M' := M') (As := [.int p0, .int p1]) (st := [.int 0, .ref out]) B hC hX dL_make_5 ⟨vk_make, vi_make, vs_make, vn_X9, vc_make⟩ rfl vy_make ⟨(Nat.le_of_ble_eq_true rfl), (Nat.le_of_ble_eq_true rfl)⟩ (Nat.le_of_ble_eq_true rfl) rfl hl (fun H1 locs1 hP1 hS1 => wr_ret B rfl t5 ht (fun g hg => ⟨g, rfl, fun v' h => by cases h; exact hg⟩) hP1 hS1 25 (by decide) dL_make_8 dL_make_9 dL_make_10 dL_make_25 dL_make_26)
  | inl e0 =>
    obtain ⟨i, hi, rfl⟩ := hk
    match i, hi with
    | 0, hi =>
      cases hi
      exact wr_callX (M' := M') (As := [.int p0, .int p1]) (st := [.int 0, .ref out]) B hC hX dL_make_5 ⟨vk_make, vi_make, vs_make, vn_X9, vc_make⟩ rfl vy_make ⟨(Nat.le_of_ble_eq_true rfl), (Nat.le_of_ble_eq_true rfl)⟩ (Nat.le_of_ble_eq_true rfl) rfl hl (fun H1 locs1 q ce hP1 hS1 hce hcv hcl => wr_catch B hN (k := 0) (by decide) _ ⟨f, rfl, fun v h => by cases h⟩ hP1 hS1 hce hcv hcl [] ⟨0, 10, 13, 27⟩ [⟨0, 10, 17, 15⟩, ⟨0, 10, 21, 47⟩] rfl (fun _ h => absurd h List.not_mem_nil) rfl (by decide) vl_27 vcast_0 (lv_astore b1 b2 dL_make_13 hl (Nat.le_of_ble_eq_true rfl) rfl (fun ls' _ => wr_hret B ⟨f, rfl, fun v h => by cases h⟩ hP1 hS1 (by decide) dL_make_15 dL_make_16)))
    | 1, hi =>
      cases hi
      exact wr_callX (M' := M') (As := [.int p0, .int p1]) (st := [.int 0, .ref out]) B hC hX dL_make_5 ⟨vk_make, vi_make, vs_make, vn_X9, vc_make⟩ rfl vy_make ⟨(Nat.le_of_ble_eq_true rfl), (Nat.le_of_ble_eq_true rfl)⟩ (Nat.le_of_ble_eq_true rfl) rfl hl (fun H1 locs1 q ce hP1 hS1 hce hcv hcl => wr_catch B hN (k := 2) (by decide) _ ⟨f, rfl, fun v h => by cases h⟩ hP1 hS1 hce hcv hcl [⟨0, 10, 13, 27⟩] ⟨0, 10, 17, 15⟩ [⟨0, 10, 21, 47⟩] rfl (List.forall_mem_cons.mpr ⟨⟨0, by decide, by decide, by decide, vl_27⟩, fun _ h => absurd h List.not_mem_nil⟩) rfl (by decide) vl_15 vcast_2 (lv_astore b1 b2 dL_make_17 hl (Nat.le_of_ble_eq_true rfl) rfl (fun ls' _ => wr_hret B ⟨f, rfl, fun v h => by cases h⟩ hP1 hS1 (by decide) dL_make_19 dL_make_20)))
    | 2, hi =>
      cases hi
      exact wr_callX (M' := M') (As := [.int p0, .int p1]) (st := [.int 0, .ref out]) B hC hX dL_make_5 ⟨vk_make, vi_make, vs_make, vn_X9, vc_make⟩ rfl vy_make ⟨(Nat.le_of_ble_eq_true rfl), (Nat.le_of_ble_eq_true rfl)⟩ (Nat.le_of_ble_eq_true rfl) rfl hl (fun H1 locs1 q ce hP1 hS1 hce hcv hcl => wr_catch B hN (k := 3) (by decide) _ ⟨f, rfl, fun v h => by cases h⟩ hP1 hS1 hce hcv hcl [⟨0, 10, 13, 27⟩, ⟨0, 10, 17, 15⟩] ⟨0, 10, 21, 47⟩ [] rfl (List.forall_mem_cons.mpr ⟨⟨0, by decide, by decide, by decide, vl_27⟩, List.forall_mem_cons.mpr ⟨⟨2, by decide, by decide, by decide, vl_15⟩, fun _ h => absurd h List.not_mem_nil⟩⟩) rfl (by decide) vl_47 vcast_3 (lv_astore b1 b2 dL_make_21 hl (Nat.le_of_ble_eq_true rfl) rfl (fun ls' _ => wr_hret B ⟨f, rfl, fun v h => by cases h⟩ hP1 hS1 (by decide) dL_make_23 dL_make_24)))
    | n + 3, hi => simp at hi
theorem cw_phase {Ω : Wd} (l : Launch) (hO : OkW Ω) (hX : LX Ω) (hl0 : l.stackTraces = false) (hT : ThrOk Ω) (hN : NcX Ω) (t5 : Nat) {cL : ClassId} (ht : (wT Ω)[t5]? = some (cL, .long)) {out : Nat} (ho : ∀ i, i < wN Ω → wA Ω i ≠ out) (M : Mem) (p0 : Int32) (p1 : Int32) (f : Nat → Int64) {rx : Nat ⊕ Int32} {M' : Mem} (hf : fX9_phase M p0 p1 = some (rx, M')) {k : Int32} (hk : ResK [0] rx k) : CtW l yL_phase (.codeWith yL_phase cL_phase 5 (some .int) [(0, 10, 13, 27)]) 14 346 Ω out [.ref (wA Ω 0), .int p0, .int p1, .ref out] M (lc cL f) k M' (EL cL rx) := by
  refine wr_of [(0, .ref (wA Ω 0)), (1, .int p0), (2, .int p1), (3, .ref out)] hO ho (by decide +kernel) rfl (Nat.le_of_ble_eq_true rfl) rfl (fun p e s m below meth c B ls hl => ?_)
  have b1 := B.1
  have b2 := B.2.1
  refine lv_aload_n b1 b2 dL_phase_0 rfl (lv_at hl 3 rfl) ?_
  refine lv_iconst (v := 0) b1 b2 dL_phase_1 (by decide) ?_
  refine lv_aload_n b1 b2 dL_phase_2 rfl (lv_at hl 0 rfl) ?_
  refine lv_iload_n b1 b2 dL_phase_3 rfl (lv_at hl 1 rfl) ?_
  refine lv_iload_n b1 b2 dL_phase_4 rfl (lv_at hl 2 rfl) ?_
  have hC := c_X9_phase l hO hX hl0 hT M p0 p1 _ hf
  cases rx with
  | inr v =>
    have hk0 : k = 0 := hk
    subst hk0
    exact wr_callR (v := some (.int v)) (M' := M') (As := [.int p0, .int p1]) (st := [.int 0, .ref out]) B hC hX dL_phase_5 ⟨vk_phase, vi_phase, vs_phase, vn_X9, vc_phase⟩ rfl vy_phase ⟨(Nat.le_of_ble_eq_true rfl), (Nat.le_of_ble_eq_true rfl)⟩ (Nat.le_of_ble_eq_true rfl) rfl hl (fun H1 locs1 hP1 hS1 => wr_ret B rfl t5 ht (fun g hg => ⟨g, rfl, fun v' h => by cases h; exact hg⟩) hP1 hS1 17 (by decide) dL_phase_8 dL_phase_9 dL_phase_10 dL_phase_17 dL_phase_18)
  | inl e0 =>
    obtain ⟨i, hi, rfl⟩ := hk
    match i, hi with
    | 0, hi =>
      cases hi
      exact wr_callX (M' := M') (As := [.int p0, .int p1]) (st := [.int 0, .ref out]) B hC hX dL_phase_5 ⟨vk_phase, vi_phase, vs_phase, vn_X9, vc_phase⟩ rfl vy_phase ⟨(Nat.le_of_ble_eq_true rfl), (Nat.le_of_ble_eq_true rfl)⟩ (Nat.le_of_ble_eq_true rfl) rfl hl (fun H1 locs1 q ce hP1 hS1 hce hcv hcl => wr_catch B hN (k := 0) (by decide) _ ⟨f, rfl, fun v h => by cases h⟩ hP1 hS1 hce hcv hcl [] ⟨0, 10, 13, 27⟩ [] rfl (fun _ h => absurd h List.not_mem_nil) rfl (by decide) vl_27 vcast_0 (lv_astore b1 b2 dL_phase_13 hl (Nat.le_of_ble_eq_true rfl) rfl (fun ls' _ => wr_hret B ⟨f, rfl, fun v h => by cases h⟩ hP1 hS1 (by decide) dL_phase_15 dL_phase_16)))
    | n + 1, hi => simp at hi
theorem cw_greenOf {Ω : Wd} (l : Launch) (hO : OkW Ω) (hX : LX Ω) (hl0 : l.stackTraces = false) (hT : ThrOk Ω) (hN : NcX Ω) (t5 : Nat) {cL : ClassId} (ht : (wT Ω)[t5]? = some (cL, .long)) {out : Nat} (ho : ∀ i, i < wN Ω → wA Ω i ≠ out) (M : Mem) (p0 : Int32) (p1 : Int32) (p2 : Int32) (p3 : Int32) (f : Nat → Int64) {rx : Nat ⊕ Int32} (hf : fX9_greenOf M p0 p1 p2 p3 = some rx) {k : Int32} (hk : ResK [0, 4] rx k) : CtW l yL_greenOf (.codeWith yL_greenOf cL_greenOf 7 (some .int) [(0, 14, 17, 27), (0, 14, 21, 52)]) 10 209 Ω out [.ref (wA Ω 0), .int p0, .int p1, .int p2, .int p3, .ref out] M (lc cL f) k M (EL cL rx) := by
  refine wr_of [(0, .ref (wA Ω 0)), (1, .int p0), (2, .int p1), (3, .int p2), (4, .int p3), (5, .ref out)] hO ho (by decide +kernel) rfl (Nat.le_of_ble_eq_true rfl) rfl (fun p e s m below meth c B ls hl => ?_)
  have b1 := B.1
  have b2 := B.2.1
  refine lv_aload b1 b2 dL_greenOf_0 (lv_at hl 5 rfl) ?_
  refine lv_iconst (v := 0) b1 b2 dL_greenOf_2 (by decide) ?_
  refine lv_aload_n b1 b2 dL_greenOf_3 rfl (lv_at hl 0 rfl) ?_
  refine lv_iload_n b1 b2 dL_greenOf_4 rfl (lv_at hl 1 rfl) ?_
  refine lv_iload_n b1 b2 dL_greenOf_5 rfl (lv_at hl 2 rfl) ?_
  refine lv_iload_n b1 b2 dL_greenOf_6 rfl (lv_at hl 3 rfl) ?_
  refine lv_iload b1 b2 dL_greenOf_7 (lv_at hl 4 rfl) ?_
  have hC := c_X9_greenOf l hO hX hl0 hT M p0 p1 p2 p3 _ hf
  cases rx with
  | inr v =>
    have hk0 : k = 0 := hk
    subst hk0
    exact wr_callR (v := some (.int v)) (M' := M) (As := [.int p0, .int p1, .int p2, .int p3]) (st := [.int 0, .ref out]) B hC hX dL_greenOf_9 ⟨vk_greenOf, vi_greenOf, vs_greenOf, vn_X9, vc_greenOf⟩ rfl vy_greenOf ⟨(Nat.le_of_ble_eq_true rfl), (Nat.le_of_ble_eq_true rfl)⟩ (Nat.le_of_ble_eq_true rfl) rfl hl (fun H1 locs1 hP1 hS1 => wr_ret B rfl t5 ht (fun g hg => ⟨g, rfl, fun v' h => by cases h; exact hg⟩) hP1 hS1 25 (by decide) dL_greenOf_12 dL_greenOf_13 dL_greenOf_14 dL_greenOf_25 dL_greenOf_26)
  | inl e0 =>
    obtain ⟨i, hi, rfl⟩ := hk
    match i, hi with
    | 0, hi =>
      cases hi
      exact wr_callX (M' := M) (As := [.int p0, .int p1, .int p2, .int p3]) (st := [.int 0, .ref out]) B hC hX dL_greenOf_9 ⟨vk_greenOf, vi_greenOf, vs_greenOf, vn_X9, vc_greenOf⟩ rfl vy_greenOf ⟨(Nat.le_of_ble_eq_true rfl), (Nat.le_of_ble_eq_true rfl)⟩ (Nat.le_of_ble_eq_true rfl) rfl hl (fun H1 locs1 q ce hP1 hS1 hce hcv hcl => wr_catch B hN (k := 0) (by decide) _ ⟨f, rfl, fun v h => by cases h⟩ hP1 hS1 hce hcv hcl [] ⟨0, 14, 17, 27⟩ [⟨0, 14, 21, 52⟩] rfl (fun _ h => absurd h List.not_mem_nil) rfl (by decide) vl_27 vcast_0 (lv_astore b1 b2 dL_greenOf_17 hl (Nat.le_of_ble_eq_true rfl) rfl (fun ls' _ => wr_hret B ⟨f, rfl, fun v h => by cases h⟩ hP1 hS1 (by decide) dL_greenOf_19 dL_greenOf_20)))
    | 1, hi =>
      cases hi
      exact wr_callX (M' := M) (As := [.int p0, .int p1, .int p2, .int p3]) (st := [.int 0, .ref out]) B hC hX dL_greenOf_9 ⟨vk_greenOf, vi_greenOf, vs_greenOf, vn_X9, vc_greenOf⟩ rfl vy_greenOf ⟨(Nat.le_of_ble_eq_true rfl), (Nat.le_of_ble_eq_true rfl)⟩ (Nat.le_of_ble_eq_true rfl) rfl hl (fun H1 locs1 q ce hP1 hS1 hce hcv hcl => wr_catch B hN (k := 4) (by decide) _ ⟨f, rfl, fun v h => by cases h⟩ hP1 hS1 hce hcv hcl [⟨0, 14, 17, 27⟩] ⟨0, 14, 21, 52⟩ [] rfl (List.forall_mem_cons.mpr ⟨⟨0, by decide, by decide, by decide, vl_27⟩, fun _ h => absurd h List.not_mem_nil⟩) rfl (by decide) vl_52 vcast_4 (lv_astore b1 b2 dL_greenOf_21 hl (Nat.le_of_ble_eq_true rfl) rfl (fun ls' _ => wr_hret B ⟨f, rfl, fun v h => by cases h⟩ hP1 hS1 (by decide) dL_greenOf_23 dL_greenOf_24)))
    | n + 2, hi => simp at hi
theorem cw_shows {Ω : Wd} (l : Launch) (hO : OkW Ω) (hX : LX Ω) (hl0 : l.stackTraces = false) (hT : ThrOk Ω) (hN : NcX Ω) (t5 : Nat) {cL : ClassId} (ht : (wT Ω)[t5]? = some (cL, .long)) {out : Nat} (ho : ∀ i, i < wN Ω → wA Ω i ≠ out) (M : Mem) (p0 : Int32) (p1 : Int32) (p2 : Int32) (f : Nat → Int64) {rx : Nat ⊕ Int32} (hf : fX9_shows M p0 p1 p2 = some rx) {k : Int32} (hk : ResK [0, 1] rx k) : CtW l yL_shows (.codeWith yL_shows cL_shows 6 (some .int) [(0, 12, 15, 27), (0, 12, 19, 13)]) 9 185 Ω out [.ref (wA Ω 0), .int p0, .int p1, .int p2, .ref out] M (lc cL f) k M (EL cL rx) := by
  refine wr_of [(0, .ref (wA Ω 0)), (1, .int p0), (2, .int p1), (3, .int p2), (4, .ref out)] hO ho (by decide +kernel) rfl (Nat.le_of_ble_eq_true rfl) rfl (fun p e s m below meth c B ls hl => ?_)
  have b1 := B.1
  have b2 := B.2.1
  refine lv_aload b1 b2 dL_shows_0 (lv_at hl 4 rfl) ?_
  refine lv_iconst (v := 0) b1 b2 dL_shows_2 (by decide) ?_
  refine lv_aload_n b1 b2 dL_shows_3 rfl (lv_at hl 0 rfl) ?_
  refine lv_iload_n b1 b2 dL_shows_4 rfl (lv_at hl 1 rfl) ?_
  refine lv_iload_n b1 b2 dL_shows_5 rfl (lv_at hl 2 rfl) ?_
  refine lv_iload_n b1 b2 dL_shows_6 rfl (lv_at hl 3 rfl) ?_
  have hC := c_X9_shows l hO hX hl0 hT M p0 p1 p2 _ hf
  cases rx with
  | inr v =>
    have hk0 : k = 0 := hk
    subst hk0
    exact wr_callR (v := some (.int v)) (M' := M) (As := [.int p0, .int p1, .int p2]) (st := [.int 0, .ref out]) B hC hX dL_shows_7 ⟨vk_shows, vi_shows, vs_shows, vn_X9, vc_shows⟩ rfl vy_shows ⟨(Nat.le_of_ble_eq_true rfl), (Nat.le_of_ble_eq_true rfl)⟩ (Nat.le_of_ble_eq_true rfl) rfl hl (fun H1 locs1 hP1 hS1 => wr_ret B rfl t5 ht (fun g hg => ⟨g, rfl, fun v' h => by cases h; exact hg⟩) hP1 hS1 23 (by decide) dL_shows_10 dL_shows_11 dL_shows_12 dL_shows_23 dL_shows_24)
  | inl e0 =>
    obtain ⟨i, hi, rfl⟩ := hk
    match i, hi with
    | 0, hi =>
      cases hi
      exact wr_callX (M' := M) (As := [.int p0, .int p1, .int p2]) (st := [.int 0, .ref out]) B hC hX dL_shows_7 ⟨vk_shows, vi_shows, vs_shows, vn_X9, vc_shows⟩ rfl vy_shows ⟨(Nat.le_of_ble_eq_true rfl), (Nat.le_of_ble_eq_true rfl)⟩ (Nat.le_of_ble_eq_true rfl) rfl hl (fun H1 locs1 q ce hP1 hS1 hce hcv hcl => wr_catch B hN (k := 0) (by decide) _ ⟨f, rfl, fun v h => by cases h⟩ hP1 hS1 hce hcv hcl [] ⟨0, 12, 15, 27⟩ [⟨0, 12, 19, 13⟩] rfl (fun _ h => absurd h List.not_mem_nil) rfl (by decide) vl_27 vcast_0 (lv_astore b1 b2 dL_shows_15 hl (Nat.le_of_ble_eq_true rfl) rfl (fun ls' _ => wr_hret B ⟨f, rfl, fun v h => by cases h⟩ hP1 hS1 (by decide) dL_shows_17 dL_shows_18)))
    | 1, hi =>
      cases hi
      exact wr_callX (M' := M) (As := [.int p0, .int p1, .int p2]) (st := [.int 0, .ref out]) B hC hX dL_shows_7 ⟨vk_shows, vi_shows, vs_shows, vn_X9, vc_shows⟩ rfl vy_shows ⟨(Nat.le_of_ble_eq_true rfl), (Nat.le_of_ble_eq_true rfl)⟩ (Nat.le_of_ble_eq_true rfl) rfl hl (fun H1 locs1 q ce hP1 hS1 hce hcv hcl => wr_catch B hN (k := 1) (by decide) _ ⟨f, rfl, fun v h => by cases h⟩ hP1 hS1 hce hcv hcl [⟨0, 12, 15, 27⟩] ⟨0, 12, 19, 13⟩ [] rfl (List.forall_mem_cons.mpr ⟨⟨0, by decide, by decide, by decide, vl_27⟩, fun _ h => absurd h List.not_mem_nil⟩) rfl (by decide) vl_13 vcast_1 (lv_astore b1 b2 dL_shows_19 hl (Nat.le_of_ble_eq_true rfl) rfl (fun ls' _ => wr_hret B ⟨f, rfl, fun v h => by cases h⟩ hP1 hS1 (by decide) dL_shows_21 dL_shows_22)))
    | n + 2, hi => simp at hi
theorem cw_picture {Ω : Wd} (l : Launch) (hO : OkW Ω) (hX : LX Ω) (hl0 : l.stackTraces = false) (hT : ThrOk Ω) (hN : NcX Ω) (t5 : Nat) {cL : ClassId} (ht : (wT Ω)[t5]? = some (cL, .long)) {out : Nat} (ho : ∀ i, i < wN Ω → wA Ω i ≠ out) (M : Mem) (p0 : Int32) (p1 : Int32) (p2 : Int32) (f : Nat → Int64) {rx : Nat ⊕ Int32} (hf : fX9_picture M p0 p1 p2 = some rx) {k : Int32} (hk : ResK [0, 4] rx k) : CtW l yL_picture (.codeWith yL_picture cL_picture 6 (some .int) [(0, 12, 15, 27), (0, 12, 19, 52)]) 9 186 Ω out [.ref (wA Ω 0), .int p0, .int p1, .int p2, .ref out] M (lc cL f) k M (EL cL rx) := by
  refine wr_of [(0, .ref (wA Ω 0)), (1, .int p0), (2, .int p1), (3, .int p2), (4, .ref out)] hO ho (by decide +kernel) rfl (Nat.le_of_ble_eq_true rfl) rfl (fun p e s m below meth c B ls hl => ?_)
  have b1 := B.1
  have b2 := B.2.1
  refine lv_aload b1 b2 dL_picture_0 (lv_at hl 4 rfl) ?_
  refine lv_iconst (v := 0) b1 b2 dL_picture_2 (by decide) ?_
  refine lv_aload_n b1 b2 dL_picture_3 rfl (lv_at hl 0 rfl) ?_
  refine lv_iload_n b1 b2 dL_picture_4 rfl (lv_at hl 1 rfl) ?_
  refine lv_iload_n b1 b2 dL_picture_5 rfl (lv_at hl 2 rfl) ?_
  refine lv_iload_n b1 b2 dL_picture_6 rfl (lv_at hl 3 rfl) ?_
  have hC := c_X9_picture l hO hX hl0 hT M p0 p1 p2 _ hf
  cases rx with
  | inr v =>
    have hk0 : k = 0 := hk
    subst hk0
    exact wr_callR (v := some (.int v)) (M' := M) (As := [.int p0, .int p1, .int p2]) (st := [.int 0, .ref out]) B hC hX dL_picture_7 ⟨vk_picture, vi_picture, vs_picture, vn_X9, vc_picture⟩ rfl vy_picture ⟨(Nat.le_of_ble_eq_true rfl), (Nat.le_of_ble_eq_true rfl)⟩ (Nat.le_of_ble_eq_true rfl) rfl hl (fun H1 locs1 hP1 hS1 => wr_ret B rfl t5 ht (fun g hg => ⟨g, rfl, fun v' h => by cases h; exact hg⟩) hP1 hS1 23 (by decide) dL_picture_10 dL_picture_11 dL_picture_12 dL_picture_23 dL_picture_24)
  | inl e0 =>
    obtain ⟨i, hi, rfl⟩ := hk
    match i, hi with
    | 0, hi =>
      cases hi
      exact wr_callX (M' := M) (As := [.int p0, .int p1, .int p2]) (st := [.int 0, .ref out]) B hC hX dL_picture_7 ⟨vk_picture, vi_picture, vs_picture, vn_X9, vc_picture⟩ rfl vy_picture ⟨(Nat.le_of_ble_eq_true rfl), (Nat.le_of_ble_eq_true rfl)⟩ (Nat.le_of_ble_eq_true rfl) rfl hl (fun H1 locs1 q ce hP1 hS1 hce hcv hcl => wr_catch B hN (k := 0) (by decide) _ ⟨f, rfl, fun v h => by cases h⟩ hP1 hS1 hce hcv hcl [] ⟨0, 12, 15, 27⟩ [⟨0, 12, 19, 52⟩] rfl (fun _ h => absurd h List.not_mem_nil) rfl (by decide) vl_27 vcast_0 (lv_astore b1 b2 dL_picture_15 hl (Nat.le_of_ble_eq_true rfl) rfl (fun ls' _ => wr_hret B ⟨f, rfl, fun v h => by cases h⟩ hP1 hS1 (by decide) dL_picture_17 dL_picture_18)))
    | 1, hi =>
      cases hi
      exact wr_callX (M' := M) (As := [.int p0, .int p1, .int p2]) (st := [.int 0, .ref out]) B hC hX dL_picture_7 ⟨vk_picture, vi_picture, vs_picture, vn_X9, vc_picture⟩ rfl vy_picture ⟨(Nat.le_of_ble_eq_true rfl), (Nat.le_of_ble_eq_true rfl)⟩ (Nat.le_of_ble_eq_true rfl) rfl hl (fun H1 locs1 q ce hP1 hS1 hce hcv hcl => wr_catch B hN (k := 4) (by decide) _ ⟨f, rfl, fun v h => by cases h⟩ hP1 hS1 hce hcv hcl [⟨0, 12, 15, 27⟩] ⟨0, 12, 19, 52⟩ [] rfl (List.forall_mem_cons.mpr ⟨⟨0, by decide, by decide, by decide, vl_27⟩, fun _ h => absurd h List.not_mem_nil⟩) rfl (by decide) vl_52 vcast_4 (lv_astore b1 b2 dL_picture_19 hl (Nat.le_of_ble_eq_true rfl) rfl (fun ls' _ => wr_hret B ⟨f, rfl, fun v h => by cases h⟩ hP1 hS1 (by decide) dL_picture_21 dL_picture_22)))
    | n + 2, hi => simp at hi
theorem cw_refusal {Ω : Wd} (l : Launch) (hO : OkW Ω) (hX : LX Ω) (hl0 : l.stackTraces = false) (hT : ThrOk Ω) (hN : NcX Ω) (t5 : Nat) {cL : ClassId} (ht : (wT Ω)[t5]? = some (cL, .long)) {out : Nat} (ho : ∀ i, i < wN Ω → wA Ω i ≠ out) (M : Mem)  (f : Nat → Int64) {rx : Nat ⊕ Int32} (hf : fX9_refusal M  = some rx) {k : Int32} (hk : ResK [4] rx k) : CtW l yL_refusal (.codeWith yL_refusal cL_refusal 3 (some .int) [(0, 8, 11, 52)]) 9 181 Ω out [.ref (wA Ω 0), .ref out] M (lc cL f) k M (EL cL rx) := by
  refine wr_of [(0, .ref (wA Ω 0)), (1, .ref out)] hO ho (by decide +kernel) rfl (Nat.le_of_ble_eq_true rfl) rfl (fun p e s m below meth c B ls hl => ?_)
  have b1 := B.1
  have b2 := B.2.1
  refine lv_aload_n b1 b2 dL_refusal_0 rfl (lv_at hl 1 rfl) ?_
  refine lv_iconst (v := 0) b1 b2 dL_refusal_1 (by decide) ?_
  refine lv_aload_n b1 b2 dL_refusal_2 rfl (lv_at hl 0 rfl) ?_
  have hC := c_X9_refusal l hO hX hl0 hT M  _ hf
  cases rx with
  | inr v =>
    have hk0 : k = 0 := hk
    subst hk0
    exact wr_callR (v := some (.int v)) (M' := M) (As := []) (st := [.int 0, .ref out]) B hC hX dL_refusal_3 ⟨vk_refusal, vi_refusal, vs_refusal, vn_X9, vc_refusal⟩ rfl vy_refusal ⟨(Nat.le_of_ble_eq_true rfl), (Nat.le_of_ble_eq_true rfl)⟩ (Nat.le_of_ble_eq_true rfl) rfl hl (fun H1 locs1 hP1 hS1 => wr_ret B rfl t5 ht (fun g hg => ⟨g, rfl, fun v' h => by cases h; exact hg⟩) hP1 hS1 14 (by decide) dL_refusal_6 dL_refusal_7 dL_refusal_8 dL_refusal_14 dL_refusal_15)
  | inl e0 =>
    obtain ⟨i, hi, rfl⟩ := hk
    match i, hi with
    | 0, hi =>
      cases hi
      exact wr_callX (M' := M) (As := []) (st := [.int 0, .ref out]) B hC hX dL_refusal_3 ⟨vk_refusal, vi_refusal, vs_refusal, vn_X9, vc_refusal⟩ rfl vy_refusal ⟨(Nat.le_of_ble_eq_true rfl), (Nat.le_of_ble_eq_true rfl)⟩ (Nat.le_of_ble_eq_true rfl) rfl hl (fun H1 locs1 q ce hP1 hS1 hce hcv hcl => wr_catch B hN (k := 4) (by decide) _ ⟨f, rfl, fun v h => by cases h⟩ hP1 hS1 hce hcv hcl [] ⟨0, 8, 11, 52⟩ [] rfl (fun _ h => absurd h List.not_mem_nil) rfl (by decide) vl_52 vcast_4 (lv_astore_n b1 b2 dL_refusal_11 rfl hl (Nat.le_of_ble_eq_true rfl) rfl (fun ls' _ => wr_hret B ⟨f, rfl, fun v h => by cases h⟩ hP1 hS1 (by decide) dL_refusal_12 dL_refusal_13)))
    | n + 1, hi => simp at hi
theorem cw_trip {Ω : Wd} (l : Launch) (hO : OkW Ω) (hX : LX Ω) (hl0 : l.stackTraces = false) (hT : ThrOk Ω) (hN : NcX Ω) (t5 : Nat) {cL : ClassId} (ht : (wT Ω)[t5]? = some (cL, .long)) {out : Nat} (ho : ∀ i, i < wN Ω → wA Ω i ≠ out) (M : Mem) (p0 : Int32) (p1 : Int32) (p2 : Int32) (f : Nat → Int64) {rx : Nat ⊕ Int32} (hf : fX9_trip M p0 p1 p2 = some rx) {k : Int32} (hk : ResK [1, 4] rx k) : CtW l yL_trip (.codeWith yL_trip cL_trip 6 (some .int) [(0, 12, 15, 13), (0, 12, 19, 52)]) 9 184 Ω out [.ref (wA Ω 0), .int p0, .int p1, .int p2, .ref out] M (lc cL f) k M (EL cL rx) := by
  refine wr_of [(0, .ref (wA Ω 0)), (1, .int p0), (2, .int p1), (3, .int p2), (4, .ref out)] hO ho (by decide +kernel) rfl (Nat.le_of_ble_eq_true rfl) rfl (fun p e s m below meth c B ls hl => ?_)
  have b1 := B.1
  have b2 := B.2.1
  refine lv_aload b1 b2 dL_trip_0 (lv_at hl 4 rfl) ?_
  refine lv_iconst (v := 0) b1 b2 dL_trip_2 (by decide) ?_
  refine lv_aload_n b1 b2 dL_trip_3 rfl (lv_at hl 0 rfl) ?_
  refine lv_iload_n b1 b2 dL_trip_4 rfl (lv_at hl 1 rfl) ?_
  refine lv_iload_n b1 b2 dL_trip_5 rfl (lv_at hl 2 rfl) ?_
  refine lv_iload_n b1 b2 dL_trip_6 rfl (lv_at hl 3 rfl) ?_
  have hC := c_X9_trip l hO hX hl0 hT M p0 p1 p2 _ hf
  cases rx with
  | inr v =>
    have hk0 : k = 0 := hk
    subst hk0
    exact wr_callR (v := some (.int v)) (M' := M) (As := [.int p0, .int p1, .int p2]) (st := [.int 0, .ref out]) B hC hX dL_trip_7 ⟨vk_trip, vi_trip, vs_trip, vn_X9, vc_trip⟩ rfl vy_trip ⟨(Nat.le_of_ble_eq_true rfl), (Nat.le_of_ble_eq_true rfl)⟩ (Nat.le_of_ble_eq_true rfl) rfl hl (fun H1 locs1 hP1 hS1 => wr_ret B rfl t5 ht (fun g hg => ⟨g, rfl, fun v' h => by cases h; exact hg⟩) hP1 hS1 23 (by decide) dL_trip_10 dL_trip_11 dL_trip_12 dL_trip_23 dL_trip_24)
  | inl e0 =>
    obtain ⟨i, hi, rfl⟩ := hk
    match i, hi with
    | 0, hi =>
      cases hi
      exact wr_callX (M' := M) (As := [.int p0, .int p1, .int p2]) (st := [.int 0, .ref out]) B hC hX dL_trip_7 ⟨vk_trip, vi_trip, vs_trip, vn_X9, vc_trip⟩ rfl vy_trip ⟨(Nat.le_of_ble_eq_true rfl), (Nat.le_of_ble_eq_true rfl)⟩ (Nat.le_of_ble_eq_true rfl) rfl hl (fun H1 locs1 q ce hP1 hS1 hce hcv hcl => wr_catch B hN (k := 1) (by decide) _ ⟨f, rfl, fun v h => by cases h⟩ hP1 hS1 hce hcv hcl [] ⟨0, 12, 15, 13⟩ [⟨0, 12, 19, 52⟩] rfl (fun _ h => absurd h List.not_mem_nil) rfl (by decide) vl_13 vcast_1 (lv_astore b1 b2 dL_trip_15 hl (Nat.le_of_ble_eq_true rfl) rfl (fun ls' _ => wr_hret B ⟨f, rfl, fun v h => by cases h⟩ hP1 hS1 (by decide) dL_trip_17 dL_trip_18)))
    | 1, hi =>
      cases hi
      exact wr_callX (M' := M) (As := [.int p0, .int p1, .int p2]) (st := [.int 0, .ref out]) B hC hX dL_trip_7 ⟨vk_trip, vi_trip, vs_trip, vn_X9, vc_trip⟩ rfl vy_trip ⟨(Nat.le_of_ble_eq_true rfl), (Nat.le_of_ble_eq_true rfl)⟩ (Nat.le_of_ble_eq_true rfl) rfl hl (fun H1 locs1 q ce hP1 hS1 hce hcv hcl => wr_catch B hN (k := 4) (by decide) _ ⟨f, rfl, fun v h => by cases h⟩ hP1 hS1 hce hcv hcl [⟨0, 12, 15, 13⟩] ⟨0, 12, 19, 52⟩ [] rfl (List.forall_mem_cons.mpr ⟨⟨1, by decide, by decide, by decide, vl_13⟩, fun _ h => absurd h List.not_mem_nil⟩) rfl (by decide) vl_52 vcast_4 (lv_astore b1 b2 dL_trip_19 hl (Nat.le_of_ble_eq_true rfl) rfl (fun ls' _ => wr_hret B ⟨f, rfl, fun v h => by cases h⟩ hP1 hS1 (by decide) dL_trip_21 dL_trip_22)))
    | n + 2, hi => simp at hi
theorem cw_tripAgain {Ω : Wd} (l : Launch) (hO : OkW Ω) (hX : LX Ω) (hl0 : l.stackTraces = false) (hT : ThrOk Ω) (hN : NcX Ω) (t5 : Nat) {cL : ClassId} (ht : (wT Ω)[t5]? = some (cL, .long)) {out : Nat} (ho : ∀ i, i < wN Ω → wA Ω i ≠ out) (M : Mem) (p0 : Int32) (p1 : Int32) (f : Nat → Int64) {rx : Nat ⊕ Int32} (hf : fX9_tripAgain M p0 p1 = some rx) {k : Int32} (hk : ResK [1, 4] rx k) : CtW l yL_tripAgain (.codeWith yL_tripAgain cL_tripAgain 5 (some .int) [(0, 10, 13, 13), (0, 10, 17, 52)]) 9 183 Ω out [.ref (wA Ω 0), .int p0, .int p1, .ref out] M (lc cL f) k M (EL cL rx) := by
  refine wr_of [(0, .ref (wA Ω 0)), (1, .int p0), (2, .int p1), (3, .ref out)] hO ho (by decide +kernel) rfl (Nat.le_of_ble_eq_true rfl) rfl (fun p e s m below meth c B ls hl => ?_)
  have b1 := B.1
  have b2 := B.2.1
  refine lv_aload_n b1 b2 dL_tripAgain_0 rfl (lv_at hl 3 rfl) ?_
  refine lv_iconst (v := 0) b1 b2 dL_tripAgain_1 (by decide) ?_
  refine lv_aload_n b1 b2 dL_tripAgain_2 rfl (lv_at hl 0 rfl) ?_
  refine lv_iload_n b1 b2 dL_tripAgain_3 rfl (lv_at hl 1 rfl) ?_
  refine lv_iload_n b1 b2 dL_tripAgain_4 rfl (lv_at hl 2 rfl) ?_
  have hC := c_X9_tripAgain l hO hX hl0 hT M p0 p1 _ hf
  cases rx with
  | inr v =>
    have hk0 : k = 0 := hk
    subst hk0
    exact wr_callR (v := some (.int v)) (M' := M) (As := [.int p0, .int p1]) (st := [.int 0, .ref out]) B hC hX dL_tripAgain_5 ⟨vk_tripAgain, vi_tripAgain, vs_tripAgain, vn_X9, vc_tripAgain⟩ rfl vy_tripAgain ⟨(Nat.le_of_ble_eq_true rfl), (Nat.le_of_ble_eq_true rfl)⟩ (Nat.le_of_ble_eq_true rfl) rfl hl (fun H1 locs1 hP1 hS1 => wr_ret B rfl t5 ht (fun g hg => ⟨g, rfl, fun v' h => by cases h; exact hg⟩) hP1 hS1 21 (by decide) dL_tripAgain_8 dL_tripAgain_9 dL_tripAgain_10 dL_tripAgain_21 dL_tripAgain_22)
  | inl e0 =>
    obtain ⟨i, hi, rfl⟩ := hk
    match i, hi with
    | 0, hi =>
      cases hi
      exact wr_callX (M' := M) (As := [.int p0, .int p1]) (st := [.int 0, .ref out]) B hC hX dL_tripAgain_5 ⟨vk_tripAgain, vi_tripAgain, vs_tripAgain, vn_X9, vc_tripAgain⟩ rfl vy_tripAgain ⟨(Nat.le_of_ble_eq_true rfl), (Nat.le_of_ble_eq_true rfl)⟩ (Nat.le_of_ble_eq_true rfl) rfl hl (fun H1 locs1 q ce hP1 hS1 hce hcv hcl => wr_catch B hN (k := 1) (by decide) _ ⟨f, rfl, fun v h => by cases h⟩ hP1 hS1 hce hcv hcl [] ⟨0, 10, 13, 13⟩ [⟨0, 10, 17, 52⟩] rfl (fun _ h => absurd h List.not_mem_nil) rfl (by decide) vl_13 vcast_1 (lv_astore b1 b2 dL_tripAgain_13 hl (Nat.le_of_ble_eq_true rfl) rfl (fun ls' _ => wr_hret B ⟨f, rfl, fun v h => by cases h⟩ hP1 hS1 (by decide) dL_tripAgain_15 dL_tripAgain_16)))
    | 1, hi =>
      cases hi
      exact wr_callX (M' := M) (As := [.int p0, .int p1]) (st := [.int 0, .ref out]) B hC hX dL_tripAgain_5 ⟨vk_tripAgain, vi_tripAgain, vs_tripAgain, vn_X9, vc_tripAgain⟩ rfl vy_tripAgain ⟨(Nat.le_of_ble_eq_true rfl), (Nat.le_of_ble_eq_true rfl)⟩ (Nat.le_of_ble_eq_true rfl) rfl hl (fun H1 locs1 q ce hP1 hS1 hce hcv hcl => wr_catch B hN (k := 4) (by decide) _ ⟨f, rfl, fun v h => by cases h⟩ hP1 hS1 hce hcv hcl [⟨0, 10, 13, 13⟩] ⟨0, 10, 17, 52⟩ [] rfl (List.forall_mem_cons.mpr ⟨⟨1, by decide, by decide, by decide, vl_13⟩, fun _ h => absurd h List.not_mem_nil⟩) rfl (by decide) vl_52 vcast_4 (lv_astore b1 b2 dL_tripAgain_17 hl (Nat.le_of_ble_eq_true rfl) rfl (fun ls' _ => wr_hret B ⟨f, rfl, fun v h => by cases h⟩ hP1 hS1 (by decide) dL_tripAgain_19 dL_tripAgain_20)))
    | n + 2, hi => simp at hi
theorem cw_band {Ω : Wd} (l : Launch) (hO : OkW Ω) (hX : LX Ω) (hl0 : l.stackTraces = false) (hT : ThrOk Ω) (hN : NcX Ω) (t5 : Nat) {cL : ClassId} (ht : (wT Ω)[t5]? = some (cL, .long)) {out : Nat} (ho : ∀ i, i < wN Ω → wA Ω i ≠ out) (M : Mem) (p0 : Int32) (f : Nat → Int64) {rx : Nat ⊕ Int32} (hf : fX9_band M p0 = some rx) {k : Int32} (hk : ResK [1, 4] rx k) : CtW l yL_band (.codeWith yL_band cL_band 4 (some .int) [(0, 9, 12, 13), (0, 9, 15, 52)]) 9 182 Ω out [.ref (wA Ω 0), .int p0, .ref out] M (lc cL f) k M (EL cL rx) := by
  refine wr_of [(0, .ref (wA Ω 0)), (1, .int p0), (2, .ref out)] hO ho (by decide +kernel) rfl (Nat.le_of_ble_eq_true rfl) rfl (fun p e s m below meth c B ls hl => ?_)
  have b1 := B.1
  have b2 := B.2.1
  refine lv_aload_n b1 b2 dL_band_0 rfl (lv_at hl 2 rfl) ?_
  refine lv_iconst (v := 0) b1 b2 dL_band_1 (by decide) ?_
  refine lv_aload_n b1 b2 dL_band_2 rfl (lv_at hl 0 rfl) ?_
  refine lv_iload_n b1 b2 dL_band_3 rfl (lv_at hl 1 rfl) ?_
  have hC := c_X9_band l hO hX hl0 hT M p0 _ hf
  cases rx with
  | inr v =>
    have hk0 : k = 0 := hk
    subst hk0
    exact wr_callR (v := some (.int v)) (M' := M) (As := [.int p0]) (st := [.int 0, .ref out]) B hC hX dL_band_4 ⟨vk_band, vi_band, vs_band, vn_X9, vc_band⟩ rfl vy_band ⟨(Nat.le_of_ble_eq_true rfl), (Nat.le_of_ble_eq_true rfl)⟩ (Nat.le_of_ble_eq_true rfl) rfl hl (fun H1 locs1 hP1 hS1 => wr_ret B rfl t5 ht (fun g hg => ⟨g, rfl, fun v' h => by cases h; exact hg⟩) hP1 hS1 18 (by decide) dL_band_7 dL_band_8 dL_band_9 dL_band_18 dL_band_19)
  | inl e0 =>
    obtain ⟨i, hi, rfl⟩ := hk
    match i, hi with
    | 0, hi =>
      cases hi
      exact wr_callX (M' := M) (As := [.int p0]) (st := [.int 0, .ref out]) B hC hX dL_band_4 ⟨vk_band, vi_band, vs_band, vn_X9, vc_band⟩ rfl vy_band ⟨(Nat.le_of_ble_eq_true rfl), (Nat.le_of_ble_eq_true rfl)⟩ (Nat.le_of_ble_eq_true rfl) rfl hl (fun H1 locs1 q ce hP1 hS1 hce hcv hcl => wr_catch B hN (k := 1) (by decide) _ ⟨f, rfl, fun v h => by cases h⟩ hP1 hS1 hce hcv hcl [] ⟨0, 9, 12, 13⟩ [⟨0, 9, 15, 52⟩] rfl (fun _ h => absurd h List.not_mem_nil) rfl (by decide) vl_13 vcast_1 (lv_astore_n b1 b2 dL_band_12 rfl hl (Nat.le_of_ble_eq_true rfl) rfl (fun ls' _ => wr_hret B ⟨f, rfl, fun v h => by cases h⟩ hP1 hS1 (by decide) dL_band_13 dL_band_14)))
    | 1, hi =>
      cases hi
      exact wr_callX (M' := M) (As := [.int p0]) (st := [.int 0, .ref out]) B hC hX dL_band_4 ⟨vk_band, vi_band, vs_band, vn_X9, vc_band⟩ rfl vy_band ⟨(Nat.le_of_ble_eq_true rfl), (Nat.le_of_ble_eq_true rfl)⟩ (Nat.le_of_ble_eq_true rfl) rfl hl (fun H1 locs1 q ce hP1 hS1 hce hcv hcl => wr_catch B hN (k := 4) (by decide) _ ⟨f, rfl, fun v h => by cases h⟩ hP1 hS1 hce hcv hcl [⟨0, 9, 12, 13⟩] ⟨0, 9, 15, 52⟩ [] rfl (List.forall_mem_cons.mpr ⟨⟨1, by decide, by decide, by decide, vl_13⟩, fun _ h => absurd h List.not_mem_nil⟩) rfl (by decide) vl_52 vcast_4 (lv_astore_n b1 b2 dL_band_15 rfl hl (Nat.le_of_ble_eq_true rfl) rfl (fun ls' _ => wr_hret B ⟨f, rfl, fun v h => by cases h⟩ hP1 hS1 (by decide) dL_band_16 dL_band_17)))
    | n + 2, hi => simp at hi
theorem cw_bestOffset {Ω : Wd} (l : Launch) (hO : OkW Ω) (hX : LX Ω) (hl0 : l.stackTraces = false) (hT : ThrOk Ω) (hN : NcX Ω) (t5 : Nat) {cL : ClassId} (ht : (wT Ω)[t5]? = some (cL, .long)) {out : Nat} (ho : ∀ i, i < wN Ω → wA Ω i ≠ out) (M : Mem) (p0 : Int32) (p1 : Int32) (f : Nat → Int64) {rx : Nat ⊕ Int32} {M' : Mem} (hf : fX9_bestOffset M p0 p1 = some (rx, M')) {k : Int32} (hk : ResK [0, 1, 4] rx k) : CtW l yL_bestOffset (.codeWith yL_bestOffset cL_bestOffset 5 (some .int) [(0, 10, 13, 27), (0, 10, 17, 13), (0, 10, 21, 52)]) 9 183 Ω out [.ref (wA Ω 0), .int p0, .int p1, .ref out] M (lc cL f) k M' (EL cL rx) := by
  refine wr_of [(0, .ref (wA Ω 0)), (1, .int p0), (2, .int p1), (3, .ref out)] hO ho (by decide +kernel) rfl (Nat.le_of_ble_eq_true rfl) rfl (fun p e s m below meth c B ls hl => ?_)
  have b1 := B.1
  have b2 := B.2.1
  refine lv_aload_n b1 b2 dL_bestOffset_0 rfl (lv_at hl 3 rfl) ?_
  refine lv_iconst (v := 0) b1 b2 dL_bestOffset_1 (by decide) ?_
  refine lv_aload_n b1 b2 dL_bestOffset_2 rfl (lv_at hl 0 rfl) ?_
  refine lv_iload_n b1 b2 dL_bestOffset_3 rfl (lv_at hl 1 rfl) ?_
  refine lv_iload_n b1 b2 dL_bestOffset_4 rfl (lv_at hl 2 rfl) ?_
  have hC := c_X9_bestOffset l hO hX hl0 hT M p0 p1 _ hf
  cases rx with
  | inr v =>
    have hk0 : k = 0 := hk
    subst hk0
    exact wr_callR (v := some (.int v)) (M' := M') (As := [.int p0, .int p1]) (st := [.int 0, .ref out]) B hC hX dL_bestOffset_5 ⟨vk_bestOffset, vi_bestOffset, vs_bestOffset, vn_X9, vc_bestOffset⟩ rfl vy_bestOffset ⟨(Nat.le_of_ble_eq_true rfl), (Nat.le_of_ble_eq_true rfl)⟩ (Nat.le_of_ble_eq_true rfl) rfl hl (fun H1 locs1 hP1 hS1 => wr_ret B rfl t5 ht (fun g hg => ⟨g, rfl, fun v' h => by cases h; exact hg⟩) hP1 hS1 25 (by decide) dL_bestOffset_8 dL_bestOffset_9 dL_bestOffset_10 dL_bestOffset_25 dL_bestOffset_26)
  | inl e0 =>
    obtain ⟨i, hi, rfl⟩ := hk
    match i, hi with
    | 0, hi =>
      cases hi
      exact wr_callX (M' := M') (As := [.int p0, .int p1]) (st := [.int 0, .ref out]) B hC hX dL_bestOffset_5 ⟨vk_bestOffset, vi_bestOffset, vs_bestOffset, vn_X9, vc_bestOffset⟩ rfl vy_bestOffset ⟨(Nat.le_of_ble_eq_true rfl), (Nat.le_of_ble_eq_true rfl)⟩ (Nat.le_of_ble_eq_true rfl) rfl hl (fun H1 locs1 q ce hP1 hS1 hce hcv hcl => wr_catch B hN (k := 0) (by decide) _ ⟨f, rfl, fun v h => by cases h⟩ hP1 hS1 hce hcv hcl [] ⟨0, 10, 13, 27⟩ [⟨0, 10, 17, 13⟩, ⟨0, 10, 21, 52⟩] rfl (fun _ h => absurd h List.not_mem_nil) rfl (by decide) vl_27 vcast_0 (lv_astore b1 b2 dL_bestOffset_13 hl (Nat.le_of_ble_eq_true rfl) rfl (fun ls' _ => wr_hret B ⟨f, rfl, fun v h => by cases h⟩ hP1 hS1 (by decide) dL_bestOffset_15 dL_bestOffset_16)))
    | 1, hi =>
      cases hi
      exact wr_callX (M' := M') (As := [.int p0, .int p1]) (st := [.int 0, .ref out]) B hC hX dL_bestOffset_5 ⟨vk_bestOffset, vi_bestOffset, vs_bestOffset, vn_X9, vc_bestOffset⟩ rfl vy_bestOffset ⟨(Nat.le_of_ble_eq_true rfl), (Nat.le_of_ble_eq_true rfl)⟩ (Nat.le_of_ble_eq_true rfl) rfl hl (fun H1 locs1 q ce hP1 hS1 hce hcv hcl => wr_catch B hN (k := 1) (by decide) _ ⟨f, rfl, fun v h => by cases h⟩ hP1 hS1 hce hcv hcl [⟨0, 10, 13, 27⟩] ⟨0, 10, 17, 13⟩ [⟨0, 10, 21, 52⟩] rfl (List.forall_mem_cons.mpr ⟨⟨0, by decide, by decide, by decide, vl_27⟩, fun _ h => absurd h List.not_mem_nil⟩) rfl (by decide) vl_13 vcast_1 (lv_astore b1 b2 dL_bestOffset_17 hl (Nat.le_of_ble_eq_true rfl) rfl (fun ls' _ => wr_hret B ⟨f, rfl, fun v h => by cases h⟩ hP1 hS1 (by decide) dL_bestOffset_19 dL_bestOffset_20)))
    | 2, hi =>
      cases hi
      exact wr_callX (M' := M') (As := [.int p0, .int p1]) (st := [.int 0, .ref out]) B hC hX dL_bestOffset_5 ⟨vk_bestOffset, vi_bestOffset, vs_bestOffset, vn_X9, vc_bestOffset⟩ rfl vy_bestOffset ⟨(Nat.le_of_ble_eq_true rfl), (Nat.le_of_ble_eq_true rfl)⟩ (Nat.le_of_ble_eq_true rfl) rfl hl (fun H1 locs1 q ce hP1 hS1 hce hcv hcl => wr_catch B hN (k := 4) (by decide) _ ⟨f, rfl, fun v h => by cases h⟩ hP1 hS1 hce hcv hcl [⟨0, 10, 13, 27⟩, ⟨0, 10, 17, 13⟩] ⟨0, 10, 21, 52⟩ [] rfl (List.forall_mem_cons.mpr ⟨⟨0, by decide, by decide, by decide, vl_27⟩, List.forall_mem_cons.mpr ⟨⟨1, by decide, by decide, by decide, vl_13⟩, fun _ h => absurd h List.not_mem_nil⟩⟩) rfl (by decide) vl_52 vcast_4 (lv_astore b1 b2 dL_bestOffset_21 hl (Nat.le_of_ble_eq_true rfl) rfl (fun ls' _ => wr_hret B ⟨f, rfl, fun v h => by cases h⟩ hP1 hS1 (by decide) dL_bestOffset_23 dL_bestOffset_24)))
    | n + 3, hi => simp at hi
theorem cw_press {Ω : Wd} (l : Launch) (hO : OkW Ω) (hX : LX Ω) (hl0 : l.stackTraces = false) (hT : ThrOk Ω) (hN : NcX Ω) (t5 : Nat) {cL : ClassId} (ht : (wT Ω)[t5]? = some (cL, .long)) {out : Nat} (ho : ∀ i, i < wN Ω → wA Ω i ≠ out) (M : Mem) (p0 : Int32) (p1 : Int32) (f : Nat → Int64) {rx : Nat ⊕ Int32} {M' : Mem} (hf : fX9_press M p0 p1 = some (rx, M')) {k : Int32} (hk : ResK [0, 2] rx k) : CtW l yL_press (.codeWith yL_press cL_press 5 (some .int) [(0, 10, 13, 27), (0, 10, 17, 15)]) 9 187 Ω out [.ref (wA Ω 0), .int p0, .int p1, .ref out] M (lc cL f) k M' (EL cL rx) := by
  refine wr_of [(0, .ref (wA Ω 0)), (1, .int p0), (2, .int p1), (3, .ref out)] hO ho (by decide +kernel) rfl (Nat.le_of_ble_eq_true rfl) rfl (fun p e s m below meth c B ls hl => ?_)
  have b1 := B.1
  have b2 := B.2.1
  refine lv_aload_n b1 b2 dL_press_0 rfl (lv_at hl 3 rfl) ?_
  refine lv_iconst (v := 0) b1 b2 dL_press_1 (by decide) ?_
  refine lv_aload_n b1 b2 dL_press_2 rfl (lv_at hl 0 rfl) ?_
  refine lv_iload_n b1 b2 dL_press_3 rfl (lv_at hl 1 rfl) ?_
  refine lv_iload_n b1 b2 dL_press_4 rfl (lv_at hl 2 rfl) ?_
  have hC := c_X9_press l hO hX hl0 hT M p0 p1 _ hf
  cases rx with
  | inr v =>
    have hk0 : k = 0 := hk
    subst hk0
    exact wr_callR (v := some (.int v)) (M' := M') (As := [.int p0, .int p1]) (st := [.int 0, .ref out]) B hC hX dL_press_5 ⟨vk_press, vi_press, vs_press, vn_X9, vc_press⟩ rfl vy_press ⟨(Nat.le_of_ble_eq_true rfl), (Nat.le_of_ble_eq_true rfl)⟩ (Nat.le_of_ble_eq_true rfl) rfl hl (fun H1 locs1 hP1 hS1 => wr_ret B rfl t5 ht (fun g hg => ⟨g, rfl, fun v' h => by cases h; exact hg⟩) hP1 hS1 21 (by decide) dL_press_8 dL_press_9 dL_press_10 dL_press_21 dL_press_22)
  | inl e0 =>
    obtain ⟨i, hi, rfl⟩ := hk
    match i, hi with
    | 0, hi =>
      cases hi
      exact wr_callX (M' := M') (As := [.int p0, .int p1]) (st := [.int 0, .ref out]) B hC hX dL_press_5 ⟨vk_press, vi_press, vs_press, vn_X9, vc_press⟩ rfl vy_press ⟨(Nat.le_of_ble_eq_true rfl), (Nat.le_of_ble_eq_true rfl)⟩ (Nat.le_of_ble_eq_true rfl) rfl hl (fun H1 locs1 q ce hP1 hS1 hce hcv hcl => wr_catch B hN (k := 0) (by decide) _ ⟨f, rfl, fun v h => by cases h⟩ hP1 hS1 hce hcv hcl [] ⟨0, 10, 13, 27⟩ [⟨0, 10, 17, 15⟩] rfl (fun _ h => absurd h List.not_mem_nil) rfl (by decide) vl_27 vcast_0 (lv_astore b1 b2 dL_press_13 hl (Nat.le_of_ble_eq_true rfl) rfl (fun ls' _ => wr_hret B ⟨f, rfl, fun v h => by cases h⟩ hP1 hS1 (by decide) dL_press_15 dL_press_16)))
    | 1, hi =>
      cases hi
      exact wr_callX (M' := M') (As := [.int p0, .int p1]) (st := [.int 0, .ref out]) B hC hX dL_press_5 ⟨vk_press, vi_press, vs_press, vn_X9, vc_press⟩ rfl vy_press ⟨(Nat.le_of_ble_eq_true rfl), (Nat.le_of_ble_eq_true rfl)⟩ (Nat.le_of_ble_eq_true rfl) rfl hl (fun H1 locs1 q ce hP1 hS1 hce hcv hcl => wr_catch B hN (k := 2) (by decide) _ ⟨f, rfl, fun v h => by cases h⟩ hP1 hS1 hce hcv hcl [⟨0, 10, 13, 27⟩] ⟨0, 10, 17, 15⟩ [] rfl (List.forall_mem_cons.mpr ⟨⟨0, by decide, by decide, by decide, vl_27⟩, fun _ h => absurd h List.not_mem_nil⟩) rfl (by decide) vl_15 vcast_2 (lv_astore b1 b2 dL_press_17 hl (Nat.le_of_ble_eq_true rfl) rfl (fun ls' _ => wr_hret B ⟨f, rfl, fun v h => by cases h⟩ hP1 hS1 (by decide) dL_press_19 dL_press_20)))
    | n + 2, hi => simp at hi
theorem cw_run {Ω : Wd} (l : Launch) (hO : OkW Ω) (hX : LX Ω) (hl0 : l.stackTraces = false) (hT : ThrOk Ω) (hN : NcX Ω) (t5 : Nat) {cL : ClassId} (ht : (wT Ω)[t5]? = some (cL, .long)) {out : Nat} (ho : ∀ i, i < wN Ω → wA Ω i ≠ out) (M : Mem) (p0 : Int32) (f : Nat → Int64) {rx : Nat ⊕ Int32} {M' : Mem} (hf : fX9_run M p0 = some (rx, M')) {k : Int32} (hk : ResK [1, 2] rx k) : CtW l yL_run (.codeWith yL_run cL_run 4 (some .int) [(0, 9, 12, 13), (0, 9, 15, 15)]) 8 161 Ω out [.ref (wA Ω 0), .int p0, .ref out] M (lc cL f) k M' (EL cL rx) := by
  refine wr_of [(0, .ref (wA Ω 0)), (1, .int p0), (2, .ref out)] hO ho (by decide +kernel) rfl (Nat.le_of_ble_eq_true rfl) rfl (fun p e s m below meth c B ls hl => ?_)
  have b1 := B.1
  have b2 := B.2.1
  refine lv_aload_n b1 b2 dL_run_0 rfl (lv_at hl 2 rfl) ?_
  refine lv_iconst (v := 0) b1 b2 dL_run_1 (by decide) ?_
  refine lv_aload_n b1 b2 dL_run_2 rfl (lv_at hl 0 rfl) ?_
  refine lv_iload_n b1 b2 dL_run_3 rfl (lv_at hl 1 rfl) ?_
  have hC := c_X9_run l hO hX hl0 hT M p0 _ hf
  cases rx with
  | inr v =>
    have hk0 : k = 0 := hk
    subst hk0
    exact wr_callR (v := some (.int v)) (M' := M') (As := [.int p0]) (st := [.int 0, .ref out]) B hC hX dL_run_4 ⟨vk_run, vi_run, vs_run, vn_X9, vc_run⟩ rfl vy_run ⟨(Nat.le_of_ble_eq_true rfl), (Nat.le_of_ble_eq_true rfl)⟩ (Nat.le_of_ble_eq_true rfl) rfl hl (fun H1 locs1 hP1 hS1 => wr_ret B rfl t5 ht (fun g hg => ⟨g, rfl, fun v' h => by cases h; exact hg⟩) hP1 hS1 18 (by decide) dL_run_7 dL_run_8 dL_run_9 dL_run_18 dL_run_19)
  | inl e0 =>
    obtain ⟨i, hi, rfl⟩ := hk
    match i, hi with
    | 0, hi =>
      cases hi
      exact wr_callX (M' := M') (As := [.int p0]) (st := [.int 0, .ref out]) B hC hX dL_run_4 ⟨vk_run, vi_run, vs_run, vn_X9, vc_run⟩ rfl vy_run ⟨(Nat.le_of_ble_eq_true rfl), (Nat.le_of_ble_eq_true rfl)⟩ (Nat.le_of_ble_eq_true rfl) rfl hl (fun H1 locs1 q ce hP1 hS1 hce hcv hcl => wr_catch B hN (k := 1) (by decide) _ ⟨f, rfl, fun v h => by cases h⟩ hP1 hS1 hce hcv hcl [] ⟨0, 9, 12, 13⟩ [⟨0, 9, 15, 15⟩] rfl (fun _ h => absurd h List.not_mem_nil) rfl (by decide) vl_13 vcast_1 (lv_astore_n b1 b2 dL_run_12 rfl hl (Nat.le_of_ble_eq_true rfl) rfl (fun ls' _ => wr_hret B ⟨f, rfl, fun v h => by cases h⟩ hP1 hS1 (by decide) dL_run_13 dL_run_14)))
    | 1, hi =>
      cases hi
      exact wr_callX (M' := M') (As := [.int p0]) (st := [.int 0, .ref out]) B hC hX dL_run_4 ⟨vk_run, vi_run, vs_run, vn_X9, vc_run⟩ rfl vy_run ⟨(Nat.le_of_ble_eq_true rfl), (Nat.le_of_ble_eq_true rfl)⟩ (Nat.le_of_ble_eq_true rfl) rfl hl (fun H1 locs1 q ce hP1 hS1 hce hcv hcl => wr_catch B hN (k := 2) (by decide) _ ⟨f, rfl, fun v h => by cases h⟩ hP1 hS1 hce hcv hcl [⟨0, 9, 12, 13⟩] ⟨0, 9, 15, 15⟩ [] rfl (List.forall_mem_cons.mpr ⟨⟨1, by decide, by decide, by decide, vl_13⟩, fun _ h => absurd h List.not_mem_nil⟩) rfl (by decide) vl_15 vcast_2 (lv_astore_n b1 b2 dL_run_15 rfl hl (Nat.le_of_ble_eq_true rfl) rfl (fun ls' _ => wr_hret B ⟨f, rfl, fun v h => by cases h⟩ hP1 hS1 (by decide) dL_run_16 dL_run_17)))
    | n + 2, hi => simp at hi
theorem cw_soonest {Ω : Wd} (l : Launch) (hO : OkW Ω) (hX : LX Ω) (hl0 : l.stackTraces = false) (hT : ThrOk Ω) (hN : NcX Ω) (t5 : Nat) {cL : ClassId} (ht : (wT Ω)[t5]? = some (cL, .long)) {out : Nat} (ho : ∀ i, i < wN Ω → wA Ω i ≠ out) (M : Mem) (p0 : Int32) (f : Nat → Int64) {rx : Nat ⊕ Int32} (hf : fX9_soonest M p0 = some rx) {k : Int32} (hk : ResK [0, 4] rx k) : CtW l yL_soonest (.codeWith yL_soonest cL_soonest 4 (some .int) [(0, 9, 12, 27), (0, 9, 15, 52)]) 9 184 Ω out [.ref (wA Ω 0), .int p0, .ref out] M (lc cL f) k M (EL cL rx) := by
  refine wr_of [(0, .ref (wA Ω 0)), (1, .int p0), (2, .ref out)] hO ho (by decide +kernel) rfl (Nat.le_of_ble_eq_true rfl) rfl (fun p e s m below meth c B ls hl => ?_)
  have b1 := B.1
  have b2 := B.2.1
  refine lv_aload_n b1 b2 dL_soonest_0 rfl (lv_at hl 2 rfl) ?_
  refine lv_iconst (v := 0) b1 b2 dL_soonest_1 (by decide) ?_
  refine lv_aload_n b1 b2 dL_soonest_2 rfl (lv_at hl 0 rfl) ?_
  refine lv_iload_n b1 b2 dL_soonest_3 rfl (lv_at hl 1 rfl) ?_
  have hC := c_X9_soonest l hO hX hl0 hT M p0 _ hf
  cases rx with
  | inr v =>
    have hk0 : k = 0 := hk
    subst hk0
    exact wr_callR (v := some (.int v)) (M' := M) (As := [.int p0]) (st := [.int 0, .ref out]) B hC hX dL_soonest_4 ⟨vk_soonest, vi_soonest, vs_soonest, vn_X9, vc_soonest⟩ rfl vy_soonest ⟨(Nat.le_of_ble_eq_true rfl), (Nat.le_of_ble_eq_true rfl)⟩ (Nat.le_of_ble_eq_true rfl) rfl hl (fun H1 locs1 hP1 hS1 => wr_ret B rfl t5 ht (fun g hg => ⟨g, rfl, fun v' h => by cases h; exact hg⟩) hP1 hS1 18 (by decide) dL_soonest_7 dL_soonest_8 dL_soonest_9 dL_soonest_18 dL_soonest_19)
  | inl e0 =>
    obtain ⟨i, hi, rfl⟩ := hk
    match i, hi with
    | 0, hi =>
      cases hi
      exact wr_callX (M' := M) (As := [.int p0]) (st := [.int 0, .ref out]) B hC hX dL_soonest_4 ⟨vk_soonest, vi_soonest, vs_soonest, vn_X9, vc_soonest⟩ rfl vy_soonest ⟨(Nat.le_of_ble_eq_true rfl), (Nat.le_of_ble_eq_true rfl)⟩ (Nat.le_of_ble_eq_true rfl) rfl hl (fun H1 locs1 q ce hP1 hS1 hce hcv hcl => wr_catch B hN (k := 0) (by decide) _ ⟨f, rfl, fun v h => by cases h⟩ hP1 hS1 hce hcv hcl [] ⟨0, 9, 12, 27⟩ [⟨0, 9, 15, 52⟩] rfl (fun _ h => absurd h List.not_mem_nil) rfl (by decide) vl_27 vcast_0 (lv_astore_n b1 b2 dL_soonest_12 rfl hl (Nat.le_of_ble_eq_true rfl) rfl (fun ls' _ => wr_hret B ⟨f, rfl, fun v h => by cases h⟩ hP1 hS1 (by decide) dL_soonest_13 dL_soonest_14)))
    | 1, hi =>
      cases hi
      exact wr_callX (M' := M) (As := [.int p0]) (st := [.int 0, .ref out]) B hC hX dL_soonest_4 ⟨vk_soonest, vi_soonest, vs_soonest, vn_X9, vc_soonest⟩ rfl vy_soonest ⟨(Nat.le_of_ble_eq_true rfl), (Nat.le_of_ble_eq_true rfl)⟩ (Nat.le_of_ble_eq_true rfl) rfl hl (fun H1 locs1 q ce hP1 hS1 hce hcv hcl => wr_catch B hN (k := 4) (by decide) _ ⟨f, rfl, fun v h => by cases h⟩ hP1 hS1 hce hcv hcl [⟨0, 9, 12, 27⟩] ⟨0, 9, 15, 52⟩ [] rfl (List.forall_mem_cons.mpr ⟨⟨0, by decide, by decide, by decide, vl_27⟩, fun _ h => absurd h List.not_mem_nil⟩) rfl (by decide) vl_52 vcast_4 (lv_astore_n b1 b2 dL_soonest_15 rfl hl (Nat.le_of_ble_eq_true rfl) rfl (fun ls' _ => wr_hret B ⟨f, rfl, fun v h => by cases h⟩ hP1 hS1 (by decide) dL_soonest_16 dL_soonest_17)))
    | n + 2, hi => simp at hi
theorem cw_change {Ω : Wd} (l : Launch) (hO : OkW Ω) (hX : LX Ω) (hl0 : l.stackTraces = false) (hT : ThrOk Ω) (hN : NcX Ω) (t5 : Nat) {cL : ClassId} (ht : (wT Ω)[t5]? = some (cL, .long)) {out : Nat} (ho : ∀ i, i < wN Ω → wA Ω i ≠ out) (M : Mem) (p0 : Int32) (f : Nat → Int64) {rx : Nat ⊕ Int32} {M' : Mem} (hf : fX9_change M p0 = some (rx, M')) {k : Int32} (hk : ResK [0, 2, 4] rx k) : CtW l yL_change (.codeWith yL_change cL_change 4 (some .int) [(0, 9, 12, 27), (0, 9, 15, 15), (0, 9, 18, 52)]) 9 186 Ω out [.ref (wA Ω 0), .int p0, .ref out] M (lc cL f) k M' (EL cL rx) := by
  refine wr_of [(0, .ref (wA Ω 0)), (1, .int p0), (2, .ref out)] hO ho (by decide +kernel) rfl (Nat.le_of_ble_eq_true rfl) rfl (fun p e s m below meth c B ls hl => ?_)
  have b1 := B.1
  have b2 := B.2.1
  refine lv_aload_n b1 b2 dL_change_0 rfl (lv_at hl 2 rfl) ?_
  refine lv_iconst (v := 0) b1 b2 dL_change_1 (by decide) ?_
  refine lv_aload_n b1 b2 dL_change_2 rfl (lv_at hl 0 rfl) ?_
  refine lv_iload_n b1 b2 dL_change_3 rfl (lv_at hl 1 rfl) ?_
  have hC := c_X9_change l hO hX hl0 hT M p0 _ hf
  cases rx with
  | inr v =>
    have hk0 : k = 0 := hk
    subst hk0
    exact wr_callR (v := some (.int v)) (M' := M') (As := [.int p0]) (st := [.int 0, .ref out]) B hC hX dL_change_4 ⟨vk_change, vi_change, vs_change, vn_X9, vc_change⟩ rfl vy_change ⟨(Nat.le_of_ble_eq_true rfl), (Nat.le_of_ble_eq_true rfl)⟩ (Nat.le_of_ble_eq_true rfl) rfl hl (fun H1 locs1 hP1 hS1 => wr_ret B rfl t5 ht (fun g hg => ⟨g, rfl, fun v' h => by cases h; exact hg⟩) hP1 hS1 21 (by decide) dL_change_7 dL_change_8 dL_change_9 dL_change_21 dL_change_22)
  | inl e0 =>
    obtain ⟨i, hi, rfl⟩ := hk
    match i, hi with
    | 0, hi =>
      cases hi
      exact wr_callX (M' := M') (As := [.int p0]) (st := [.int 0, .ref out]) B hC hX dL_change_4 ⟨vk_change, vi_change, vs_change, vn_X9, vc_change⟩ rfl vy_change ⟨(Nat.le_of_ble_eq_true rfl), (Nat.le_of_ble_eq_true rfl)⟩ (Nat.le_of_ble_eq_true rfl) rfl hl (fun H1 locs1 q ce hP1 hS1 hce hcv hcl => wr_catch B hN (k := 0) (by decide) _ ⟨f, rfl, fun v h => by cases h⟩ hP1 hS1 hce hcv hcl [] ⟨0, 9, 12, 27⟩ [⟨0, 9, 15, 15⟩, ⟨0, 9, 18, 52⟩] rfl (fun _ h => absurd h List.not_mem_nil) rfl (by decide) vl_27 vcast_0 (lv_astore_n b1 b2 dL_change_12 rfl hl (Nat.le_of_ble_eq_true rfl) rfl (fun ls' _ => wr_hret B ⟨f, rfl, fun v h => by cases h⟩ hP1 hS1 (by decide) dL_change_13 dL_change_14)))
    | 1, hi =>
      cases hi
      exact wr_callX (M' := M') (As := [.int p0]) (st := [.int 0, .ref out]) B hC hX dL_change_4 ⟨vk_change, vi_change, vs_change, vn_X9, vc_change⟩ rfl vy_change ⟨(Nat.le_of_ble_eq_true rfl), (Nat.le_of_ble_eq_true rfl)⟩ (Nat.le_of_ble_eq_true rfl) rfl hl (fun H1 locs1 q ce hP1 hS1 hce hcv hcl => wr_catch B hN (k := 2) (by decide) _ ⟨f, rfl, fun v h => by cases h⟩ hP1 hS1 hce hcv hcl [⟨0, 9, 12, 27⟩] ⟨0, 9, 15, 15⟩ [⟨0, 9, 18, 52⟩] rfl (List.forall_mem_cons.mpr ⟨⟨0, by decide, by decide, by decide, vl_27⟩, fun _ h => absurd h List.not_mem_nil⟩) rfl (by decide) vl_15 vcast_2 (lv_astore_n b1 b2 dL_change_15 rfl hl (Nat.le_of_ble_eq_true rfl) rfl (fun ls' _ => wr_hret B ⟨f, rfl, fun v h => by cases h⟩ hP1 hS1 (by decide) dL_change_16 dL_change_17)))
    | 2, hi =>
      cases hi
      exact wr_callX (M' := M') (As := [.int p0]) (st := [.int 0, .ref out]) B hC hX dL_change_4 ⟨vk_change, vi_change, vs_change, vn_X9, vc_change⟩ rfl vy_change ⟨(Nat.le_of_ble_eq_true rfl), (Nat.le_of_ble_eq_true rfl)⟩ (Nat.le_of_ble_eq_true rfl) rfl hl (fun H1 locs1 q ce hP1 hS1 hce hcv hcl => wr_catch B hN (k := 4) (by decide) _ ⟨f, rfl, fun v h => by cases h⟩ hP1 hS1 hce hcv hcl [⟨0, 9, 12, 27⟩, ⟨0, 9, 15, 15⟩] ⟨0, 9, 18, 52⟩ [] rfl (List.forall_mem_cons.mpr ⟨⟨0, by decide, by decide, by decide, vl_27⟩, List.forall_mem_cons.mpr ⟨⟨2, by decide, by decide, by decide, vl_15⟩, fun _ h => absurd h List.not_mem_nil⟩⟩) rfl (by decide) vl_52 vcast_4 (lv_astore_n b1 b2 dL_change_18 rfl hl (Nat.le_of_ble_eq_true rfl) rfl (fun ls' _ => wr_hret B ⟨f, rfl, fun v h => by cases h⟩ hP1 hS1 (by decide) dL_change_19 dL_change_20)))
    | n + 3, hi => simp at hi
theorem cw_mount {Ω : Wd} (l : Launch) (hO : OkW Ω) (hX : LX Ω) (hl0 : l.stackTraces = false) (hT : ThrOk Ω) (hN : NcX Ω) (t5 : Nat) {cL : ClassId} (ht : (wT Ω)[t5]? = some (cL, .long)) {out : Nat} (ho : ∀ i, i < wN Ω → wA Ω i ≠ out) (M : Mem) (p0 : Int32) (p1 : Int32) (p2 : Int32) (p3 : Int32) (f : Nat → Int64) {rx : Nat ⊕ Int32} {M' : Mem} (hf : fX9_mount M p0 p1 p2 p3 = some (rx, M')) {k : Int32} (hk : ResK [0, 1, 3] rx k) : CtW l yL_mount (.codeWith yL_mount cL_mount 7 (some .int) [(0, 14, 17, 27), (0, 14, 21, 13), (0, 14, 25, 47)]) 10 209 Ω out [.ref (wA Ω 0), .int p0, .int p1, .int p2, .int p3, .ref out] M (lc cL f) k M' (EL cL rx) := by
  refine wr_of [(0, .ref (wA Ω 0)), (1, .int p0), (2, .int p1), (3, .int p2), (4, .int p3), (5, .ref out)] hO ho (by decide +kernel) rfl (Nat.le_of_ble_eq_true rfl) rfl (fun p e s m below meth c B ls hl => ?_)
  have b1 := B.1
  have b2 := B.2.1
  refine lv_aload b1 b2 dL_mount_0 (lv_at hl 5 rfl) ?_
  refine lv_iconst (v := 0) b1 b2 dL_mount_2 (by decide) ?_
  refine lv_aload_n b1 b2 dL_mount_3 rfl (lv_at hl 0 rfl) ?_
  refine lv_iload_n b1 b2 dL_mount_4 rfl (lv_at hl 1 rfl) ?_
  refine lv_iload_n b1 b2 dL_mount_5 rfl (lv_at hl 2 rfl) ?_
  refine lv_iload_n b1 b2 dL_mount_6 rfl (lv_at hl 3 rfl) ?_
  refine lv_iload b1 b2 dL_mount_7 (lv_at hl 4 rfl) ?_
  have hC := c_X9_mount l hO hX hl0 hT M p0 p1 p2 p3 _ hf
  cases rx with
  | inr v =>
    have hk0 : k = 0 := hk
    subst hk0
    exact wr_callR (v := some (.int v)) (M' := M') (As := [.int p0, .int p1, .int p2, .int p3]) (st := [.int 0, .ref out]) B hC hX dL_mount_9 ⟨vk_mount, vi_mount, vs_mount, vn_X9, vc_mount⟩ rfl vy_mount ⟨(Nat.le_of_ble_eq_true rfl), (Nat.le_of_ble_eq_true rfl)⟩ (Nat.le_of_ble_eq_true rfl) rfl hl (fun H1 locs1 hP1 hS1 => wr_ret B rfl t5 ht (fun g hg => ⟨g, rfl, fun v' h => by cases h; exact hg⟩) hP1 hS1 29 (by decide) dL_mount_12 dL_mount_13 dL_mount_14 dL_mount_29 dL_mount_30)
  | inl e0 =>
    obtain ⟨i, hi, rfl⟩ := hk
    match i, hi with
    | 0, hi =>
      cases hi
      exact wr_callX (M' := M') (As := [.int p0, .int p1, .int p2, .int p3]) (st := [.int 0, .ref out]) B hC hX dL_mount_9 ⟨vk_mount, vi_mount, vs_mount, vn_X9, vc_mount⟩ rfl vy_mount ⟨(Nat.le_of_ble_eq_true rfl), (Nat.le_of_ble_eq_true rfl)⟩ (Nat.le_of_ble_eq_true rfl) rfl hl (fun H1 locs1 q ce hP1 hS1 hce hcv hcl => wr_catch B hN (k := 0) (by decide) _ ⟨f, rfl, fun v h => by cases h⟩ hP1 hS1 hce hcv hcl [] ⟨0, 14, 17, 27⟩ [⟨0, 14, 21, 13⟩, ⟨0, 14, 25, 47⟩] rfl (fun _ h => absurd h List.not_mem_nil) rfl (by decide) vl_27 vcast_0 (lv_astore b1 b2 dL_mount_17 hl (Nat.le_of_ble_eq_true rfl) rfl (fun ls' _ => wr_hret B ⟨f, rfl, fun v h => by cases h⟩ hP1 hS1 (by decide) dL_mount_19 dL_mount_20)))
    | 1, hi =>
      cases hi
      exact wr_callX (M' := M') (As := [.int p0, .int p1, .int p2, .int p3]) (st := [.int 0, .ref out]) B hC hX dL_mount_9 ⟨vk_mount, vi_mount, vs_mount, vn_X9, vc_mount⟩ rfl vy_mount ⟨(Nat.le_of_ble_eq_true rfl), (Nat.le_of_ble_eq_true rfl)⟩ (Nat.le_of_ble_eq_true rfl) rfl hl (fun H1 locs1 q ce hP1 hS1 hce hcv hcl => wr_catch B hN (k := 1) (by decide) _ ⟨f, rfl, fun v h => by cases h⟩ hP1 hS1 hce hcv hcl [⟨0, 14, 17, 27⟩] ⟨0, 14, 21, 13⟩ [⟨0, 14, 25, 47⟩] rfl (List.forall_mem_cons.mpr ⟨⟨0, by decide, by decide, by decide, vl_27⟩, fun _ h => absurd h List.not_mem_nil⟩) rfl (by decide) vl_13 vcast_1 (lv_astore b1 b2 dL_mount_21 hl (Nat.le_of_ble_eq_true rfl) rfl (fun ls' _ => wr_hret B ⟨f, rfl, fun v h => by cases h⟩ hP1 hS1 (by decide) dL_mount_23 dL_mount_24)))
    | 2, hi =>
      cases hi
      exact wr_callX (M' := M') (As := [.int p0, .int p1, .int p2, .int p3]) (st := [.int 0, .ref out]) B hC hX dL_mount_9 ⟨vk_mount, vi_mount, vs_mount, vn_X9, vc_mount⟩ rfl vy_mount ⟨(Nat.le_of_ble_eq_true rfl), (Nat.le_of_ble_eq_true rfl)⟩ (Nat.le_of_ble_eq_true rfl) rfl hl (fun H1 locs1 q ce hP1 hS1 hce hcv hcl => wr_catch B hN (k := 3) (by decide) _ ⟨f, rfl, fun v h => by cases h⟩ hP1 hS1 hce hcv hcl [⟨0, 14, 17, 27⟩, ⟨0, 14, 21, 13⟩] ⟨0, 14, 25, 47⟩ [] rfl (List.forall_mem_cons.mpr ⟨⟨0, by decide, by decide, by decide, vl_27⟩, List.forall_mem_cons.mpr ⟨⟨1, by decide, by decide, by decide, vl_13⟩, fun _ h => absurd h List.not_mem_nil⟩⟩) rfl (by decide) vl_47 vcast_3 (lv_astore b1 b2 dL_mount_25 hl (Nat.le_of_ble_eq_true rfl) rfl (fun ls' _ => wr_hret B ⟨f, rfl, fun v h => by cases h⟩ hP1 hS1 (by decide) dL_mount_27 dL_mount_28)))
    | n + 3, hi => simp at hi
theorem cw_account {Ω : Wd} (l : Launch) (hO : OkW Ω) (hX : LX Ω) (hl0 : l.stackTraces = false) (hT : ThrOk Ω) (hN : NcX Ω) (t5 : Nat) {cL : ClassId} (ht : (wT Ω)[t5]? = some (cL, .long)) {out : Nat} (ho : ∀ i, i < wN Ω → wA Ω i ≠ out) (M : Mem) (p0 : Int32) (f : Nat → Int64) {rx : Nat ⊕ Int32} (hf : fX9_account M p0 = some rx) {k : Int32} (hk : ResK [1] rx k) : CtW l yL_account (.codeWith yL_account cL_account 4 (some .int) [(0, 9, 12, 13)]) 9 182 Ω out [.ref (wA Ω 0), .int p0, .ref out] M (lc cL f) k M (EL cL rx) := by
  refine wr_of [(0, .ref (wA Ω 0)), (1, .int p0), (2, .ref out)] hO ho (by decide +kernel) rfl (Nat.le_of_ble_eq_true rfl) rfl (fun p e s m below meth c B ls hl => ?_)
  have b1 := B.1
  have b2 := B.2.1
  refine lv_aload_n b1 b2 dL_account_0 rfl (lv_at hl 2 rfl) ?_
  refine lv_iconst (v := 0) b1 b2 dL_account_1 (by decide) ?_
  refine lv_aload_n b1 b2 dL_account_2 rfl (lv_at hl 0 rfl) ?_
  refine lv_iload_n b1 b2 dL_account_3 rfl (lv_at hl 1 rfl) ?_
  have hC := c_X9_account l hO hX hl0 hT M p0 _ hf
  cases rx with
  | inr v =>
    have hk0 : k = 0 := hk
    subst hk0
    exact wr_callR (v := some (.int v)) (M' := M) (As := [.int p0]) (st := [.int 0, .ref out]) B hC hX dL_account_4 ⟨vk_account, vi_account, vs_account, vn_X9, vc_account⟩ rfl vy_account ⟨(Nat.le_of_ble_eq_true rfl), (Nat.le_of_ble_eq_true rfl)⟩ (Nat.le_of_ble_eq_true rfl) rfl hl (fun H1 locs1 hP1 hS1 => wr_ret B rfl t5 ht (fun g hg => ⟨g, rfl, fun v' h => by cases h; exact hg⟩) hP1 hS1 15 (by decide) dL_account_7 dL_account_8 dL_account_9 dL_account_15 dL_account_16)
  | inl e0 =>
    obtain ⟨i, hi, rfl⟩ := hk
    match i, hi with
    | 0, hi =>
      cases hi
      exact wr_callX (M' := M) (As := [.int p0]) (st := [.int 0, .ref out]) B hC hX dL_account_4 ⟨vk_account, vi_account, vs_account, vn_X9, vc_account⟩ rfl vy_account ⟨(Nat.le_of_ble_eq_true rfl), (Nat.le_of_ble_eq_true rfl)⟩ (Nat.le_of_ble_eq_true rfl) rfl hl (fun H1 locs1 q ce hP1 hS1 hce hcv hcl => wr_catch B hN (k := 1) (by decide) _ ⟨f, rfl, fun v h => by cases h⟩ hP1 hS1 hce hcv hcl [] ⟨0, 9, 12, 13⟩ [] rfl (fun _ h => absurd h List.not_mem_nil) rfl (by decide) vl_13 vcast_1 (lv_astore_n b1 b2 dL_account_12 rfl hl (Nat.le_of_ble_eq_true rfl) rfl (fun ls' _ => wr_hret B ⟨f, rfl, fun v h => by cases h⟩ hP1 hS1 (by decide) dL_account_13 dL_account_14)))
    | n + 1, hi => simp at hi
theorem cw_litShare {Ω : Wd} (l : Launch) (hO : OkW Ω) (hX : LX Ω) (hl0 : l.stackTraces = false) (hT : ThrOk Ω) (hN : NcX Ω) (t5 : Nat) {cL : ClassId} (ht : (wT Ω)[t5]? = some (cL, .long)) {out : Nat} (ho : ∀ i, i < wN Ω → wA Ω i ≠ out) (M : Mem) (p0 : Int32) (p1 : Int32) (f : Nat → Int64) {rx : Nat ⊕ Int32} (hf : fX9_litShare M p0 p1 = some rx) {k : Int32} (hk : ResK [0, 5] rx k) : CtW l yL_litShare (.codeWith yL_litShare cL_litShare 5 (some .int) [(0, 10, 13, 27), (0, 10, 17, 123)]) 10 207 Ω out [.ref (wA Ω 0), .int p0, .int p1, .ref out] M (lc cL f) k M (EL cL rx) := by
  refine wr_of [(0, .ref (wA Ω 0)), (1, .int p0), (2, .int p1), (3, .ref out)] hO ho (by decide +kernel) rfl (Nat.le_of_ble_eq_true rfl) rfl (fun p e s m below meth c B ls hl => ?_)
  have b1 := B.1
  have b2 := B.2.1
  refine lv_aload_n b1 b2 dL_litShare_0 rfl (lv_at hl 3 rfl) ?_
  refine lv_iconst (v := 0) b1 b2 dL_litShare_1 (by decide) ?_
  refine lv_aload_n b1 b2 dL_litShare_2 rfl (lv_at hl 0 rfl) ?_
  refine lv_iload_n b1 b2 dL_litShare_3 rfl (lv_at hl 1 rfl) ?_
  refine lv_iload_n b1 b2 dL_litShare_4 rfl (lv_at hl 2 rfl) ?_
  have hC := c_X9_litShare l hO hX hl0 hT M p0 p1 _ hf
  cases rx with
  | inr v =>
    have hk0 : k = 0 := hk
    subst hk0
    exact wr_callR (v := some (.int v)) (M' := M) (As := [.int p0, .int p1]) (st := [.int 0, .ref out]) B hC hX dL_litShare_5 ⟨vk_litShare, vi_litShare, vs_litShare, vn_X9, vc_litShare⟩ rfl vy_litShare ⟨(Nat.le_of_ble_eq_true rfl), (Nat.le_of_ble_eq_true rfl)⟩ (Nat.le_of_ble_eq_true rfl) rfl hl (fun H1 locs1 hP1 hS1 => wr_ret B rfl t5 ht (fun g hg => ⟨g, rfl, fun v' h => by cases h; exact hg⟩) hP1 hS1 21 (by decide) dL_litShare_8 dL_litShare_9 dL_litShare_10 dL_litShare_21 dL_litShare_22)
  | inl e0 =>
    obtain ⟨i, hi, rfl⟩ := hk
    match i, hi with
    | 0, hi =>
      cases hi
      exact wr_callX (M' := M) (As := [.int p0, .int p1]) (st := [.int 0, .ref out]) B hC hX dL_litShare_5 ⟨vk_litShare, vi_litShare, vs_litShare, vn_X9, vc_litShare⟩ rfl vy_litShare ⟨(Nat.le_of_ble_eq_true rfl), (Nat.le_of_ble_eq_true rfl)⟩ (Nat.le_of_ble_eq_true rfl) rfl hl (fun H1 locs1 q ce hP1 hS1 hce hcv hcl => wr_catch B hN (k := 0) (by decide) _ ⟨f, rfl, fun v h => by cases h⟩ hP1 hS1 hce hcv hcl [] ⟨0, 10, 13, 27⟩ [⟨0, 10, 17, 123⟩] rfl (fun _ h => absurd h List.not_mem_nil) rfl (by decide) vl_27 vcast_0 (lv_astore b1 b2 dL_litShare_13 hl (Nat.le_of_ble_eq_true rfl) rfl (fun ls' _ => wr_hret B ⟨f, rfl, fun v h => by cases h⟩ hP1 hS1 (by decide) dL_litShare_15 dL_litShare_16)))
    | 1, hi =>
      cases hi
      exact wr_callX (M' := M) (As := [.int p0, .int p1]) (st := [.int 0, .ref out]) B hC hX dL_litShare_5 ⟨vk_litShare, vi_litShare, vs_litShare, vn_X9, vc_litShare⟩ rfl vy_litShare ⟨(Nat.le_of_ble_eq_true rfl), (Nat.le_of_ble_eq_true rfl)⟩ (Nat.le_of_ble_eq_true rfl) rfl hl (fun H1 locs1 q ce hP1 hS1 hce hcv hcl => wr_catch B hN (k := 5) (by decide) _ ⟨f, rfl, fun v h => by cases h⟩ hP1 hS1 hce hcv hcl [⟨0, 10, 13, 27⟩] ⟨0, 10, 17, 123⟩ [] rfl (List.forall_mem_cons.mpr ⟨⟨0, by decide, by decide, by decide, vl_27⟩, fun _ h => absurd h List.not_mem_nil⟩) rfl (by decide) vl_123 vcast_5 (lv_astore b1 b2 dL_litShare_17 hl (Nat.le_of_ble_eq_true rfl) rfl (fun ls' _ => wr_hret B ⟨f, rfl, fun v h => by cases h⟩ hP1 hS1 (by decide) dL_litShare_19 dL_litShare_20)))
    | n + 2, hi => simp at hi
theorem cw_append {Ω : Wd} (l : Launch) (hO : OkW Ω) (hX : LX Ω) (hl0 : l.stackTraces = false) (hT : ThrOk Ω) (hN : NcX Ω) (t5 : Nat) {cL : ClassId} (ht : (wT Ω)[t5]? = some (cL, .long)) {out : Nat} (ho : ∀ i, i < wN Ω → wA Ω i ≠ out) (M : Mem) (p0 : Int32) (f : Nat → Int64) {rx : Nat ⊕ Int32} {M' : Mem} (hf : fX9_append M p0 = some (rx, M')) {k : Int32} (hk : ResK [1, 2] rx k) : CtW l yL_append (.codeWith yL_append cL_append 4 (some .int) [(0, 9, 12, 13), (0, 9, 15, 15)]) 9 185 Ω out [.ref (wA Ω 0), .int p0, .ref out] M (lc cL f) k M' (EL cL rx) := by
  refine wr_of [(0, .ref (wA Ω 0)), (1, .int p0), (2, .ref out)] hO ho (by decide +kernel) rfl (Nat.le_of_ble_eq_true rfl) rfl (fun p e s m below meth c B ls hl => ?_)
  have b1 := B.1
  have b2 := B.2.1
  refine lv_aload_n b1 b2 dL_append_0 rfl (lv_at hl 2 rfl) ?_
  refine lv_iconst (v := 0) b1 b2 dL_append_1 (by decide) ?_
  refine lv_aload_n b1 b2 dL_append_2 rfl (lv_at hl 0 rfl) ?_
  refine lv_iload_n b1 b2 dL_append_3 rfl (lv_at hl 1 rfl) ?_
  have hC := c_X9_append l hO hX hl0 hT M p0 _ hf
  cases rx with
  | inr v =>
    have hk0 : k = 0 := hk
    subst hk0
    exact wr_callR (v := some (.int v)) (M' := M') (As := [.int p0]) (st := [.int 0, .ref out]) B hC hX dL_append_4 ⟨vk_append, vi_append, vs_append, vn_X9, vc_append⟩ rfl vy_append ⟨(Nat.le_of_ble_eq_true rfl), (Nat.le_of_ble_eq_true rfl)⟩ (Nat.le_of_ble_eq_true rfl) rfl hl (fun H1 locs1 hP1 hS1 => wr_ret B rfl t5 ht (fun g hg => ⟨g, rfl, fun v' h => by cases h; exact hg⟩) hP1 hS1 18 (by decide) dL_append_7 dL_append_8 dL_append_9 dL_append_18 dL_append_19)
  | inl e0 =>
    obtain ⟨i, hi, rfl⟩ := hk
    match i, hi with
    | 0, hi =>
      cases hi
      exact wr_callX (M' := M') (As := [.int p0]) (st := [.int 0, .ref out]) B hC hX dL_append_4 ⟨vk_append, vi_append, vs_append, vn_X9, vc_append⟩ rfl vy_append ⟨(Nat.le_of_ble_eq_true rfl), (Nat.le_of_ble_eq_true rfl)⟩ (Nat.le_of_ble_eq_true rfl) rfl hl (fun H1 locs1 q ce hP1 hS1 hce hcv hcl => wr_catch B hN (k := 1) (by decide) _ ⟨f, rfl, fun v h => by cases h⟩ hP1 hS1 hce hcv hcl [] ⟨0, 9, 12, 13⟩ [⟨0, 9, 15, 15⟩] rfl (fun _ h => absurd h List.not_mem_nil) rfl (by decide) vl_13 vcast_1 (lv_astore_n b1 b2 dL_append_12 rfl hl (Nat.le_of_ble_eq_true rfl) rfl (fun ls' _ => wr_hret B ⟨f, rfl, fun v h => by cases h⟩ hP1 hS1 (by decide) dL_append_13 dL_append_14)))
    | 1, hi =>
      cases hi
      exact wr_callX (M' := M') (As := [.int p0]) (st := [.int 0, .ref out]) B hC hX dL_append_4 ⟨vk_append, vi_append, vs_append, vn_X9, vc_append⟩ rfl vy_append ⟨(Nat.le_of_ble_eq_true rfl), (Nat.le_of_ble_eq_true rfl)⟩ (Nat.le_of_ble_eq_true rfl) rfl hl (fun H1 locs1 q ce hP1 hS1 hce hcv hcl => wr_catch B hN (k := 2) (by decide) _ ⟨f, rfl, fun v h => by cases h⟩ hP1 hS1 hce hcv hcl [⟨0, 9, 12, 13⟩] ⟨0, 9, 15, 15⟩ [] rfl (List.forall_mem_cons.mpr ⟨⟨1, by decide, by decide, by decide, vl_13⟩, fun _ h => absurd h List.not_mem_nil⟩) rfl (by decide) vl_15 vcast_2 (lv_astore_n b1 b2 dL_append_15 rfl hl (Nat.le_of_ble_eq_true rfl) rfl (fun ls' _ => wr_hret B ⟨f, rfl, fun v h => by cases h⟩ hP1 hS1 (by decide) dL_append_16 dL_append_17)))
    | n + 2, hi => simp at hi
theorem cw_text {Ω : Wd} (l : Launch) (hO : OkW Ω) (hX : LX Ω) (hl0 : l.stackTraces = false) (hT : ThrOk Ω) {K V : Nat → Nat} (hK : StrOk Ω K V) {E : Nat → Nat} {t0 t1 : Nat} (hE : EnOk Ω E K t0 t1) (hW : WA Ω E) (hN : NcX Ω) (t5 : Nat) {cL : ClassId} (ht : (wT Ω)[t5]? = some (cL, .long)) {out : Nat} (ho : ∀ i, i < wN Ω → wA Ω i ≠ out) (M : Mem)  (f : Nat → Int64) {rx : Nat ⊕ Int32} {M' : Mem} (hf : fX9_text M  = some (rx, M')) {k : Int32} (hk : ResK [1, 2] rx k) : CtW l yL_text (.codeWith yL_text cL_text 3 (some .int) [(0, 8, 11, 13), (0, 8, 14, 15)]) 10 214 Ω out [.ref (wA Ω 0), .ref out] M (lc cL f) k M' (EL cL rx) := by
  refine wr_of [(0, .ref (wA Ω 0)), (1, .ref out)] hO ho (by decide +kernel) rfl (Nat.le_of_ble_eq_true rfl) rfl (fun p e s m below meth c B ls hl => ?_)
  have b1 := B.1
  have b2 := B.2.1
  refine lv_aload_n b1 b2 dL_text_0 rfl (lv_at hl 1 rfl) ?_
  refine lv_iconst (v := 0) b1 b2 dL_text_1 (by decide) ?_
  refine lv_aload_n b1 b2 dL_text_2 rfl (lv_at hl 0 rfl) ?_
  have hC := c_X9_text l hO hX hl0 hT hK hE hW M  _ hf
  cases rx with
  | inr v =>
    have hk0 : k = 0 := hk
    subst hk0
    exact wr_callR (v := some (.int v)) (M' := M') (As := []) (st := [.int 0, .ref out]) B hC hX dL_text_3 ⟨vk_text, vi_text, vs_text, vn_X9, vc_text⟩ rfl vy_text ⟨(Nat.le_of_ble_eq_true rfl), (Nat.le_of_ble_eq_true rfl)⟩ (Nat.le_of_ble_eq_true rfl) rfl hl (fun H1 locs1 hP1 hS1 => wr_ret B rfl t5 ht (fun g hg => ⟨g, rfl, fun v' h => by cases h; exact hg⟩) hP1 hS1 17 (by decide) dL_text_6 dL_text_7 dL_text_8 dL_text_17 dL_text_18)
  | inl e0 =>
    obtain ⟨i, hi, rfl⟩ := hk
    match i, hi with
    | 0, hi =>
      cases hi
      exact wr_callX (M' := M') (As := []) (st := [.int 0, .ref out]) B hC hX dL_text_3 ⟨vk_text, vi_text, vs_text, vn_X9, vc_text⟩ rfl vy_text ⟨(Nat.le_of_ble_eq_true rfl), (Nat.le_of_ble_eq_true rfl)⟩ (Nat.le_of_ble_eq_true rfl) rfl hl (fun H1 locs1 q ce hP1 hS1 hce hcv hcl => wr_catch B hN (k := 1) (by decide) _ ⟨f, rfl, fun v h => by cases h⟩ hP1 hS1 hce hcv hcl [] ⟨0, 8, 11, 13⟩ [⟨0, 8, 14, 15⟩] rfl (fun _ h => absurd h List.not_mem_nil) rfl (by decide) vl_13 vcast_1 (lv_astore_n b1 b2 dL_text_11 rfl hl (Nat.le_of_ble_eq_true rfl) rfl (fun ls' _ => wr_hret B ⟨f, rfl, fun v h => by cases h⟩ hP1 hS1 (by decide) dL_text_12 dL_text_13)))
    | 1, hi =>
      cases hi
      exact wr_callX (M' := M') (As := []) (st := [.int 0, .ref out]) B hC hX dL_text_3 ⟨vk_text, vi_text, vs_text, vn_X9, vc_text⟩ rfl vy_text ⟨(Nat.le_of_ble_eq_true rfl), (Nat.le_of_ble_eq_true rfl)⟩ (Nat.le_of_ble_eq_true rfl) rfl hl (fun H1 locs1 q ce hP1 hS1 hce hcv hcl => wr_catch B hN (k := 2) (by decide) _ ⟨f, rfl, fun v h => by cases h⟩ hP1 hS1 hce hcv hcl [⟨0, 8, 11, 13⟩] ⟨0, 8, 14, 15⟩ [] rfl (List.forall_mem_cons.mpr ⟨⟨1, by decide, by decide, by decide, vl_13⟩, fun _ h => absurd h List.not_mem_nil⟩) rfl (by decide) vl_15 vcast_2 (lv_astore_n b1 b2 dL_text_14 rfl hl (Nat.le_of_ble_eq_true rfl) rfl (fun ls' _ => wr_hret B ⟨f, rfl, fun v h => by cases h⟩ hP1 hS1 (by decide) dL_text_15 dL_text_16)))
    | n + 2, hi => simp at hi
theorem cw_report {Ω : Wd} (l : Launch) (hO : OkW Ω) (hX : LX Ω) (hl0 : l.stackTraces = false) (hT : ThrOk Ω) {K V : Nat → Nat} (hK : StrOk Ω K V) (hN : NcX Ω) (t5 : Nat) {cL : ClassId} (ht : (wT Ω)[t5]? = some (cL, .long)) {out : Nat} (ho : ∀ i, i < wN Ω → wA Ω i ≠ out) (M : Mem) (p0 : Int32) (f : Nat → Int64) {rx : Nat ⊕ Int32} {M' : Mem} (hf : fX9_report M p0 = some (rx, M')) {k : Int32} (hk : ResK [0] rx k) : CtW l yL_report (.codeWith yL_report cL_report 4 (some .int) [(0, 9, 12, 27)]) 8 178 Ω out [.ref (wA Ω 0), .int p0, .ref out] M (lc cL f) k M' (EL cL rx) := by
  refine wr_of [(0, .ref (wA Ω 0)), (1, .int p0), (2, .ref out)] hO ho (by decide +kernel) rfl (Nat.le_of_ble_eq_true rfl) rfl (fun p e s m below meth c B ls hl => ?_)
  have b1 := B.1
  have b2 := B.2.1
  refine lv_aload_n b1 b2 dL_report_0 rfl (lv_at hl 2 rfl) ?_
  refine lv_iconst (v := 0) b1 b2 dL_report_1 (by decide) ?_
  refine lv_aload_n b1 b2 dL_report_2 rfl (lv_at hl 0 rfl) ?_
  refine lv_iload_n b1 b2 dL_report_3 rfl (lv_at hl 1 rfl) ?_
  have hC := c_X9_report l hO hX hl0 hT hK M p0 _ hf
  cases rx with
  | inr v =>
    have hk0 : k = 0 := hk
    subst hk0
    exact wr_callR (v := some (.int v)) (M' := M') (As := [.int p0]) (st := [.int 0, .ref out]) B hC hX dL_report_4 ⟨vk_report, vi_report, vs_report, vn_X9, vc_report⟩ rfl vy_report ⟨(Nat.le_of_ble_eq_true rfl), (Nat.le_of_ble_eq_true rfl)⟩ (Nat.le_of_ble_eq_true rfl) rfl hl (fun H1 locs1 hP1 hS1 => wr_ret B rfl t5 ht (fun g hg => ⟨g, rfl, fun v' h => by cases h; exact hg⟩) hP1 hS1 15 (by decide) dL_report_7 dL_report_8 dL_report_9 dL_report_15 dL_report_16)
  | inl e0 =>
    obtain ⟨i, hi, rfl⟩ := hk
    match i, hi with
    | 0, hi =>
      cases hi
      exact wr_callX (M' := M') (As := [.int p0]) (st := [.int 0, .ref out]) B hC hX dL_report_4 ⟨vk_report, vi_report, vs_report, vn_X9, vc_report⟩ rfl vy_report ⟨(Nat.le_of_ble_eq_true rfl), (Nat.le_of_ble_eq_true rfl)⟩ (Nat.le_of_ble_eq_true rfl) rfl hl (fun H1 locs1 q ce hP1 hS1 hce hcv hcl => wr_catch B hN (k := 0) (by decide) _ ⟨f, rfl, fun v h => by cases h⟩ hP1 hS1 hce hcv hcl [] ⟨0, 9, 12, 27⟩ [] rfl (fun _ h => absurd h List.not_mem_nil) rfl (by decide) vl_27 vcast_0 (lv_astore_n b1 b2 dL_report_12 rfl hl (Nat.le_of_ble_eq_true rfl) rfl (fun ls' _ => wr_hret B ⟨f, rfl, fun v h => by cases h⟩ hP1 hS1 (by decide) dL_report_13 dL_report_14)))
    | n + 1, hi => simp at hi
theorem cw_character {Ω : Wd} (l : Launch) (hO : OkW Ω) (hX : LX Ω) (hl0 : l.stackTraces = false) (hT : ThrOk Ω) (hN : NcX Ω) (t5 : Nat) {cL : ClassId} (ht : (wT Ω)[t5]? = some (cL, .long)) {out : Nat} (ho : ∀ i, i < wN Ω → wA Ω i ≠ out) (M : Mem) (p0 : Int32) (f : Nat → Int64) {rx : Nat ⊕ Int32} (hf : fX9_character M p0 = some rx) {k : Int32} (hk : ResK [0] rx k) : CtW l yL_character (.codeWith yL_character cL_character 4 (some .int) [(0, 9, 12, 27)]) 9 182 Ω out [.ref (wA Ω 0), .int p0, .ref out] M (lc cL f) k M (EL cL rx) := by
  refine wr_of [(0, .ref (wA Ω 0)), (1, .int p0), (2, .ref out)] hO ho (by decide +kernel) rfl (Nat.le_of_ble_eq_true rfl) rfl (fun p e s m below meth c B ls hl => ?_)
  have b1 := B.1
  have b2 := B.2.1
  refine lv_aload_n b1 b2 dL_character_0 rfl (lv_at hl 2 rfl) ?_
  refine lv_iconst (v := 0) b1 b2 dL_character_1 (by decide) ?_
  refine lv_aload_n b1 b2 dL_character_2 rfl (lv_at hl 0 rfl) ?_
  refine lv_iload_n b1 b2 dL_character_3 rfl (lv_at hl 1 rfl) ?_
  have hC := c_X9_character l hO hX hl0 hT M p0 _ hf
  cases rx with
  | inr v =>
    have hk0 : k = 0 := hk
    subst hk0
    exact wr_callR (v := some (.int v)) (M' := M) (As := [.int p0]) (st := [.int 0, .ref out]) B hC hX dL_character_4 ⟨vk_character, vi_character, vs_character, vn_X9, vc_character⟩ rfl vy_character ⟨(Nat.le_of_ble_eq_true rfl), (Nat.le_of_ble_eq_true rfl)⟩ (Nat.le_of_ble_eq_true rfl) rfl hl (fun H1 locs1 hP1 hS1 => wr_ret B rfl t5 ht (fun g hg => ⟨g, rfl, fun v' h => by cases h; exact hg⟩) hP1 hS1 15 (by decide) dL_character_7 dL_character_8 dL_character_9 dL_character_15 dL_character_16)
  | inl e0 =>
    obtain ⟨i, hi, rfl⟩ := hk
    match i, hi with
    | 0, hi =>
      cases hi
      exact wr_callX (M' := M) (As := [.int p0]) (st := [.int 0, .ref out]) B hC hX dL_character_4 ⟨vk_character, vi_character, vs_character, vn_X9, vc_character⟩ rfl vy_character ⟨(Nat.le_of_ble_eq_true rfl), (Nat.le_of_ble_eq_true rfl)⟩ (Nat.le_of_ble_eq_true rfl) rfl hl (fun H1 locs1 q ce hP1 hS1 hce hcv hcl => wr_catch B hN (k := 0) (by decide) _ ⟨f, rfl, fun v h => by cases h⟩ hP1 hS1 hce hcv hcl [] ⟨0, 9, 12, 27⟩ [] rfl (fun _ h => absurd h List.not_mem_nil) rfl (by decide) vl_27 vcast_0 (lv_astore_n b1 b2 dL_character_12 rfl hl (Nat.le_of_ble_eq_true rfl) rfl (fun ls' _ => wr_hret B ⟨f, rfl, fun v h => by cases h⟩ hP1 hS1 (by decide) dL_character_13 dL_character_14)))
    | n + 1, hi => simp at hi
theorem cw_undo {Ω : Wd} (l : Launch) (hO : OkW Ω) (hX : LX Ω) (hl0 : l.stackTraces = false) (hT : ThrOk Ω) (hN : NcX Ω) (t5 : Nat) {cL : ClassId} (ht : (wT Ω)[t5]? = some (cL, .long)) {out : Nat} (ho : ∀ i, i < wN Ω → wA Ω i ≠ out) (M : Mem)  (f : Nat → Int64) {rx : Nat ⊕ Int32} {M' : Mem} (hf : fX9_undo M  = some (rx, M')) {k : Int32} (hk : ResK [2] rx k) : CtW l yL_undo (.codeWith yL_undo cL_undo 3 (some .int) [(0, 8, 11, 15)]) 9 181 Ω out [.ref (wA Ω 0), .ref out] M (lc cL f) k M' (EL cL rx) := by
  refine wr_of [(0, .ref (wA Ω 0)), (1, .ref out)] hO ho (by decide +kernel) rfl (Nat.le_of_ble_eq_true rfl) rfl (fun p e s m below meth c B ls hl => ?_)
  have b1 := B.1
  have b2 := B.2.1
  refine lv_aload_n b1 b2 dL_undo_0 rfl (lv_at hl 1 rfl) ?_
  refine lv_iconst (v := 0) b1 b2 dL_undo_1 (by decide) ?_
  refine lv_aload_n b1 b2 dL_undo_2 rfl (lv_at hl 0 rfl) ?_
  have hC := c_X9_undo l hO hX hl0 hT M  _ hf
  cases rx with
  | inr v =>
    have hk0 : k = 0 := hk
    subst hk0
    exact wr_callR (v := some (.int v)) (M' := M') (As := []) (st := [.int 0, .ref out]) B hC hX dL_undo_3 ⟨vk_undo, vi_undo, vs_undo, vn_X9, vc_undo⟩ rfl vy_undo ⟨(Nat.le_of_ble_eq_true rfl), (Nat.le_of_ble_eq_true rfl)⟩ (Nat.le_of_ble_eq_true rfl) rfl hl (fun H1 locs1 hP1 hS1 => wr_ret B rfl t5 ht (fun g hg => ⟨g, rfl, fun v' h => by cases h; exact hg⟩) hP1 hS1 14 (by decide) dL_undo_6 dL_undo_7 dL_undo_8 dL_undo_14 dL_undo_15)
  | inl e0 =>
    obtain ⟨i, hi, rfl⟩ := hk
    match i, hi with
    | 0, hi =>
      cases hi
      exact wr_callX (M' := M') (As := []) (st := [.int 0, .ref out]) B hC hX dL_undo_3 ⟨vk_undo, vi_undo, vs_undo, vn_X9, vc_undo⟩ rfl vy_undo ⟨(Nat.le_of_ble_eq_true rfl), (Nat.le_of_ble_eq_true rfl)⟩ (Nat.le_of_ble_eq_true rfl) rfl hl (fun H1 locs1 q ce hP1 hS1 hce hcv hcl => wr_catch B hN (k := 2) (by decide) _ ⟨f, rfl, fun v h => by cases h⟩ hP1 hS1 hce hcv hcl [] ⟨0, 8, 11, 15⟩ [] rfl (fun _ h => absurd h List.not_mem_nil) rfl (by decide) vl_15 vcast_2 (lv_astore_n b1 b2 dL_undo_11 rfl hl (Nat.le_of_ble_eq_true rfl) rfl (fun ls' _ => wr_hret B ⟨f, rfl, fun v h => by cases h⟩ hP1 hS1 (by decide) dL_undo_12 dL_undo_13)))
    | n + 1, hi => simp at hi
theorem cw_restore {Ω : Wd} (l : Launch) (hO : OkW Ω) (hX : LX Ω) (hl0 : l.stackTraces = false) (hT : ThrOk Ω) (hN : NcX Ω) (t5 : Nat) {cL : ClassId} (ht : (wT Ω)[t5]? = some (cL, .long)) {out : Nat} (ho : ∀ i, i < wN Ω → wA Ω i ≠ out) (M : Mem)  (f : Nat → Int64) {rx : Nat ⊕ Int32} {M' : Mem} (hf : fX9_restore M  = some (rx, M')) {k : Int32} (hk : ResK [2] rx k) : CtW l yL_restore (.codeWith yL_restore cL_restore 3 (some .int) [(0, 8, 11, 15)]) 9 181 Ω out [.ref (wA Ω 0), .ref out] M (lc cL f) k M' (EL cL rx) := by
  refine wr_of [(0, .ref (wA Ω 0)), (1, .ref out)] hO ho (by decide +kernel) rfl (Nat.le_of_ble_eq_true rfl) rfl (fun p e s m below meth c B ls hl => ?_)
  have b1 := B.1
  have b2 := B.2.1
  refine lv_aload_n b1 b2 dL_restore_0 rfl (lv_at hl 1 rfl) ?_
  refine lv_iconst (v := 0) b1 b2 dL_restore_1 (by decide) ?_
  refine lv_aload_n b1 b2 dL_restore_2 rfl (lv_at hl 0 rfl) ?_
  have hC := c_X9_restore l hO hX hl0 hT M  _ hf
  cases rx with
  | inr v =>
    have hk0 : k = 0 := hk
    subst hk0
    exact wr_callR (v := some (.int v)) (M' := M') (As := []) (st := [.int 0, .ref out]) B hC hX dL_restore_3 ⟨vk_restore, vi_restore, vs_restore, vn_X9, vc_restore⟩ rfl vy_restore ⟨(Nat.le_of_ble_eq_true rfl), (Nat.le_of_ble_eq_true rfl)⟩ (Nat.le_of_ble_eq_true rfl) rfl hl (fun H1 locs1 hP1 hS1 => wr_ret B rfl t5 ht (fun g hg => ⟨g, rfl, fun v' h => by cases h; exact hg⟩) hP1 hS1 14 (by decide) dL_restore_6 dL_restore_7 dL_restore_8 dL_restore_14 dL_restore_15)
  | inl e0 =>
    obtain ⟨i, hi, rfl⟩ := hk
    match i, hi with
    | 0, hi =>
      cases hi
      exact wr_callX (M' := M') (As := []) (st := [.int 0, .ref out]) B hC hX dL_restore_3 ⟨vk_restore, vi_restore, vs_restore, vn_X9, vc_restore⟩ rfl vy_restore ⟨(Nat.le_of_ble_eq_true rfl), (Nat.le_of_ble_eq_true rfl)⟩ (Nat.le_of_ble_eq_true rfl) rfl hl (fun H1 locs1 q ce hP1 hS1 hce hcv hcl => wr_catch B hN (k := 2) (by decide) _ ⟨f, rfl, fun v h => by cases h⟩ hP1 hS1 hce hcv hcl [] ⟨0, 8, 11, 15⟩ [] rfl (fun _ h => absurd h List.not_mem_nil) rfl (by decide) vl_15 vcast_2 (lv_astore_n b1 b2 dL_restore_11 rfl hl (Nat.le_of_ble_eq_true rfl) rfl (fun ls' _ => wr_hret B ⟨f, rfl, fun v h => by cases h⟩ hP1 hS1 (by decide) dL_restore_12 dL_restore_13)))
    | n + 1, hi => simp at hi
