theorem dL_cycle_0 : decode cL_cycle 0 = .ok (.aload_n 2, 1) := by decide +kernel
theorem dL_cycle_1 : decode cL_cycle 1 = .ok (.iconst 0, 1) := by decide +kernel
theorem dL_cycle_2 : decode cL_cycle 2 = .ok (.aload_n 0, 1) := by decide +kernel
theorem dL_cycle_3 : decode cL_cycle 3 = .ok (.iload_n 1, 1) := by decide +kernel
theorem dL_cycle_4 : decode cL_cycle 4 = .ok (.invokevirtual 7, 3) := by decide +kernel
theorem dL_cycle_7 : decode cL_cycle 7 = .ok (.i2l, 1) := by decide +kernel
theorem dL_cycle_8 : decode cL_cycle 8 = .ok (.lastore, 1) := by decide +kernel
theorem dL_cycle_9 : decode cL_cycle 9 = .ok (.goto 9, 3) := by decide +kernel
theorem dL_cycle_12 : decode cL_cycle 12 = .ok (.astore_n 3, 1) := by decide +kernel
theorem dL_cycle_13 : decode cL_cycle 13 = .ok (.iconst 1, 1) := by decide +kernel
theorem dL_cycle_14 : decode cL_cycle 14 = .ok (.ireturn, 1) := by decide +kernel
theorem dL_cycle_15 : decode cL_cycle 15 = .ok (.astore_n 3, 1) := by decide +kernel
theorem dL_cycle_16 : decode cL_cycle 16 = .ok (.iconst 2, 1) := by decide +kernel
theorem dL_cycle_17 : decode cL_cycle 17 = .ok (.ireturn, 1) := by decide +kernel
theorem dL_cycle_18 : decode cL_cycle 18 = .ok (.iconst 0, 1) := by decide +kernel
theorem dL_cycle_19 : decode cL_cycle 19 = .ok (.ireturn, 1) := by decide +kernel
theorem dL_speed_0 : decode cL_speed 0 = .ok (.aload_n 2, 1) := by decide +kernel
theorem dL_speed_1 : decode cL_speed 1 = .ok (.iconst 0, 1) := by decide +kernel
theorem dL_speed_2 : decode cL_speed 2 = .ok (.aload_n 0, 1) := by decide +kernel
theorem dL_speed_3 : decode cL_speed 3 = .ok (.iload_n 1, 1) := by decide +kernel
theorem dL_speed_4 : decode cL_speed 4 = .ok (.invokevirtual 17, 3) := by decide +kernel
theorem dL_speed_7 : decode cL_speed 7 = .ok (.i2l, 1) := by decide +kernel
theorem dL_speed_8 : decode cL_speed 8 = .ok (.lastore, 1) := by decide +kernel
theorem dL_speed_9 : decode cL_speed 9 = .ok (.goto 6, 3) := by decide +kernel
theorem dL_speed_12 : decode cL_speed 12 = .ok (.astore_n 3, 1) := by decide +kernel
theorem dL_speed_13 : decode cL_speed 13 = .ok (.iconst 1, 1) := by decide +kernel
theorem dL_speed_14 : decode cL_speed 14 = .ok (.ireturn, 1) := by decide +kernel
theorem dL_speed_15 : decode cL_speed 15 = .ok (.iconst 0, 1) := by decide +kernel
theorem dL_speed_16 : decode cL_speed 16 = .ok (.ireturn, 1) := by decide +kernel
theorem dL_junction_0 : decode cL_junction 0 = .ok (.aload_n 2, 1) := by decide +kernel
theorem dL_junction_1 : decode cL_junction 1 = .ok (.iconst 0, 1) := by decide +kernel
theorem dL_junction_2 : decode cL_junction 2 = .ok (.aload_n 0, 1) := by decide +kernel
theorem dL_junction_3 : decode cL_junction 3 = .ok (.iload_n 1, 1) := by decide +kernel
theorem dL_junction_4 : decode cL_junction 4 = .ok (.invokevirtual 20, 3) := by decide +kernel
theorem dL_junction_7 : decode cL_junction 7 = .ok (.i2l, 1) := by decide +kernel
theorem dL_junction_8 : decode cL_junction 8 = .ok (.lastore, 1) := by decide +kernel
theorem dL_junction_9 : decode cL_junction 9 = .ok (.goto 9, 3) := by decide +kernel
theorem dL_junction_12 : decode cL_junction 12 = .ok (.astore_n 3, 1) := by decide +kernel
theorem dL_junction_13 : decode cL_junction 13 = .ok (.iconst 1, 1) := by decide +kernel
theorem dL_junction_14 : decode cL_junction 14 = .ok (.ireturn, 1) := by decide +kernel
theorem dL_junction_15 : decode cL_junction 15 = .ok (.astore_n 3, 1) := by decide +kernel
theorem dL_junction_16 : decode cL_junction 16 = .ok (.iconst 2, 1) := by decide +kernel
theorem dL_junction_17 : decode cL_junction 17 = .ok (.ireturn, 1) := by decide +kernel
theorem dL_junction_18 : decode cL_junction 18 = .ok (.iconst 0, 1) := by decide +kernel
theorem dL_junction_19 : decode cL_junction 19 = .ok (.ireturn, 1) := by decide +kernel
theorem dL_offset_0 : decode cL_offset 0 = .ok (.aload_n 3, 1) := by decide +kernel
theorem dL_offset_1 : decode cL_offset 1 = .ok (.iconst 0, 1) := by decide +kernel
theorem dL_offset_2 : decode cL_offset 2 = .ok (.aload_n 0, 1) := by decide +kernel
theorem dL_offset_3 : decode cL_offset 3 = .ok (.iload_n 1, 1) := by decide +kernel
theorem dL_offset_4 : decode cL_offset 4 = .ok (.iload_n 2, 1) := by decide +kernel
theorem dL_offset_5 : decode cL_offset 5 = .ok (.invokevirtual 23, 3) := by decide +kernel
theorem dL_offset_8 : decode cL_offset 8 = .ok (.i2l, 1) := by decide +kernel
theorem dL_offset_9 : decode cL_offset 9 = .ok (.lastore, 1) := by decide +kernel
theorem dL_offset_10 : decode cL_offset 10 = .ok (.goto 15, 3) := by decide +kernel
theorem dL_offset_13 : decode cL_offset 13 = .ok (.astore 4, 2) := by decide +kernel
theorem dL_offset_15 : decode cL_offset 15 = .ok (.iconst 1, 1) := by decide +kernel
theorem dL_offset_16 : decode cL_offset 16 = .ok (.ireturn, 1) := by decide +kernel
theorem dL_offset_17 : decode cL_offset 17 = .ok (.astore 4, 2) := by decide +kernel
theorem dL_offset_19 : decode cL_offset 19 = .ok (.iconst 2, 1) := by decide +kernel
theorem dL_offset_20 : decode cL_offset 20 = .ok (.ireturn, 1) := by decide +kernel
theorem dL_offset_21 : decode cL_offset 21 = .ok (.astore 4, 2) := by decide +kernel
theorem dL_offset_23 : decode cL_offset 23 = .ok (.iconst 3, 1) := by decide +kernel
theorem dL_offset_24 : decode cL_offset 24 = .ok (.ireturn, 1) := by decide +kernel
theorem dL_offset_25 : decode cL_offset 25 = .ok (.iconst 0, 1) := by decide +kernel
theorem dL_offset_26 : decode cL_offset 26 = .ok (.ireturn, 1) := by decide +kernel
theorem dL_road_0 : decode cL_road 0 = .ok (.aload 4, 2) := by decide +kernel
theorem dL_road_2 : decode cL_road 2 = .ok (.iconst 0, 1) := by decide +kernel
theorem dL_road_3 : decode cL_road 3 = .ok (.aload_n 0, 1) := by decide +kernel
theorem dL_road_4 : decode cL_road 4 = .ok (.iload_n 1, 1) := by decide +kernel
theorem dL_road_5 : decode cL_road 5 = .ok (.iload_n 2, 1) := by decide +kernel
theorem dL_road_6 : decode cL_road 6 = .ok (.iload_n 3, 1) := by decide +kernel
theorem dL_road_7 : decode cL_road 7 = .ok (.invokevirtual 29, 3) := by decide +kernel
theorem dL_road_10 : decode cL_road 10 = .ok (.i2l, 1) := by decide +kernel
theorem dL_road_11 : decode cL_road 11 = .ok (.lastore, 1) := by decide +kernel
theorem dL_road_12 : decode cL_road 12 = .ok (.goto 7, 3) := by decide +kernel
theorem dL_road_15 : decode cL_road 15 = .ok (.astore 5, 2) := by decide +kernel
theorem dL_road_17 : decode cL_road 17 = .ok (.iconst 1, 1) := by decide +kernel
theorem dL_road_18 : decode cL_road 18 = .ok (.ireturn, 1) := by decide +kernel
theorem dL_road_19 : decode cL_road 19 = .ok (.iconst 0, 1) := by decide +kernel
theorem dL_road_20 : decode cL_road 20 = .ok (.ireturn, 1) := by decide +kernel
theorem dL_told_0 : decode cL_told 0 = .ok (.aload_n 3, 1) := by decide +kernel
theorem dL_told_1 : decode cL_told 1 = .ok (.iconst 0, 1) := by decide +kernel
theorem dL_told_2 : decode cL_told 2 = .ok (.aload_n 0, 1) := by decide +kernel
theorem dL_told_3 : decode cL_told 3 = .ok (.iload_n 1, 1) := by decide +kernel
theorem dL_told_4 : decode cL_told 4 = .ok (.iload_n 2, 1) := by decide +kernel
theorem dL_told_5 : decode cL_told 5 = .ok (.invokevirtual 33, 3) := by decide +kernel
theorem dL_told_8 : decode cL_told 8 = .ok (.i2l, 1) := by decide +kernel
theorem dL_told_9 : decode cL_told 9 = .ok (.lastore, 1) := by decide +kernel
theorem dL_told_10 : decode cL_told 10 = .ok (.goto 11, 3) := by decide +kernel
theorem dL_told_13 : decode cL_told 13 = .ok (.astore 4, 2) := by decide +kernel
theorem dL_told_15 : decode cL_told 15 = .ok (.iconst 1, 1) := by decide +kernel
theorem dL_told_16 : decode cL_told 16 = .ok (.ireturn, 1) := by decide +kernel
theorem dL_told_17 : decode cL_told 17 = .ok (.astore 4, 2) := by decide +kernel
theorem dL_told_19 : decode cL_told 19 = .ok (.iconst 2, 1) := by decide +kernel
theorem dL_told_20 : decode cL_told 20 = .ok (.ireturn, 1) := by decide +kernel
theorem dL_told_21 : decode cL_told 21 = .ok (.iconst 0, 1) := by decide +kernel
theorem dL_told_22 : decode cL_told 22 = .ok (.ireturn, 1) := by decide +kernel
theorem dL_group_0 : decode cL_group 0 = .ok (.aload 5, 2) := by decide +kernel
theorem dL_group_2 : decode cL_group 2 = .ok (.iconst 0, 1) := by decide +kernel
theorem dL_group_3 : decode cL_group 3 = .ok (.aload_n 0, 1) := by decide +kernel
theorem dL_group_4 : decode cL_group 4 = .ok (.iload_n 1, 1) := by decide +kernel
theorem dL_group_5 : decode cL_group 5 = .ok (.iload_n 2, 1) := by decide +kernel
theorem dL_group_6 : decode cL_group 6 = .ok (.iload_n 3, 1) := by decide +kernel
theorem dL_group_7 : decode cL_group 7 = .ok (.iload 4, 2) := by decide +kernel
theorem dL_group_9 : decode cL_group 9 = .ok (.invokevirtual 36, 3) := by decide +kernel
theorem dL_group_12 : decode cL_group 12 = .ok (.i2l, 1) := by decide +kernel
theorem dL_group_13 : decode cL_group 13 = .ok (.lastore, 1) := by decide +kernel
theorem dL_group_14 : decode cL_group 14 = .ok (.goto 15, 3) := by decide +kernel
theorem dL_group_17 : decode cL_group 17 = .ok (.astore 6, 2) := by decide +kernel
theorem dL_group_19 : decode cL_group 19 = .ok (.iconst 1, 1) := by decide +kernel
theorem dL_group_20 : decode cL_group 20 = .ok (.ireturn, 1) := by decide +kernel
theorem dL_group_21 : decode cL_group 21 = .ok (.astore 6, 2) := by decide +kernel
theorem dL_group_23 : decode cL_group 23 = .ok (.iconst 2, 1) := by decide +kernel
theorem dL_group_24 : decode cL_group 24 = .ok (.ireturn, 1) := by decide +kernel
theorem dL_group_25 : decode cL_group 25 = .ok (.astore 6, 2) := by decide +kernel
theorem dL_group_27 : decode cL_group 27 = .ok (.iconst 3, 1) := by decide +kernel
theorem dL_group_28 : decode cL_group 28 = .ok (.ireturn, 1) := by decide +kernel
theorem dL_group_29 : decode cL_group 29 = .ok (.iconst 0, 1) := by decide +kernel
theorem dL_group_30 : decode cL_group 30 = .ok (.ireturn, 1) := by decide +kernel
theorem dL_groupTold_0 : decode cL_groupTold 0 = .ok (.aload 4, 2) := by decide +kernel
theorem dL_groupTold_2 : decode cL_groupTold 2 = .ok (.iconst 0, 1) := by decide +kernel
theorem dL_groupTold_3 : decode cL_groupTold 3 = .ok (.aload_n 0, 1) := by decide +kernel
theorem dL_groupTold_4 : decode cL_groupTold 4 = .ok (.iload_n 1, 1) := by decide +kernel
theorem dL_groupTold_5 : decode cL_groupTold 5 = .ok (.iload_n 2, 1) := by decide +kernel
theorem dL_groupTold_6 : decode cL_groupTold 6 = .ok (.iload_n 3, 1) := by decide +kernel
theorem dL_groupTold_7 : decode cL_groupTold 7 = .ok (.invokevirtual 40, 3) := by decide +kernel
theorem dL_groupTold_10 : decode cL_groupTold 10 = .ok (.i2l, 1) := by decide +kernel
theorem dL_groupTold_11 : decode cL_groupTold 11 = .ok (.lastore, 1) := by decide +kernel
theorem dL_groupTold_12 : decode cL_groupTold 12 = .ok (.goto 11, 3) := by decide +kernel
theorem dL_groupTold_15 : decode cL_groupTold 15 = .ok (.astore 5, 2) := by decide +kernel
theorem dL_groupTold_17 : decode cL_groupTold 17 = .ok (.iconst 1, 1) := by decide +kernel
theorem dL_groupTold_18 : decode cL_groupTold 18 = .ok (.ireturn, 1) := by decide +kernel
theorem dL_groupTold_19 : decode cL_groupTold 19 = .ok (.astore 5, 2) := by decide +kernel
theorem dL_groupTold_21 : decode cL_groupTold 21 = .ok (.iconst 2, 1) := by decide +kernel
theorem dL_groupTold_22 : decode cL_groupTold 22 = .ok (.ireturn, 1) := by decide +kernel
theorem dL_groupTold_23 : decode cL_groupTold 23 = .ok (.iconst 0, 1) := by decide +kernel
theorem dL_groupTold_24 : decode cL_groupTold 24 = .ok (.ireturn, 1) := by decide +kernel
theorem dL_conflict_0 : decode cL_conflict 0 = .ok (.aload 6, 2) := by decide +kernel
theorem dL_conflict_2 : decode cL_conflict 2 = .ok (.iconst 0, 1) := by decide +kernel
theorem dL_conflict_3 : decode cL_conflict 3 = .ok (.aload_n 0, 1) := by decide +kernel
theorem dL_conflict_4 : decode cL_conflict 4 = .ok (.iload_n 1, 1) := by decide +kernel
theorem dL_conflict_5 : decode cL_conflict 5 = .ok (.iload_n 2, 1) := by decide +kernel
theorem dL_conflict_6 : decode cL_conflict 6 = .ok (.iload_n 3, 1) := by decide +kernel
theorem dL_conflict_7 : decode cL_conflict 7 = .ok (.iload 4, 2) := by decide +kernel
theorem dL_conflict_9 : decode cL_conflict 9 = .ok (.iload 5, 2) := by decide +kernel
theorem dL_conflict_11 : decode cL_conflict 11 = .ok (.invokevirtual 43, 3) := by decide +kernel
theorem dL_conflict_14 : decode cL_conflict 14 = .ok (.i2l, 1) := by decide +kernel
theorem dL_conflict_15 : decode cL_conflict 15 = .ok (.lastore, 1) := by decide +kernel
theorem dL_conflict_16 : decode cL_conflict 16 = .ok (.goto 19, 3) := by decide +kernel
theorem dL_conflict_19 : decode cL_conflict 19 = .ok (.astore 7, 2) := by decide +kernel
theorem dL_conflict_21 : decode cL_conflict 21 = .ok (.iconst 1, 1) := by decide +kernel
theorem dL_conflict_22 : decode cL_conflict 22 = .ok (.ireturn, 1) := by decide +kernel
theorem dL_conflict_23 : decode cL_conflict 23 = .ok (.astore 7, 2) := by decide +kernel
theorem dL_conflict_25 : decode cL_conflict 25 = .ok (.iconst 2, 1) := by decide +kernel
theorem dL_conflict_26 : decode cL_conflict 26 = .ok (.ireturn, 1) := by decide +kernel
theorem dL_conflict_27 : decode cL_conflict 27 = .ok (.astore 7, 2) := by decide +kernel
theorem dL_conflict_29 : decode cL_conflict 29 = .ok (.iconst 3, 1) := by decide +kernel
theorem dL_conflict_30 : decode cL_conflict 30 = .ok (.ireturn, 1) := by decide +kernel
theorem dL_conflict_31 : decode cL_conflict 31 = .ok (.astore 7, 2) := by decide +kernel
theorem dL_conflict_33 : decode cL_conflict 33 = .ok (.iconst 4, 1) := by decide +kernel
theorem dL_conflict_34 : decode cL_conflict 34 = .ok (.ireturn, 1) := by decide +kernel
theorem dL_conflict_35 : decode cL_conflict 35 = .ok (.iconst 0, 1) := by decide +kernel
theorem dL_conflict_36 : decode cL_conflict 36 = .ok (.ireturn, 1) := by decide +kernel
theorem dL_peace_0 : decode cL_peace 0 = .ok (.aload 4, 2) := by decide +kernel
theorem dL_peace_2 : decode cL_peace 2 = .ok (.iconst 0, 1) := by decide +kernel
theorem dL_peace_3 : decode cL_peace 3 = .ok (.aload_n 0, 1) := by decide +kernel
theorem dL_peace_4 : decode cL_peace 4 = .ok (.iload_n 1, 1) := by decide +kernel
theorem dL_peace_5 : decode cL_peace 5 = .ok (.iload_n 2, 1) := by decide +kernel
theorem dL_peace_6 : decode cL_peace 6 = .ok (.iload_n 3, 1) := by decide +kernel
theorem dL_peace_7 : decode cL_peace 7 = .ok (.invokevirtual 49, 3) := by decide +kernel
theorem dL_peace_10 : decode cL_peace 10 = .ok (.i2l, 1) := by decide +kernel
theorem dL_peace_11 : decode cL_peace 11 = .ok (.lastore, 1) := by decide +kernel
theorem dL_peace_12 : decode cL_peace 12 = .ok (.goto 11, 3) := by decide +kernel
theorem dL_peace_15 : decode cL_peace 15 = .ok (.astore 5, 2) := by decide +kernel
theorem dL_peace_17 : decode cL_peace 17 = .ok (.iconst 1, 1) := by decide +kernel
theorem dL_peace_18 : decode cL_peace 18 = .ok (.ireturn, 1) := by decide +kernel
theorem dL_peace_19 : decode cL_peace 19 = .ok (.astore 5, 2) := by decide +kernel
theorem dL_peace_21 : decode cL_peace 21 = .ok (.iconst 2, 1) := by decide +kernel
theorem dL_peace_22 : decode cL_peace 22 = .ok (.ireturn, 1) := by decide +kernel
theorem dL_peace_23 : decode cL_peace 23 = .ok (.iconst 0, 1) := by decide +kernel
theorem dL_peace_24 : decode cL_peace 24 = .ok (.ireturn, 1) := by decide +kernel
theorem dL_clearance_0 : decode cL_clearance 0 = .ok (.aload 4, 2) := by decide +kernel
theorem dL_clearance_2 : decode cL_clearance 2 = .ok (.iconst 0, 1) := by decide +kernel
theorem dL_clearance_3 : decode cL_clearance 3 = .ok (.aload_n 0, 1) := by decide +kernel
theorem dL_clearance_4 : decode cL_clearance 4 = .ok (.iload_n 1, 1) := by decide +kernel
theorem dL_clearance_5 : decode cL_clearance 5 = .ok (.iload_n 2, 1) := by decide +kernel
theorem dL_clearance_6 : decode cL_clearance 6 = .ok (.iload_n 3, 1) := by decide +kernel
theorem dL_clearance_7 : decode cL_clearance 7 = .ok (.invokevirtual 54, 3) := by decide +kernel
theorem dL_clearance_10 : decode cL_clearance 10 = .ok (.i2l, 1) := by decide +kernel
theorem dL_clearance_11 : decode cL_clearance 11 = .ok (.lastore, 1) := by decide +kernel
theorem dL_clearance_12 : decode cL_clearance 12 = .ok (.goto 7, 3) := by decide +kernel
theorem dL_clearance_15 : decode cL_clearance 15 = .ok (.astore 5, 2) := by decide +kernel
theorem dL_clearance_17 : decode cL_clearance 17 = .ok (.iconst 1, 1) := by decide +kernel
theorem dL_clearance_18 : decode cL_clearance 18 = .ok (.ireturn, 1) := by decide +kernel
theorem dL_clearance_19 : decode cL_clearance 19 = .ok (.iconst 0, 1) := by decide +kernel
theorem dL_clearance_20 : decode cL_clearance 20 = .ok (.ireturn, 1) := by decide +kernel
theorem dL_green_0 : decode cL_green 0 = .ok (.aload 6, 2) := by decide +kernel
theorem dL_green_2 : decode cL_green 2 = .ok (.iconst 0, 1) := by decide +kernel
theorem dL_green_3 : decode cL_green 3 = .ok (.aload_n 0, 1) := by decide +kernel
theorem dL_green_4 : decode cL_green 4 = .ok (.iload_n 1, 1) := by decide +kernel
theorem dL_green_5 : decode cL_green 5 = .ok (.iload_n 2, 1) := by decide +kernel
theorem dL_green_6 : decode cL_green 6 = .ok (.iload_n 3, 1) := by decide +kernel
theorem dL_green_7 : decode cL_green 7 = .ok (.iload 4, 2) := by decide +kernel
theorem dL_green_9 : decode cL_green 9 = .ok (.iload 5, 2) := by decide +kernel
theorem dL_green_11 : decode cL_green 11 = .ok (.invokevirtual 57, 3) := by decide +kernel
theorem dL_green_14 : decode cL_green 14 = .ok (.i2l, 1) := by decide +kernel
theorem dL_green_15 : decode cL_green 15 = .ok (.lastore, 1) := by decide +kernel
theorem dL_green_16 : decode cL_green 16 = .ok (.goto 19, 3) := by decide +kernel
theorem dL_green_19 : decode cL_green 19 = .ok (.astore 7, 2) := by decide +kernel
theorem dL_green_21 : decode cL_green 21 = .ok (.iconst 1, 1) := by decide +kernel
theorem dL_green_22 : decode cL_green 22 = .ok (.ireturn, 1) := by decide +kernel
theorem dL_green_23 : decode cL_green 23 = .ok (.astore 7, 2) := by decide +kernel
theorem dL_green_25 : decode cL_green 25 = .ok (.iconst 2, 1) := by decide +kernel
theorem dL_green_26 : decode cL_green 26 = .ok (.ireturn, 1) := by decide +kernel
theorem dL_green_27 : decode cL_green 27 = .ok (.astore 7, 2) := by decide +kernel
theorem dL_green_29 : decode cL_green 29 = .ok (.iconst 3, 1) := by decide +kernel
theorem dL_green_30 : decode cL_green 30 = .ok (.ireturn, 1) := by decide +kernel
theorem dL_green_31 : decode cL_green 31 = .ok (.astore 7, 2) := by decide +kernel
theorem dL_green_33 : decode cL_green 33 = .ok (.iconst 4, 1) := by decide +kernel
theorem dL_green_34 : decode cL_green 34 = .ok (.ireturn, 1) := by decide +kernel
theorem dL_green_35 : decode cL_green 35 = .ok (.iconst 0, 1) := by decide +kernel
theorem dL_green_36 : decode cL_green 36 = .ok (.ireturn, 1) := by decide +kernel
theorem dL_hinders_0 : decode cL_hinders 0 = .ok (.aload 6, 2) := by decide +kernel
theorem dL_hinders_2 : decode cL_hinders 2 = .ok (.iconst 0, 1) := by decide +kernel
theorem dL_hinders_3 : decode cL_hinders 3 = .ok (.aload_n 0, 1) := by decide +kernel
theorem dL_hinders_4 : decode cL_hinders 4 = .ok (.iload_n 1, 1) := by decide +kernel
theorem dL_hinders_5 : decode cL_hinders 5 = .ok (.iload_n 2, 1) := by decide +kernel
theorem dL_hinders_6 : decode cL_hinders 6 = .ok (.iload_n 3, 1) := by decide +kernel
theorem dL_hinders_7 : decode cL_hinders 7 = .ok (.iload 4, 2) := by decide +kernel
theorem dL_hinders_9 : decode cL_hinders 9 = .ok (.iload 5, 2) := by decide +kernel
theorem dL_hinders_11 : decode cL_hinders 11 = .ok (.invokevirtual 60, 3) := by decide +kernel
theorem dL_hinders_14 : decode cL_hinders 14 = .ok (.i2l, 1) := by decide +kernel
theorem dL_hinders_15 : decode cL_hinders 15 = .ok (.lastore, 1) := by decide +kernel
theorem dL_hinders_16 : decode cL_hinders 16 = .ok (.goto 11, 3) := by decide +kernel
theorem dL_hinders_19 : decode cL_hinders 19 = .ok (.astore 7, 2) := by decide +kernel
theorem dL_hinders_21 : decode cL_hinders 21 = .ok (.iconst 1, 1) := by decide +kernel
theorem dL_hinders_22 : decode cL_hinders 22 = .ok (.ireturn, 1) := by decide +kernel
theorem dL_hinders_23 : decode cL_hinders 23 = .ok (.astore 7, 2) := by decide +kernel
theorem dL_hinders_25 : decode cL_hinders 25 = .ok (.iconst 2, 1) := by decide +kernel
theorem dL_hinders_26 : decode cL_hinders 26 = .ok (.ireturn, 1) := by decide +kernel
theorem dL_hinders_27 : decode cL_hinders 27 = .ok (.iconst 0, 1) := by decide +kernel
theorem dL_hinders_28 : decode cL_hinders 28 = .ok (.ireturn, 1) := by decide +kernel
theorem dL_dark_0 : decode cL_dark 0 = .ok (.aload 4, 2) := by decide +kernel
theorem dL_dark_2 : decode cL_dark 2 = .ok (.iconst 0, 1) := by decide +kernel
theorem dL_dark_3 : decode cL_dark 3 = .ok (.aload_n 0, 1) := by decide +kernel
theorem dL_dark_4 : decode cL_dark 4 = .ok (.iload_n 1, 1) := by decide +kernel
theorem dL_dark_5 : decode cL_dark 5 = .ok (.iload_n 2, 1) := by decide +kernel
theorem dL_dark_6 : decode cL_dark 6 = .ok (.iload_n 3, 1) := by decide +kernel
theorem dL_dark_7 : decode cL_dark 7 = .ok (.invokevirtual 63, 3) := by decide +kernel
theorem dL_dark_10 : decode cL_dark 10 = .ok (.i2l, 1) := by decide +kernel
theorem dL_dark_11 : decode cL_dark 11 = .ok (.lastore, 1) := by decide +kernel
theorem dL_dark_12 : decode cL_dark 12 = .ok (.goto 11, 3) := by decide +kernel
theorem dL_dark_15 : decode cL_dark 15 = .ok (.astore 5, 2) := by decide +kernel
theorem dL_dark_17 : decode cL_dark 17 = .ok (.iconst 1, 1) := by decide +kernel
theorem dL_dark_18 : decode cL_dark 18 = .ok (.ireturn, 1) := by decide +kernel
theorem dL_dark_19 : decode cL_dark 19 = .ok (.astore 5, 2) := by decide +kernel
theorem dL_dark_21 : decode cL_dark 21 = .ok (.iconst 2, 1) := by decide +kernel
theorem dL_dark_22 : decode cL_dark 22 = .ok (.ireturn, 1) := by decide +kernel
theorem dL_dark_23 : decode cL_dark 23 = .ok (.iconst 0, 1) := by decide +kernel
theorem dL_dark_24 : decode cL_dark 24 = .ok (.ireturn, 1) := by decide +kernel
theorem dL_make_0 : decode cL_make 0 = .ok (.aload_n 3, 1) := by decide +kernel
theorem dL_make_1 : decode cL_make 1 = .ok (.iconst 0, 1) := by decide +kernel
theorem dL_make_2 : decode cL_make 2 = .ok (.aload_n 0, 1) := by decide +kernel
theorem dL_make_3 : decode cL_make 3 = .ok (.iload_n 1, 1) := by decide +kernel
theorem dL_make_4 : decode cL_make 4 = .ok (.iload_n 2, 1) := by decide +kernel
theorem dL_make_5 : decode cL_make 5 = .ok (.invokevirtual 66, 3) := by decide +kernel
theorem dL_make_8 : decode cL_make 8 = .ok (.i2l, 1) := by decide +kernel
theorem dL_make_9 : decode cL_make 9 = .ok (.lastore, 1) := by decide +kernel
theorem dL_make_10 : decode cL_make 10 = .ok (.goto 15, 3) := by decide +kernel
theorem dL_make_13 : decode cL_make 13 = .ok (.astore 4, 2) := by decide +kernel
theorem dL_make_15 : decode cL_make 15 = .ok (.iconst 1, 1) := by decide +kernel
theorem dL_make_16 : decode cL_make 16 = .ok (.ireturn, 1) := by decide +kernel
theorem dL_make_17 : decode cL_make 17 = .ok (.astore 4, 2) := by decide +kernel
theorem dL_make_19 : decode cL_make 19 = .ok (.iconst 2, 1) := by decide +kernel
theorem dL_make_20 : decode cL_make 20 = .ok (.ireturn, 1) := by decide +kernel
theorem dL_make_21 : decode cL_make 21 = .ok (.astore 4, 2) := by decide +kernel
theorem dL_make_23 : decode cL_make 23 = .ok (.iconst 3, 1) := by decide +kernel
theorem dL_make_24 : decode cL_make 24 = .ok (.ireturn, 1) := by decide +kernel
theorem dL_make_25 : decode cL_make 25 = .ok (.iconst 0, 1) := by decide +kernel
theorem dL_make_26 : decode cL_make 26 = .ok (.ireturn, 1) := by decide +kernel
theorem dL_phase_0 : decode cL_phase 0 = .ok (.aload_n 3, 1) := by decide +kernel
theorem dL_phase_1 : decode cL_phase 1 = .ok (.iconst 0, 1) := by decide +kernel
theorem dL_phase_2 : decode cL_phase 2 = .ok (.aload_n 0, 1) := by decide +kernel
theorem dL_phase_3 : decode cL_phase 3 = .ok (.iload_n 1, 1) := by decide +kernel
theorem dL_phase_4 : decode cL_phase 4 = .ok (.iload_n 2, 1) := by decide +kernel
theorem dL_phase_5 : decode cL_phase 5 = .ok (.invokevirtual 69, 3) := by decide +kernel
theorem dL_phase_8 : decode cL_phase 8 = .ok (.i2l, 1) := by decide +kernel
theorem dL_phase_9 : decode cL_phase 9 = .ok (.lastore, 1) := by decide +kernel
theorem dL_phase_10 : decode cL_phase 10 = .ok (.goto 7, 3) := by decide +kernel
theorem dL_phase_13 : decode cL_phase 13 = .ok (.astore 4, 2) := by decide +kernel
theorem dL_phase_15 : decode cL_phase 15 = .ok (.iconst 1, 1) := by decide +kernel
theorem dL_phase_16 : decode cL_phase 16 = .ok (.ireturn, 1) := by decide +kernel
theorem dL_phase_17 : decode cL_phase 17 = .ok (.iconst 0, 1) := by decide +kernel
theorem dL_phase_18 : decode cL_phase 18 = .ok (.ireturn, 1) := by decide +kernel
theorem dL_greenOf_0 : decode cL_greenOf 0 = .ok (.aload 5, 2) := by decide +kernel
theorem dL_greenOf_2 : decode cL_greenOf 2 = .ok (.iconst 0, 1) := by decide +kernel
theorem dL_greenOf_3 : decode cL_greenOf 3 = .ok (.aload_n 0, 1) := by decide +kernel
theorem dL_greenOf_4 : decode cL_greenOf 4 = .ok (.iload_n 1, 1) := by decide +kernel
theorem dL_greenOf_5 : decode cL_greenOf 5 = .ok (.iload_n 2, 1) := by decide +kernel
theorem dL_greenOf_6 : decode cL_greenOf 6 = .ok (.iload_n 3, 1) := by decide +kernel
theorem dL_greenOf_7 : decode cL_greenOf 7 = .ok (.iload 4, 2) := by decide +kernel
theorem dL_greenOf_9 : decode cL_greenOf 9 = .ok (.invokevirtual 72, 3) := by decide +kernel
theorem dL_greenOf_12 : decode cL_greenOf 12 = .ok (.i2l, 1) := by decide +kernel
theorem dL_greenOf_13 : decode cL_greenOf 13 = .ok (.lastore, 1) := by decide +kernel
theorem dL_greenOf_14 : decode cL_greenOf 14 = .ok (.goto 11, 3) := by decide +kernel
theorem dL_greenOf_17 : decode cL_greenOf 17 = .ok (.astore 6, 2) := by decide +kernel
theorem dL_greenOf_19 : decode cL_greenOf 19 = .ok (.iconst 1, 1) := by decide +kernel
theorem dL_greenOf_20 : decode cL_greenOf 20 = .ok (.ireturn, 1) := by decide +kernel
theorem dL_greenOf_21 : decode cL_greenOf 21 = .ok (.astore 6, 2) := by decide +kernel
theorem dL_greenOf_23 : decode cL_greenOf 23 = .ok (.iconst 2, 1) := by decide +kernel
theorem dL_greenOf_24 : decode cL_greenOf 24 = .ok (.ireturn, 1) := by decide +kernel
theorem dL_greenOf_25 : decode cL_greenOf 25 = .ok (.iconst 0, 1) := by decide +kernel
theorem dL_greenOf_26 : decode cL_greenOf 26 = .ok (.ireturn, 1) := by decide +kernel
theorem dL_shows_0 : decode cL_shows 0 = .ok (.aload 4, 2) := by decide +kernel
theorem dL_shows_2 : decode cL_shows 2 = .ok (.iconst 0, 1) := by decide +kernel
theorem dL_shows_3 : decode cL_shows 3 = .ok (.aload_n 0, 1) := by decide +kernel
theorem dL_shows_4 : decode cL_shows 4 = .ok (.iload_n 1, 1) := by decide +kernel
theorem dL_shows_5 : decode cL_shows 5 = .ok (.iload_n 2, 1) := by decide +kernel
theorem dL_shows_6 : decode cL_shows 6 = .ok (.iload_n 3, 1) := by decide +kernel
theorem dL_shows_7 : decode cL_shows 7 = .ok (.invokevirtual 75, 3) := by decide +kernel
theorem dL_shows_10 : decode cL_shows 10 = .ok (.i2l, 1) := by decide +kernel
theorem dL_shows_11 : decode cL_shows 11 = .ok (.lastore, 1) := by decide +kernel
theorem dL_shows_12 : decode cL_shows 12 = .ok (.goto 11, 3) := by decide +kernel
theorem dL_shows_15 : decode cL_shows 15 = .ok (.astore 5, 2) := by decide +kernel
theorem dL_shows_17 : decode cL_shows 17 = .ok (.iconst 1, 1) := by decide +kernel
theorem dL_shows_18 : decode cL_shows 18 = .ok (.ireturn, 1) := by decide +kernel
theorem dL_shows_19 : decode cL_shows 19 = .ok (.astore 5, 2) := by decide +kernel
theorem dL_shows_21 : decode cL_shows 21 = .ok (.iconst 2, 1) := by decide +kernel
theorem dL_shows_22 : decode cL_shows 22 = .ok (.ireturn, 1) := by decide +kernel
theorem dL_shows_23 : decode cL_shows 23 = .ok (.iconst 0, 1) := by decide +kernel
theorem dL_shows_24 : decode cL_shows 24 = .ok (.ireturn, 1) := by decide +kernel
theorem dL_picture_0 : decode cL_picture 0 = .ok (.aload 4, 2) := by decide +kernel
theorem dL_picture_2 : decode cL_picture 2 = .ok (.iconst 0, 1) := by decide +kernel
theorem dL_picture_3 : decode cL_picture 3 = .ok (.aload_n 0, 1) := by decide +kernel
theorem dL_picture_4 : decode cL_picture 4 = .ok (.iload_n 1, 1) := by decide +kernel
theorem dL_picture_5 : decode cL_picture 5 = .ok (.iload_n 2, 1) := by decide +kernel
theorem dL_picture_6 : decode cL_picture 6 = .ok (.iload_n 3, 1) := by decide +kernel
theorem dL_picture_7 : decode cL_picture 7 = .ok (.invokevirtual 78, 3) := by decide +kernel
theorem dL_picture_10 : decode cL_picture 10 = .ok (.i2l, 1) := by decide +kernel
theorem dL_picture_11 : decode cL_picture 11 = .ok (.lastore, 1) := by decide +kernel
theorem dL_picture_12 : decode cL_picture 12 = .ok (.goto 11, 3) := by decide +kernel
theorem dL_picture_15 : decode cL_picture 15 = .ok (.astore 5, 2) := by decide +kernel
theorem dL_picture_17 : decode cL_picture 17 = .ok (.iconst 1, 1) := by decide +kernel
theorem dL_picture_18 : decode cL_picture 18 = .ok (.ireturn, 1) := by decide +kernel
theorem dL_picture_19 : decode cL_picture 19 = .ok (.astore 5, 2) := by decide +kernel
theorem dL_picture_21 : decode cL_picture 21 = .ok (.iconst 2, 1) := by decide +kernel
theorem dL_picture_22 : decode cL_picture 22 = .ok (.ireturn, 1) := by decide +kernel
theorem dL_picture_23 : decode cL_picture 23 = .ok (.iconst 0, 1) := by decide +kernel
theorem dL_picture_24 : decode cL_picture 24 = .ok (.ireturn, 1) := by decide +kernel
theorem dL_refusal_0 : decode cL_refusal 0 = .ok (.aload_n 1, 1) := by decide +kernel
theorem dL_refusal_1 : decode cL_refusal 1 = .ok (.iconst 0, 1) := by decide +kernel
theorem dL_refusal_2 : decode cL_refusal 2 = .ok (.aload_n 0, 1) := by decide +kernel
theorem dL_refusal_3 : decode cL_refusal 3 = .ok (.invokevirtual 81, 3) := by decide +kernel
theorem dL_refusal_6 : decode cL_refusal 6 = .ok (.i2l, 1) := by decide +kernel
theorem dL_refusal_7 : decode cL_refusal 7 = .ok (.lastore, 1) := by decide +kernel
theorem dL_refusal_8 : decode cL_refusal 8 = .ok (.goto 6, 3) := by decide +kernel
theorem dL_refusal_11 : decode cL_refusal 11 = .ok (.astore_n 2, 1) := by decide +kernel
theorem dL_refusal_12 : decode cL_refusal 12 = .ok (.iconst 1, 1) := by decide +kernel
theorem dL_refusal_13 : decode cL_refusal 13 = .ok (.ireturn, 1) := by decide +kernel
theorem dL_refusal_14 : decode cL_refusal 14 = .ok (.iconst 0, 1) := by decide +kernel
theorem dL_refusal_15 : decode cL_refusal 15 = .ok (.ireturn, 1) := by decide +kernel
theorem dL_trip_0 : decode cL_trip 0 = .ok (.aload 4, 2) := by decide +kernel
theorem dL_trip_2 : decode cL_trip 2 = .ok (.iconst 0, 1) := by decide +kernel
theorem dL_trip_3 : decode cL_trip 3 = .ok (.aload_n 0, 1) := by decide +kernel
theorem dL_trip_4 : decode cL_trip 4 = .ok (.iload_n 1, 1) := by decide +kernel
theorem dL_trip_5 : decode cL_trip 5 = .ok (.iload_n 2, 1) := by decide +kernel
theorem dL_trip_6 : decode cL_trip 6 = .ok (.iload_n 3, 1) := by decide +kernel
theorem dL_trip_7 : decode cL_trip 7 = .ok (.invokevirtual 85, 3) := by decide +kernel
theorem dL_trip_10 : decode cL_trip 10 = .ok (.i2l, 1) := by decide +kernel
theorem dL_trip_11 : decode cL_trip 11 = .ok (.lastore, 1) := by decide +kernel
theorem dL_trip_12 : decode cL_trip 12 = .ok (.goto 11, 3) := by decide +kernel
theorem dL_trip_15 : decode cL_trip 15 = .ok (.astore 5, 2) := by decide +kernel
theorem dL_trip_17 : decode cL_trip 17 = .ok (.iconst 1, 1) := by decide +kernel
theorem dL_trip_18 : decode cL_trip 18 = .ok (.ireturn, 1) := by decide +kernel
theorem dL_trip_19 : decode cL_trip 19 = .ok (.astore 5, 2) := by decide +kernel
theorem dL_trip_21 : decode cL_trip 21 = .ok (.iconst 2, 1) := by decide +kernel
theorem dL_trip_22 : decode cL_trip 22 = .ok (.ireturn, 1) := by decide +kernel
theorem dL_trip_23 : decode cL_trip 23 = .ok (.iconst 0, 1) := by decide +kernel
theorem dL_trip_24 : decode cL_trip 24 = .ok (.ireturn, 1) := by decide +kernel
theorem dL_tripAgain_0 : decode cL_tripAgain 0 = .ok (.aload_n 3, 1) := by decide +kernel
theorem dL_tripAgain_1 : decode cL_tripAgain 1 = .ok (.iconst 0, 1) := by decide +kernel
theorem dL_tripAgain_2 : decode cL_tripAgain 2 = .ok (.aload_n 0, 1) := by decide +kernel
theorem dL_tripAgain_3 : decode cL_tripAgain 3 = .ok (.iload_n 1, 1) := by decide +kernel
theorem dL_tripAgain_4 : decode cL_tripAgain 4 = .ok (.iload_n 2, 1) := by decide +kernel
theorem dL_tripAgain_5 : decode cL_tripAgain 5 = .ok (.invokevirtual 88, 3) := by decide +kernel
theorem dL_tripAgain_8 : decode cL_tripAgain 8 = .ok (.i2l, 1) := by decide +kernel
theorem dL_tripAgain_9 : decode cL_tripAgain 9 = .ok (.lastore, 1) := by decide +kernel
theorem dL_tripAgain_10 : decode cL_tripAgain 10 = .ok (.goto 11, 3) := by decide +kernel
theorem dL_tripAgain_13 : decode cL_tripAgain 13 = .ok (.astore 4, 2) := by decide +kernel
theorem dL_tripAgain_15 : decode cL_tripAgain 15 = .ok (.iconst 1, 1) := by decide +kernel
theorem dL_tripAgain_16 : decode cL_tripAgain 16 = .ok (.ireturn, 1) := by decide +kernel
theorem dL_tripAgain_17 : decode cL_tripAgain 17 = .ok (.astore 4, 2) := by decide +kernel
theorem dL_tripAgain_19 : decode cL_tripAgain 19 = .ok (.iconst 2, 1) := by decide +kernel
theorem dL_tripAgain_20 : decode cL_tripAgain 20 = .ok (.ireturn, 1) := by decide +kernel
theorem dL_tripAgain_21 : decode cL_tripAgain 21 = .ok (.iconst 0, 1) := by decide +kernel
theorem dL_tripAgain_22 : decode cL_tripAgain 22 = .ok (.ireturn, 1) := by decide +kernel
theorem dL_band_0 : decode cL_band 0 = .ok (.aload_n 2, 1) := by decide +kernel
theorem dL_band_1 : decode cL_band 1 = .ok (.iconst 0, 1) := by decide +kernel
theorem dL_band_2 : decode cL_band 2 = .ok (.aload_n 0, 1) := by decide +kernel
theorem dL_band_3 : decode cL_band 3 = .ok (.iload_n 1, 1) := by decide +kernel
theorem dL_band_4 : decode cL_band 4 = .ok (.invokevirtual 91, 3) := by decide +kernel
theorem dL_band_7 : decode cL_band 7 = .ok (.i2l, 1) := by decide +kernel
theorem dL_band_8 : decode cL_band 8 = .ok (.lastore, 1) := by decide +kernel
theorem dL_band_9 : decode cL_band 9 = .ok (.goto 9, 3) := by decide +kernel
theorem dL_band_12 : decode cL_band 12 = .ok (.astore_n 3, 1) := by decide +kernel
theorem dL_band_13 : decode cL_band 13 = .ok (.iconst 1, 1) := by decide +kernel
theorem dL_band_14 : decode cL_band 14 = .ok (.ireturn, 1) := by decide +kernel
theorem dL_band_15 : decode cL_band 15 = .ok (.astore_n 3, 1) := by decide +kernel
theorem dL_band_16 : decode cL_band 16 = .ok (.iconst 2, 1) := by decide +kernel
theorem dL_band_17 : decode cL_band 17 = .ok (.ireturn, 1) := by decide +kernel
theorem dL_band_18 : decode cL_band 18 = .ok (.iconst 0, 1) := by decide +kernel
theorem dL_band_19 : decode cL_band 19 = .ok (.ireturn, 1) := by decide +kernel
theorem dL_bestOffset_0 : decode cL_bestOffset 0 = .ok (.aload_n 3, 1) := by decide +kernel
theorem dL_bestOffset_1 : decode cL_bestOffset 1 = .ok (.iconst 0, 1) := by decide +kernel
theorem dL_bestOffset_2 : decode cL_bestOffset 2 = .ok (.aload_n 0, 1) := by decide +kernel
theorem dL_bestOffset_3 : decode cL_bestOffset 3 = .ok (.iload_n 1, 1) := by decide +kernel
theorem dL_bestOffset_4 : decode cL_bestOffset 4 = .ok (.iload_n 2, 1) := by decide +kernel
theorem dL_bestOffset_5 : decode cL_bestOffset 5 = .ok (.invokevirtual 94, 3) := by decide +kernel
theorem dL_bestOffset_8 : decode cL_bestOffset 8 = .ok (.i2l, 1) := by decide +kernel
theorem dL_bestOffset_9 : decode cL_bestOffset 9 = .ok (.lastore, 1) := by decide +kernel
theorem dL_bestOffset_10 : decode cL_bestOffset 10 = .ok (.goto 15, 3) := by decide +kernel
theorem dL_bestOffset_13 : decode cL_bestOffset 13 = .ok (.astore 4, 2) := by decide +kernel
theorem dL_bestOffset_15 : decode cL_bestOffset 15 = .ok (.iconst 1, 1) := by decide +kernel
theorem dL_bestOffset_16 : decode cL_bestOffset 16 = .ok (.ireturn, 1) := by decide +kernel
theorem dL_bestOffset_17 : decode cL_bestOffset 17 = .ok (.astore 4, 2) := by decide +kernel
theorem dL_bestOffset_19 : decode cL_bestOffset 19 = .ok (.iconst 2, 1) := by decide +kernel
theorem dL_bestOffset_20 : decode cL_bestOffset 20 = .ok (.ireturn, 1) := by decide +kernel
theorem dL_bestOffset_21 : decode cL_bestOffset 21 = .ok (.astore 4, 2) := by decide +kernel
theorem dL_bestOffset_23 : decode cL_bestOffset 23 = .ok (.iconst 3, 1) := by decide +kernel
theorem dL_bestOffset_24 : decode cL_bestOffset 24 = .ok (.ireturn, 1) := by decide +kernel
theorem dL_bestOffset_25 : decode cL_bestOffset 25 = .ok (.iconst 0, 1) := by decide +kernel
theorem dL_bestOffset_26 : decode cL_bestOffset 26 = .ok (.ireturn, 1) := by decide +kernel
theorem dL_share_0 : decode cL_share 0 = .ok (.aload_n 2, 1) := by decide +kernel
theorem dL_share_1 : decode cL_share 1 = .ok (.iconst 0, 1) := by decide +kernel
theorem dL_share_2 : decode cL_share 2 = .ok (.aload_n 0, 1) := by decide +kernel
theorem dL_share_3 : decode cL_share 3 = .ok (.iload_n 1, 1) := by decide +kernel
theorem dL_share_4 : decode cL_share 4 = .ok (.invokevirtual 97, 3) := by decide +kernel
theorem dL_share_7 : decode cL_share 7 = .ok (.f2d, 1) := by decide +kernel
theorem dL_share_8 : decode cL_share 8 = .ok (.dastore, 1) := by decide +kernel
theorem dL_share_9 : decode cL_share 9 = .ok (.goto 9, 3) := by decide +kernel
theorem dL_share_12 : decode cL_share 12 = .ok (.astore_n 3, 1) := by decide +kernel
theorem dL_share_13 : decode cL_share 13 = .ok (.iconst 1, 1) := by decide +kernel
theorem dL_share_14 : decode cL_share 14 = .ok (.ireturn, 1) := by decide +kernel
theorem dL_share_15 : decode cL_share 15 = .ok (.astore_n 3, 1) := by decide +kernel
theorem dL_share_16 : decode cL_share 16 = .ok (.iconst 2, 1) := by decide +kernel
theorem dL_share_17 : decode cL_share 17 = .ok (.ireturn, 1) := by decide +kernel
theorem dL_share_18 : decode cL_share 18 = .ok (.iconst 0, 1) := by decide +kernel
theorem dL_share_19 : decode cL_share 19 = .ok (.ireturn, 1) := by decide +kernel
theorem dL_press_0 : decode cL_press 0 = .ok (.aload_n 3, 1) := by decide +kernel
theorem dL_press_1 : decode cL_press 1 = .ok (.iconst 0, 1) := by decide +kernel
theorem dL_press_2 : decode cL_press 2 = .ok (.aload_n 0, 1) := by decide +kernel
theorem dL_press_3 : decode cL_press 3 = .ok (.iload_n 1, 1) := by decide +kernel
theorem dL_press_4 : decode cL_press 4 = .ok (.iload_n 2, 1) := by decide +kernel
theorem dL_press_5 : decode cL_press 5 = .ok (.invokevirtual 101, 3) := by decide +kernel
theorem dL_press_8 : decode cL_press 8 = .ok (.i2l, 1) := by decide +kernel
theorem dL_press_9 : decode cL_press 9 = .ok (.lastore, 1) := by decide +kernel
theorem dL_press_10 : decode cL_press 10 = .ok (.goto 11, 3) := by decide +kernel
theorem dL_press_13 : decode cL_press 13 = .ok (.astore 4, 2) := by decide +kernel
theorem dL_press_15 : decode cL_press 15 = .ok (.iconst 1, 1) := by decide +kernel
theorem dL_press_16 : decode cL_press 16 = .ok (.ireturn, 1) := by decide +kernel
theorem dL_press_17 : decode cL_press 17 = .ok (.astore 4, 2) := by decide +kernel
theorem dL_press_19 : decode cL_press 19 = .ok (.iconst 2, 1) := by decide +kernel
theorem dL_press_20 : decode cL_press 20 = .ok (.ireturn, 1) := by decide +kernel
theorem dL_press_21 : decode cL_press 21 = .ok (.iconst 0, 1) := by decide +kernel
theorem dL_press_22 : decode cL_press 22 = .ok (.ireturn, 1) := by decide +kernel
theorem dL_run_0 : decode cL_run 0 = .ok (.aload_n 2, 1) := by decide +kernel
theorem dL_run_1 : decode cL_run 1 = .ok (.iconst 0, 1) := by decide +kernel
theorem dL_run_2 : decode cL_run 2 = .ok (.aload_n 0, 1) := by decide +kernel
theorem dL_run_3 : decode cL_run 3 = .ok (.iload_n 1, 1) := by decide +kernel
theorem dL_run_4 : decode cL_run 4 = .ok (.invokevirtual 104, 3) := by decide +kernel
theorem dL_run_7 : decode cL_run 7 = .ok (.i2l, 1) := by decide +kernel
theorem dL_run_8 : decode cL_run 8 = .ok (.lastore, 1) := by decide +kernel
theorem dL_run_9 : decode cL_run 9 = .ok (.goto 9, 3) := by decide +kernel
theorem dL_run_12 : decode cL_run 12 = .ok (.astore_n 3, 1) := by decide +kernel
theorem dL_run_13 : decode cL_run 13 = .ok (.iconst 1, 1) := by decide +kernel
theorem dL_run_14 : decode cL_run 14 = .ok (.ireturn, 1) := by decide +kernel
theorem dL_run_15 : decode cL_run 15 = .ok (.astore_n 3, 1) := by decide +kernel
theorem dL_run_16 : decode cL_run 16 = .ok (.iconst 2, 1) := by decide +kernel
theorem dL_run_17 : decode cL_run 17 = .ok (.ireturn, 1) := by decide +kernel
theorem dL_run_18 : decode cL_run 18 = .ok (.iconst 0, 1) := by decide +kernel
theorem dL_run_19 : decode cL_run 19 = .ok (.ireturn, 1) := by decide +kernel
theorem dL_soonest_0 : decode cL_soonest 0 = .ok (.aload_n 2, 1) := by decide +kernel
theorem dL_soonest_1 : decode cL_soonest 1 = .ok (.iconst 0, 1) := by decide +kernel
theorem dL_soonest_2 : decode cL_soonest 2 = .ok (.aload_n 0, 1) := by decide +kernel
theorem dL_soonest_3 : decode cL_soonest 3 = .ok (.iload_n 1, 1) := by decide +kernel
theorem dL_soonest_4 : decode cL_soonest 4 = .ok (.invokevirtual 107, 3) := by decide +kernel
theorem dL_soonest_7 : decode cL_soonest 7 = .ok (.i2l, 1) := by decide +kernel
theorem dL_soonest_8 : decode cL_soonest 8 = .ok (.lastore, 1) := by decide +kernel
theorem dL_soonest_9 : decode cL_soonest 9 = .ok (.goto 9, 3) := by decide +kernel
theorem dL_soonest_12 : decode cL_soonest 12 = .ok (.astore_n 3, 1) := by decide +kernel
theorem dL_soonest_13 : decode cL_soonest 13 = .ok (.iconst 1, 1) := by decide +kernel
theorem dL_soonest_14 : decode cL_soonest 14 = .ok (.ireturn, 1) := by decide +kernel
theorem dL_soonest_15 : decode cL_soonest 15 = .ok (.astore_n 3, 1) := by decide +kernel
theorem dL_soonest_16 : decode cL_soonest 16 = .ok (.iconst 2, 1) := by decide +kernel
theorem dL_soonest_17 : decode cL_soonest 17 = .ok (.ireturn, 1) := by decide +kernel
theorem dL_soonest_18 : decode cL_soonest 18 = .ok (.iconst 0, 1) := by decide +kernel
theorem dL_soonest_19 : decode cL_soonest 19 = .ok (.ireturn, 1) := by decide +kernel
theorem dL_change_0 : decode cL_change 0 = .ok (.aload_n 2, 1) := by decide +kernel
theorem dL_change_1 : decode cL_change 1 = .ok (.iconst 0, 1) := by decide +kernel
theorem dL_change_2 : decode cL_change 2 = .ok (.aload_n 0, 1) := by decide +kernel
theorem dL_change_3 : decode cL_change 3 = .ok (.iload_n 1, 1) := by decide +kernel
theorem dL_change_4 : decode cL_change 4 = .ok (.invokevirtual 110, 3) := by decide +kernel
theorem dL_change_7 : decode cL_change 7 = .ok (.i2l, 1) := by decide +kernel
theorem dL_change_8 : decode cL_change 8 = .ok (.lastore, 1) := by decide +kernel
theorem dL_change_9 : decode cL_change 9 = .ok (.goto 12, 3) := by decide +kernel
theorem dL_change_12 : decode cL_change 12 = .ok (.astore_n 3, 1) := by decide +kernel
theorem dL_change_13 : decode cL_change 13 = .ok (.iconst 1, 1) := by decide +kernel
theorem dL_change_14 : decode cL_change 14 = .ok (.ireturn, 1) := by decide +kernel
theorem dL_change_15 : decode cL_change 15 = .ok (.astore_n 3, 1) := by decide +kernel
theorem dL_change_16 : decode cL_change 16 = .ok (.iconst 2, 1) := by decide +kernel
theorem dL_change_17 : decode cL_change 17 = .ok (.ireturn, 1) := by decide +kernel
theorem dL_change_18 : decode cL_change 18 = .ok (.astore_n 3, 1) := by decide +kernel
theorem dL_change_19 : decode cL_change 19 = .ok (.iconst 3, 1) := by decide +kernel
theorem dL_change_20 : decode cL_change 20 = .ok (.ireturn, 1) := by decide +kernel
theorem dL_change_21 : decode cL_change 21 = .ok (.iconst 0, 1) := by decide +kernel
theorem dL_change_22 : decode cL_change 22 = .ok (.ireturn, 1) := by decide +kernel
theorem dL_mount_0 : decode cL_mount 0 = .ok (.aload 5, 2) := by decide +kernel
theorem dL_mount_2 : decode cL_mount 2 = .ok (.iconst 0, 1) := by decide +kernel
theorem dL_mount_3 : decode cL_mount 3 = .ok (.aload_n 0, 1) := by decide +kernel
theorem dL_mount_4 : decode cL_mount 4 = .ok (.iload_n 1, 1) := by decide +kernel
theorem dL_mount_5 : decode cL_mount 5 = .ok (.iload_n 2, 1) := by decide +kernel
theorem dL_mount_6 : decode cL_mount 6 = .ok (.iload_n 3, 1) := by decide +kernel
theorem dL_mount_7 : decode cL_mount 7 = .ok (.iload 4, 2) := by decide +kernel
theorem dL_mount_9 : decode cL_mount 9 = .ok (.invokevirtual 113, 3) := by decide +kernel
theorem dL_mount_12 : decode cL_mount 12 = .ok (.i2l, 1) := by decide +kernel
theorem dL_mount_13 : decode cL_mount 13 = .ok (.lastore, 1) := by decide +kernel
theorem dL_mount_14 : decode cL_mount 14 = .ok (.goto 15, 3) := by decide +kernel
theorem dL_mount_17 : decode cL_mount 17 = .ok (.astore 6, 2) := by decide +kernel
theorem dL_mount_19 : decode cL_mount 19 = .ok (.iconst 1, 1) := by decide +kernel
theorem dL_mount_20 : decode cL_mount 20 = .ok (.ireturn, 1) := by decide +kernel
theorem dL_mount_21 : decode cL_mount 21 = .ok (.astore 6, 2) := by decide +kernel
theorem dL_mount_23 : decode cL_mount 23 = .ok (.iconst 2, 1) := by decide +kernel
theorem dL_mount_24 : decode cL_mount 24 = .ok (.ireturn, 1) := by decide +kernel
theorem dL_mount_25 : decode cL_mount 25 = .ok (.astore 6, 2) := by decide +kernel
theorem dL_mount_27 : decode cL_mount 27 = .ok (.iconst 3, 1) := by decide +kernel
theorem dL_mount_28 : decode cL_mount 28 = .ok (.ireturn, 1) := by decide +kernel
theorem dL_mount_29 : decode cL_mount 29 = .ok (.iconst 0, 1) := by decide +kernel
theorem dL_mount_30 : decode cL_mount 30 = .ok (.ireturn, 1) := by decide +kernel
theorem dL_account_0 : decode cL_account 0 = .ok (.aload_n 2, 1) := by decide +kernel
theorem dL_account_1 : decode cL_account 1 = .ok (.iconst 0, 1) := by decide +kernel
theorem dL_account_2 : decode cL_account 2 = .ok (.aload_n 0, 1) := by decide +kernel
theorem dL_account_3 : decode cL_account 3 = .ok (.iload_n 1, 1) := by decide +kernel
theorem dL_account_4 : decode cL_account 4 = .ok (.invokevirtual 117, 3) := by decide +kernel
theorem dL_account_7 : decode cL_account 7 = .ok (.i2l, 1) := by decide +kernel
theorem dL_account_8 : decode cL_account 8 = .ok (.lastore, 1) := by decide +kernel
theorem dL_account_9 : decode cL_account 9 = .ok (.goto 6, 3) := by decide +kernel
theorem dL_account_12 : decode cL_account 12 = .ok (.astore_n 3, 1) := by decide +kernel
theorem dL_account_13 : decode cL_account 13 = .ok (.iconst 1, 1) := by decide +kernel
theorem dL_account_14 : decode cL_account 14 = .ok (.ireturn, 1) := by decide +kernel
theorem dL_account_15 : decode cL_account 15 = .ok (.iconst 0, 1) := by decide +kernel
theorem dL_account_16 : decode cL_account 16 = .ok (.ireturn, 1) := by decide +kernel
theorem dL_litShare_0 : decode cL_litShare 0 = .ok (.aload_n 3, 1) := by decide +kernel
theorem dL_litShare_1 : decode cL_litShare 1 = .ok (.iconst 0, 1) := by decide +kernel
theorem dL_litShare_2 : decode cL_litShare 2 = .ok (.aload_n 0, 1) := by decide +kernel
theorem dL_litShare_3 : decode cL_litShare 3 = .ok (.iload_n 1, 1) := by decide +kernel
theorem dL_litShare_4 : decode cL_litShare 4 = .ok (.iload_n 2, 1) := by decide +kernel
theorem dL_litShare_5 : decode cL_litShare 5 = .ok (.invokevirtual 120, 3) := by decide +kernel
theorem dL_litShare_8 : decode cL_litShare 8 = .ok (.i2l, 1) := by decide +kernel
theorem dL_litShare_9 : decode cL_litShare 9 = .ok (.lastore, 1) := by decide +kernel
theorem dL_litShare_10 : decode cL_litShare 10 = .ok (.goto 11, 3) := by decide +kernel
theorem dL_litShare_13 : decode cL_litShare 13 = .ok (.astore 4, 2) := by decide +kernel
theorem dL_litShare_15 : decode cL_litShare 15 = .ok (.iconst 1, 1) := by decide +kernel
theorem dL_litShare_16 : decode cL_litShare 16 = .ok (.ireturn, 1) := by decide +kernel
theorem dL_litShare_17 : decode cL_litShare 17 = .ok (.astore 4, 2) := by decide +kernel
theorem dL_litShare_19 : decode cL_litShare 19 = .ok (.iconst 2, 1) := by decide +kernel
theorem dL_litShare_20 : decode cL_litShare 20 = .ok (.ireturn, 1) := by decide +kernel
theorem dL_litShare_21 : decode cL_litShare 21 = .ok (.iconst 0, 1) := by decide +kernel
theorem dL_litShare_22 : decode cL_litShare 22 = .ok (.ireturn, 1) := by decide +kernel
theorem dL_meanWait_0 : decode cL_meanWait 0 = .ok (.aload_n 1, 1) := by decide +kernel
theorem dL_meanWait_1 : decode cL_meanWait 1 = .ok (.iconst 0, 1) := by decide +kernel
theorem dL_meanWait_2 : decode cL_meanWait 2 = .ok (.aload_n 0, 1) := by decide +kernel
theorem dL_meanWait_3 : decode cL_meanWait 3 = .ok (.invokevirtual 125, 3) := by decide +kernel
theorem dL_meanWait_6 : decode cL_meanWait 6 = .ok (.dastore, 1) := by decide +kernel
theorem dL_meanWait_7 : decode cL_meanWait 7 = .ok (.goto 6, 3) := by decide +kernel
theorem dL_meanWait_10 : decode cL_meanWait 10 = .ok (.astore_n 2, 1) := by decide +kernel
theorem dL_meanWait_11 : decode cL_meanWait 11 = .ok (.iconst 1, 1) := by decide +kernel
theorem dL_meanWait_12 : decode cL_meanWait 12 = .ok (.ireturn, 1) := by decide +kernel
theorem dL_meanWait_13 : decode cL_meanWait 13 = .ok (.iconst 0, 1) := by decide +kernel
theorem dL_meanWait_14 : decode cL_meanWait 14 = .ok (.ireturn, 1) := by decide +kernel
theorem dL_append_0 : decode cL_append 0 = .ok (.aload_n 2, 1) := by decide +kernel
theorem dL_append_1 : decode cL_append 1 = .ok (.iconst 0, 1) := by decide +kernel
theorem dL_append_2 : decode cL_append 2 = .ok (.aload_n 0, 1) := by decide +kernel
theorem dL_append_3 : decode cL_append 3 = .ok (.iload_n 1, 1) := by decide +kernel
theorem dL_append_4 : decode cL_append 4 = .ok (.invokevirtual 129, 3) := by decide +kernel
theorem dL_append_7 : decode cL_append 7 = .ok (.i2l, 1) := by decide +kernel
theorem dL_append_8 : decode cL_append 8 = .ok (.lastore, 1) := by decide +kernel
theorem dL_append_9 : decode cL_append 9 = .ok (.goto 9, 3) := by decide +kernel
theorem dL_append_12 : decode cL_append 12 = .ok (.astore_n 3, 1) := by decide +kernel
theorem dL_append_13 : decode cL_append 13 = .ok (.iconst 1, 1) := by decide +kernel
theorem dL_append_14 : decode cL_append 14 = .ok (.ireturn, 1) := by decide +kernel
theorem dL_append_15 : decode cL_append 15 = .ok (.astore_n 3, 1) := by decide +kernel
theorem dL_append_16 : decode cL_append 16 = .ok (.iconst 2, 1) := by decide +kernel
theorem dL_append_17 : decode cL_append 17 = .ok (.ireturn, 1) := by decide +kernel
theorem dL_append_18 : decode cL_append 18 = .ok (.iconst 0, 1) := by decide +kernel
theorem dL_append_19 : decode cL_append 19 = .ok (.ireturn, 1) := by decide +kernel
theorem dL_text_0 : decode cL_text 0 = .ok (.aload_n 1, 1) := by decide +kernel
theorem dL_text_1 : decode cL_text 1 = .ok (.iconst 0, 1) := by decide +kernel
theorem dL_text_2 : decode cL_text 2 = .ok (.aload_n 0, 1) := by decide +kernel
theorem dL_text_3 : decode cL_text 3 = .ok (.invokevirtual 132, 3) := by decide +kernel
theorem dL_text_6 : decode cL_text 6 = .ok (.i2l, 1) := by decide +kernel
theorem dL_text_7 : decode cL_text 7 = .ok (.lastore, 1) := by decide +kernel
theorem dL_text_8 : decode cL_text 8 = .ok (.goto 9, 3) := by decide +kernel
theorem dL_text_11 : decode cL_text 11 = .ok (.astore_n 2, 1) := by decide +kernel
theorem dL_text_12 : decode cL_text 12 = .ok (.iconst 1, 1) := by decide +kernel
theorem dL_text_13 : decode cL_text 13 = .ok (.ireturn, 1) := by decide +kernel
theorem dL_text_14 : decode cL_text 14 = .ok (.astore_n 2, 1) := by decide +kernel
theorem dL_text_15 : decode cL_text 15 = .ok (.iconst 2, 1) := by decide +kernel
theorem dL_text_16 : decode cL_text 16 = .ok (.ireturn, 1) := by decide +kernel
theorem dL_text_17 : decode cL_text 17 = .ok (.iconst 0, 1) := by decide +kernel
theorem dL_text_18 : decode cL_text 18 = .ok (.ireturn, 1) := by decide +kernel
theorem dL_report_0 : decode cL_report 0 = .ok (.aload_n 2, 1) := by decide +kernel
theorem dL_report_1 : decode cL_report 1 = .ok (.iconst 0, 1) := by decide +kernel
theorem dL_report_2 : decode cL_report 2 = .ok (.aload_n 0, 1) := by decide +kernel
theorem dL_report_3 : decode cL_report 3 = .ok (.iload_n 1, 1) := by decide +kernel
theorem dL_report_4 : decode cL_report 4 = .ok (.invokevirtual 135, 3) := by decide +kernel
theorem dL_report_7 : decode cL_report 7 = .ok (.i2l, 1) := by decide +kernel
theorem dL_report_8 : decode cL_report 8 = .ok (.lastore, 1) := by decide +kernel
theorem dL_report_9 : decode cL_report 9 = .ok (.goto 6, 3) := by decide +kernel
theorem dL_report_12 : decode cL_report 12 = .ok (.astore_n 3, 1) := by decide +kernel
theorem dL_report_13 : decode cL_report 13 = .ok (.iconst 1, 1) := by decide +kernel
theorem dL_report_14 : decode cL_report 14 = .ok (.ireturn, 1) := by decide +kernel
theorem dL_report_15 : decode cL_report 15 = .ok (.iconst 0, 1) := by decide +kernel
theorem dL_report_16 : decode cL_report 16 = .ok (.ireturn, 1) := by decide +kernel
theorem dL_character_0 : decode cL_character 0 = .ok (.aload_n 2, 1) := by decide +kernel
theorem dL_character_1 : decode cL_character 1 = .ok (.iconst 0, 1) := by decide +kernel
theorem dL_character_2 : decode cL_character 2 = .ok (.aload_n 0, 1) := by decide +kernel
theorem dL_character_3 : decode cL_character 3 = .ok (.iload_n 1, 1) := by decide +kernel
theorem dL_character_4 : decode cL_character 4 = .ok (.invokevirtual 138, 3) := by decide +kernel
theorem dL_character_7 : decode cL_character 7 = .ok (.i2l, 1) := by decide +kernel
theorem dL_character_8 : decode cL_character 8 = .ok (.lastore, 1) := by decide +kernel
theorem dL_character_9 : decode cL_character 9 = .ok (.goto 6, 3) := by decide +kernel
theorem dL_character_12 : decode cL_character 12 = .ok (.astore_n 3, 1) := by decide +kernel
theorem dL_character_13 : decode cL_character 13 = .ok (.iconst 1, 1) := by decide +kernel
theorem dL_character_14 : decode cL_character 14 = .ok (.ireturn, 1) := by decide +kernel
theorem dL_character_15 : decode cL_character 15 = .ok (.iconst 0, 1) := by decide +kernel
theorem dL_character_16 : decode cL_character 16 = .ok (.ireturn, 1) := by decide +kernel
theorem dL_undo_0 : decode cL_undo 0 = .ok (.aload_n 1, 1) := by decide +kernel
theorem dL_undo_1 : decode cL_undo 1 = .ok (.iconst 0, 1) := by decide +kernel
theorem dL_undo_2 : decode cL_undo 2 = .ok (.aload_n 0, 1) := by decide +kernel
theorem dL_undo_3 : decode cL_undo 3 = .ok (.invokevirtual 142, 3) := by decide +kernel
theorem dL_undo_6 : decode cL_undo 6 = .ok (.i2l, 1) := by decide +kernel
theorem dL_undo_7 : decode cL_undo 7 = .ok (.lastore, 1) := by decide +kernel
theorem dL_undo_8 : decode cL_undo 8 = .ok (.goto 6, 3) := by decide +kernel
theorem dL_undo_11 : decode cL_undo 11 = .ok (.astore_n 2, 1) := by decide +kernel
theorem dL_undo_12 : decode cL_undo 12 = .ok (.iconst 1, 1) := by decide +kernel
theorem dL_undo_13 : decode cL_undo 13 = .ok (.ireturn, 1) := by decide +kernel
theorem dL_undo_14 : decode cL_undo 14 = .ok (.iconst 0, 1) := by decide +kernel
theorem dL_undo_15 : decode cL_undo 15 = .ok (.ireturn, 1) := by decide +kernel
theorem dL_restore_0 : decode cL_restore 0 = .ok (.aload_n 1, 1) := by decide +kernel
theorem dL_restore_1 : decode cL_restore 1 = .ok (.iconst 0, 1) := by decide +kernel
theorem dL_restore_2 : decode cL_restore 2 = .ok (.aload_n 0, 1) := by decide +kernel
theorem dL_restore_3 : decode cL_restore 3 = .ok (.invokevirtual 145, 3) := by decide +kernel
theorem dL_restore_6 : decode cL_restore 6 = .ok (.i2l, 1) := by decide +kernel
theorem dL_restore_7 : decode cL_restore 7 = .ok (.lastore, 1) := by decide +kernel
theorem dL_restore_8 : decode cL_restore 8 = .ok (.goto 6, 3) := by decide +kernel
theorem dL_restore_11 : decode cL_restore 11 = .ok (.astore_n 2, 1) := by decide +kernel
theorem dL_restore_12 : decode cL_restore 12 = .ok (.iconst 1, 1) := by decide +kernel
theorem dL_restore_13 : decode cL_restore 13 = .ok (.ireturn, 1) := by decide +kernel
theorem dL_restore_14 : decode cL_restore 14 = .ok (.iconst 0, 1) := by decide +kernel
theorem dL_restore_15 : decode cL_restore 15 = .ok (.ireturn, 1) := by decide +kernel
