theorem dX0_init_0 : decode cX0_init 0 = .ok (.aload_n 0, 1) := by decide +kernel
theorem dX0_init_1 : decode cX0_init 1 = .ok (.invokespecial 5, 3) := by decide +kernel
theorem dX0_init_4 : decode cX0_init 4 = .ok (.aload_n 0, 1) := by decide +kernel
theorem dX0_init_5 : decode cX0_init 5 = .ok (.bipush 60, 2) := by decide +kernel
theorem dX0_init_7 : decode cX0_init 7 = .ok (.newarray .int, 2) := by decide +kernel
theorem dX0_init_9 : decode cX0_init 9 = .ok (.putfield 11, 3) := by decide +kernel
theorem dX0_init_12 : decode cX0_init 12 = .ok (.aload_n 0, 1) := by decide +kernel
theorem dX0_init_13 : decode cX0_init 13 = .ok (.invokevirtual 15, 3) := by decide +kernel
theorem dX0_init_16 : decode cX0_init 16 = .ok (.return_, 1) := by decide +kernel
theorem dX0_start_0 : decode cX0_start 0 = .ok (.aload_n 0, 1) := by decide +kernel
theorem dX0_start_1 : decode cX0_start 1 = .ok (.getfield 11, 3) := by decide +kernel
theorem dX0_start_4 : decode cX0_start 4 = .ok (.iconst 0, 1) := by decide +kernel
theorem dX0_start_5 : decode cX0_start 5 = .ok (.invokestatic 18, 3) := by decide +kernel
theorem dX0_start_8 : decode cX0_start 8 = .ok (.aload_n 0, 1) := by decide +kernel
theorem dX0_start_9 : decode cX0_start 9 = .ok (.getfield 11, 3) := by decide +kernel
theorem dX0_start_12 : decode cX0_start 12 = .ok (.iconst 0, 1) := by decide +kernel
theorem dX0_start_13 : decode cX0_start 13 = .ok (.iconst 1, 1) := by decide +kernel
theorem dX0_start_14 : decode cX0_start 14 = .ok (.iastore, 1) := by decide +kernel
theorem dX0_start_15 : decode cX0_start 15 = .ok (.aload_n 0, 1) := by decide +kernel
theorem dX0_start_16 : decode cX0_start 16 = .ok (.getfield 11, 3) := by decide +kernel
theorem dX0_start_19 : decode cX0_start 19 = .ok (.iconst 1, 1) := by decide +kernel
theorem dX0_start_20 : decode cX0_start 20 = .ok (.iconst 1, 1) := by decide +kernel
theorem dX0_start_21 : decode cX0_start 21 = .ok (.iastore, 1) := by decide +kernel
theorem dX0_start_22 : decode cX0_start 22 = .ok (.aload_n 0, 1) := by decide +kernel
theorem dX0_start_23 : decode cX0_start 23 = .ok (.getfield 11, 3) := by decide +kernel
theorem dX0_start_26 : decode cX0_start 26 = .ok (.iconst 2, 1) := by decide +kernel
theorem dX0_start_27 : decode cX0_start 27 = .ok (.iconst 3, 1) := by decide +kernel
theorem dX0_start_28 : decode cX0_start 28 = .ok (.iastore, 1) := by decide +kernel
theorem dX0_start_29 : decode cX0_start 29 = .ok (.return_, 1) := by decide +kernel
theorem dX0_get_0 : decode cX0_get 0 = .ok (.aload_n 0, 1) := by decide +kernel
theorem dX0_get_1 : decode cX0_get 1 = .ok (.getfield 11, 3) := by decide +kernel
theorem dX0_get_4 : decode cX0_get 4 = .ok (.iload_n 1, 1) := by decide +kernel
theorem dX0_get_5 : decode cX0_get 5 = .ok (.invokestatic 24, 3) := by decide +kernel
theorem dX0_get_8 : decode cX0_get 8 = .ok (.ireturn, 1) := by decide +kernel
theorem dX0_set_0 : decode cX0_set 0 = .ok (.aload_n 0, 1) := by decide +kernel
theorem dX0_set_1 : decode cX0_set 1 = .ok (.getfield 11, 3) := by decide +kernel
theorem dX0_set_4 : decode cX0_set 4 = .ok (.iload_n 1, 1) := by decide +kernel
theorem dX0_set_5 : decode cX0_set 5 = .ok (.iload_n 2, 1) := by decide +kernel
theorem dX0_set_6 : decode cX0_set 6 = .ok (.invokestatic 28, 3) := by decide +kernel
theorem dX0_set_9 : decode cX0_set 9 = .ok (.return_, 1) := by decide +kernel
theorem dX0_paint_0 : decode cX0_paint 0 = .ok (.iload_n 1, 1) := by decide +kernel
theorem dX0_paint_1 : decode cX0_paint 1 = .ok (.ifCond .lt 19, 3) := by decide +kernel
theorem dX0_paint_4 : decode cX0_paint 4 = .ok (.iload_n 1, 1) := by decide +kernel
theorem dX0_paint_5 : decode cX0_paint 5 = .ok (.bipush 48, 2) := by decide +kernel
theorem dX0_paint_7 : decode cX0_paint 7 = .ok (.if_icmp .ge 13, 3) := by decide +kernel
theorem dX0_paint_10 : decode cX0_paint 10 = .ok (.aload_n 0, 1) := by decide +kernel
theorem dX0_paint_11 : decode cX0_paint 11 = .ok (.getfield 11, 3) := by decide +kernel
theorem dX0_paint_14 : decode cX0_paint 14 = .ok (.bipush 12, 2) := by decide +kernel
theorem dX0_paint_16 : decode cX0_paint 16 = .ok (.iload_n 1, 1) := by decide +kernel
theorem dX0_paint_17 : decode cX0_paint 17 = .ok (.iadd, 1) := by decide +kernel
theorem dX0_paint_18 : decode cX0_paint 18 = .ok (.iload_n 2, 1) := by decide +kernel
theorem dX0_paint_19 : decode cX0_paint 19 = .ok (.iastore, 1) := by decide +kernel
theorem dX0_paint_20 : decode cX0_paint 20 = .ok (.return_, 1) := by decide +kernel
theorem dX0_width_0 : decode cX0_width 0 = .ok (.aload_n 0, 1) := by decide +kernel
theorem dX0_width_1 : decode cX0_width 1 = .ok (.getfield 11, 3) := by decide +kernel
theorem dX0_width_4 : decode cX0_width 4 = .ok (.iconst 0, 1) := by decide +kernel
theorem dX0_width_5 : decode cX0_width 5 = .ok (.iaload, 1) := by decide +kernel
theorem dX0_width_6 : decode cX0_width 6 = .ok (.ireturn, 1) := by decide +kernel
theorem dX0_height_0 : decode cX0_height 0 = .ok (.aload_n 0, 1) := by decide +kernel
theorem dX0_height_1 : decode cX0_height 1 = .ok (.getfield 11, 3) := by decide +kernel
theorem dX0_height_4 : decode cX0_height 4 = .ok (.iconst 1, 1) := by decide +kernel
theorem dX0_height_5 : decode cX0_height 5 = .ok (.iaload, 1) := by decide +kernel
theorem dX0_height_6 : decode cX0_height 6 = .ok (.ireturn, 1) := by decide +kernel
theorem dX0_most_0 : decode cX0_most 0 = .ok (.aload_n 0, 1) := by decide +kernel
theorem dX0_most_1 : decode cX0_most 1 = .ok (.getfield 11, 3) := by decide +kernel
theorem dX0_most_4 : decode cX0_most 4 = .ok (.iconst 2, 1) := by decide +kernel
theorem dX0_most_5 : decode cX0_most 5 = .ok (.iaload, 1) := by decide +kernel
theorem dX0_most_6 : decode cX0_most 6 = .ok (.ireturn, 1) := by decide +kernel
theorem dX0_pull_0 : decode cX0_pull 0 = .ok (.aload_n 0, 1) := by decide +kernel
theorem dX0_pull_1 : decode cX0_pull 1 = .ok (.getfield 11, 3) := by decide +kernel
theorem dX0_pull_4 : decode cX0_pull 4 = .ok (.iconst 3, 1) := by decide +kernel
theorem dX0_pull_5 : decode cX0_pull 5 = .ok (.iaload, 1) := by decide +kernel
theorem dX0_pull_6 : decode cX0_pull 6 = .ok (.ireturn, 1) := by decide +kernel
theorem dX0_wayOf_0 : decode cX0_wayOf 0 = .ok (.iload_n 1, 1) := by decide +kernel
theorem dX0_wayOf_1 : decode cX0_wayOf 1 = .ok (.iconst 1, 1) := by decide +kernel
theorem dX0_wayOf_2 : decode cX0_wayOf 2 = .ok (.iconst 3, 1) := by decide +kernel
theorem dX0_wayOf_3 : decode cX0_wayOf 3 = .ok (.invokestatic 32, 3) := by decide +kernel
theorem dX0_wayOf_6 : decode cX0_wayOf 6 = .ok (.ifCond .eq 14, 3) := by decide +kernel
theorem dX0_wayOf_9 : decode cX0_wayOf 9 = .ok (.aload_n 0, 1) := by decide +kernel
theorem dX0_wayOf_10 : decode cX0_wayOf 10 = .ok (.getfield 11, 3) := by decide +kernel
theorem dX0_wayOf_13 : decode cX0_wayOf 13 = .ok (.iconst 4, 1) := by decide +kernel
theorem dX0_wayOf_14 : decode cX0_wayOf 14 = .ok (.iload_n 1, 1) := by decide +kernel
theorem dX0_wayOf_15 : decode cX0_wayOf 15 = .ok (.iadd, 1) := by decide +kernel
theorem dX0_wayOf_16 : decode cX0_wayOf 16 = .ok (.iaload, 1) := by decide +kernel
theorem dX0_wayOf_17 : decode cX0_wayOf 17 = .ok (.goto 4, 3) := by decide +kernel
theorem dX0_wayOf_20 : decode cX0_wayOf 20 = .ok (.iconst 0, 1) := by decide +kernel
theorem dX0_wayOf_21 : decode cX0_wayOf 21 = .ok (.ireturn, 1) := by decide +kernel
theorem dX0_rankOf_0 : decode cX0_rankOf 0 = .ok (.iload_n 1, 1) := by decide +kernel
theorem dX0_rankOf_1 : decode cX0_rankOf 1 = .ok (.iconst 1, 1) := by decide +kernel
theorem dX0_rankOf_2 : decode cX0_rankOf 2 = .ok (.iconst 3, 1) := by decide +kernel
theorem dX0_rankOf_3 : decode cX0_rankOf 3 = .ok (.invokestatic 32, 3) := by decide +kernel
theorem dX0_rankOf_6 : decode cX0_rankOf 6 = .ok (.ifCond .eq 15, 3) := by decide +kernel
theorem dX0_rankOf_9 : decode cX0_rankOf 9 = .ok (.aload_n 0, 1) := by decide +kernel
theorem dX0_rankOf_10 : decode cX0_rankOf 10 = .ok (.getfield 11, 3) := by decide +kernel
theorem dX0_rankOf_13 : decode cX0_rankOf 13 = .ok (.bipush 8, 2) := by decide +kernel
theorem dX0_rankOf_15 : decode cX0_rankOf 15 = .ok (.iload_n 1, 1) := by decide +kernel
theorem dX0_rankOf_16 : decode cX0_rankOf 16 = .ok (.iadd, 1) := by decide +kernel
theorem dX0_rankOf_17 : decode cX0_rankOf 17 = .ok (.iaload, 1) := by decide +kernel
theorem dX0_rankOf_18 : decode cX0_rankOf 18 = .ok (.goto 4, 3) := by decide +kernel
theorem dX0_rankOf_21 : decode cX0_rankOf 21 = .ok (.iconst 0, 1) := by decide +kernel
theorem dX0_rankOf_22 : decode cX0_rankOf 22 = .ok (.ireturn, 1) := by decide +kernel
theorem dX0_has_0 : decode cX0_has 0 = .ok (.iload_n 1, 1) := by decide +kernel
theorem dX0_has_1 : decode cX0_has 1 = .ok (.iconst 0, 1) := by decide +kernel
theorem dX0_has_2 : decode cX0_has 2 = .ok (.aload_n 0, 1) := by decide +kernel
theorem dX0_has_3 : decode cX0_has 3 = .ok (.invokevirtual 36, 3) := by decide +kernel
theorem dX0_has_6 : decode cX0_has 6 = .ok (.iconst 1, 1) := by decide +kernel
theorem dX0_has_7 : decode cX0_has 7 = .ok (.isub, 1) := by decide +kernel
theorem dX0_has_8 : decode cX0_has 8 = .ok (.invokestatic 32, 3) := by decide +kernel
theorem dX0_has_11 : decode cX0_has 11 = .ok (.ifCond .eq 21, 3) := by decide +kernel
theorem dX0_has_14 : decode cX0_has 14 = .ok (.iload_n 2, 1) := by decide +kernel
theorem dX0_has_15 : decode cX0_has 15 = .ok (.iconst 0, 1) := by decide +kernel
theorem dX0_has_16 : decode cX0_has 16 = .ok (.aload_n 0, 1) := by decide +kernel
theorem dX0_has_17 : decode cX0_has 17 = .ok (.invokevirtual 40, 3) := by decide +kernel
theorem dX0_has_20 : decode cX0_has 20 = .ok (.iconst 1, 1) := by decide +kernel
theorem dX0_has_21 : decode cX0_has 21 = .ok (.isub, 1) := by decide +kernel
theorem dX0_has_22 : decode cX0_has 22 = .ok (.invokestatic 32, 3) := by decide +kernel
theorem dX0_has_25 : decode cX0_has 25 = .ok (.ifCond .eq 7, 3) := by decide +kernel
theorem dX0_has_28 : decode cX0_has 28 = .ok (.iconst 1, 1) := by decide +kernel
theorem dX0_has_29 : decode cX0_has 29 = .ok (.goto 4, 3) := by decide +kernel
theorem dX0_has_32 : decode cX0_has 32 = .ok (.iconst 0, 1) := by decide +kernel
theorem dX0_has_33 : decode cX0_has 33 = .ok (.ireturn, 1) := by decide +kernel
theorem dX0_colourAt_0 : decode cX0_colourAt 0 = .ok (.iload_n 1, 1) := by decide +kernel
theorem dX0_colourAt_1 : decode cX0_colourAt 1 = .ok (.ifCond .lt 21, 3) := by decide +kernel
theorem dX0_colourAt_4 : decode cX0_colourAt 4 = .ok (.iload_n 1, 1) := by decide +kernel
theorem dX0_colourAt_5 : decode cX0_colourAt 5 = .ok (.bipush 48, 2) := by decide +kernel
theorem dX0_colourAt_7 : decode cX0_colourAt 7 = .ok (.if_icmp .ge 15, 3) := by decide +kernel
theorem dX0_colourAt_10 : decode cX0_colourAt 10 = .ok (.aload_n 0, 1) := by decide +kernel
theorem dX0_colourAt_11 : decode cX0_colourAt 11 = .ok (.getfield 11, 3) := by decide +kernel
theorem dX0_colourAt_14 : decode cX0_colourAt 14 = .ok (.bipush 12, 2) := by decide +kernel
theorem dX0_colourAt_16 : decode cX0_colourAt 16 = .ok (.iload_n 1, 1) := by decide +kernel
theorem dX0_colourAt_17 : decode cX0_colourAt 17 = .ok (.iadd, 1) := by decide +kernel
theorem dX0_colourAt_18 : decode cX0_colourAt 18 = .ok (.iaload, 1) := by decide +kernel
theorem dX0_colourAt_19 : decode cX0_colourAt 19 = .ok (.goto 4, 3) := by decide +kernel
theorem dX0_colourAt_22 : decode cX0_colourAt 22 = .ok (.iconst 0, 1) := by decide +kernel
theorem dX0_colourAt_23 : decode cX0_colourAt 23 = .ok (.ireturn, 1) := by decide +kernel
theorem dX0_numberOf_0 : decode cX0_numberOf 0 = .ok (.aload_n 0, 1) := by decide +kernel
theorem dX0_numberOf_1 : decode cX0_numberOf 1 = .ok (.invokevirtual 36, 3) := by decide +kernel
theorem dX0_numberOf_4 : decode cX0_numberOf 4 = .ok (.iload_n 1, 1) := by decide +kernel
theorem dX0_numberOf_5 : decode cX0_numberOf 5 = .ok (.bipush 8, 2) := by decide +kernel
theorem dX0_numberOf_7 : decode cX0_numberOf 7 = .ok (.idiv, 1) := by decide +kernel
theorem dX0_numberOf_8 : decode cX0_numberOf 8 = .ok (.imul, 1) := by decide +kernel
theorem dX0_numberOf_9 : decode cX0_numberOf 9 = .ok (.iload_n 1, 1) := by decide +kernel
theorem dX0_numberOf_10 : decode cX0_numberOf 10 = .ok (.bipush 8, 2) := by decide +kernel
theorem dX0_numberOf_12 : decode cX0_numberOf 12 = .ok (.irem, 1) := by decide +kernel
theorem dX0_numberOf_13 : decode cX0_numberOf 13 = .ok (.iadd, 1) := by decide +kernel
theorem dX0_numberOf_14 : decode cX0_numberOf 14 = .ok (.ireturn, 1) := by decide +kernel
theorem dX0_touch_0 : decode cX0_touch 0 = .ok (.iconst 0, 1) := by decide +kernel
theorem dX0_touch_1 : decode cX0_touch 1 = .ok (.istore_n 3, 1) := by decide +kernel
theorem dX0_touch_2 : decode cX0_touch 2 = .ok (.iload_n 3, 1) := by decide +kernel
theorem dX0_touch_3 : decode cX0_touch 3 = .ok (.bipush 48, 2) := by decide +kernel
theorem dX0_touch_5 : decode cX0_touch 5 = .ok (.if_icmp .ge 29, 3) := by decide +kernel
theorem dX0_touch_8 : decode cX0_touch 8 = .ok (.aload_n 0, 1) := by decide +kernel
theorem dX0_touch_9 : decode cX0_touch 9 = .ok (.iload_n 3, 1) := by decide +kernel
theorem dX0_touch_10 : decode cX0_touch 10 = .ok (.invokevirtual 43, 3) := by decide +kernel
theorem dX0_touch_13 : decode cX0_touch 13 = .ok (.iload_n 1, 1) := by decide +kernel
theorem dX0_touch_14 : decode cX0_touch 14 = .ok (.if_icmp .ne 14, 3) := by decide +kernel
theorem dX0_touch_17 : decode cX0_touch 17 = .ok (.aload_n 0, 1) := by decide +kernel
theorem dX0_touch_18 : decode cX0_touch 18 = .ok (.iload_n 3, 1) := by decide +kernel
theorem dX0_touch_19 : decode cX0_touch 19 = .ok (.iload_n 2, 1) := by decide +kernel
theorem dX0_touch_20 : decode cX0_touch 20 = .ok (.invokevirtual 47, 3) := by decide +kernel
theorem dX0_touch_23 : decode cX0_touch 23 = .ok (.ifCond .eq 5, 3) := by decide +kernel
theorem dX0_touch_26 : decode cX0_touch 26 = .ok (.iconst 1, 1) := by decide +kernel
theorem dX0_touch_27 : decode cX0_touch 27 = .ok (.ireturn, 1) := by decide +kernel
theorem dX0_touch_28 : decode cX0_touch 28 = .ok (.iinc 3 1, 3) := by decide +kernel
theorem dX0_touch_31 : decode cX0_touch 31 = .ok (.goto (-29), 3) := by decide +kernel
theorem dX0_touch_34 : decode cX0_touch 34 = .ok (.iconst 0, 1) := by decide +kernel
theorem dX0_touch_35 : decode cX0_touch 35 = .ok (.ireturn, 1) := by decide +kernel
theorem dX0_isBeside_0 : decode cX0_isBeside 0 = .ok (.iconst 0, 1) := by decide +kernel
theorem dX0_isBeside_1 : decode cX0_isBeside 1 = .ok (.istore_n 3, 1) := by decide +kernel
theorem dX0_isBeside_2 : decode cX0_isBeside 2 = .ok (.iload_n 3, 1) := by decide +kernel
theorem dX0_isBeside_3 : decode cX0_isBeside 3 = .ok (.iconst 4, 1) := by decide +kernel
theorem dX0_isBeside_4 : decode cX0_isBeside 4 = .ok (.if_icmp .ge 24, 3) := by decide +kernel
theorem dX0_isBeside_7 : decode cX0_isBeside 7 = .ok (.aload_n 0, 1) := by decide +kernel
theorem dX0_isBeside_8 : decode cX0_isBeside 8 = .ok (.iload_n 1, 1) := by decide +kernel
theorem dX0_isBeside_9 : decode cX0_isBeside 9 = .ok (.iload_n 3, 1) := by decide +kernel
theorem dX0_isBeside_10 : decode cX0_isBeside 10 = .ok (.invokestatic 51, 3) := by decide +kernel
theorem dX0_isBeside_13 : decode cX0_isBeside 13 = .ok (.invokevirtual 43, 3) := by decide +kernel
theorem dX0_isBeside_16 : decode cX0_isBeside 16 = .ok (.iload_n 2, 1) := by decide +kernel
theorem dX0_isBeside_17 : decode cX0_isBeside 17 = .ok (.if_icmp .ne 5, 3) := by decide +kernel
theorem dX0_isBeside_20 : decode cX0_isBeside 20 = .ok (.iconst 1, 1) := by decide +kernel
theorem dX0_isBeside_21 : decode cX0_isBeside 21 = .ok (.ireturn, 1) := by decide +kernel
theorem dX0_isBeside_22 : decode cX0_isBeside 22 = .ok (.iinc 3 1, 3) := by decide +kernel
theorem dX0_isBeside_25 : decode cX0_isBeside 25 = .ok (.goto (-23), 3) := by decide +kernel
theorem dX0_isBeside_28 : decode cX0_isBeside 28 = .ok (.iconst 0, 1) := by decide +kernel
theorem dX0_isBeside_29 : decode cX0_isBeside 29 = .ok (.ireturn, 1) := by decide +kernel
theorem dX0_copy_0 : decode cX0_copy 0 = .ok (.aload_n 0, 1) := by decide +kernel
theorem dX0_copy_1 : decode cX0_copy 1 = .ok (.aload_n 1, 1) := by decide +kernel
theorem dX0_copy_2 : decode cX0_copy 2 = .ok (.getfield 11, 3) := by decide +kernel
theorem dX0_copy_5 : decode cX0_copy 5 = .ok (.invokevirtual 55, 3) := by decide +kernel
theorem dX0_copy_8 : decode cX0_copy 8 = .ok (.return_, 1) := by decide +kernel
theorem dX0_saveTo_0 : decode cX0_saveTo 0 = .ok (.aload_n 1, 1) := by decide +kernel
theorem dX0_saveTo_1 : decode cX0_saveTo 1 = .ok (.ifnull 22, 3) := by decide +kernel
theorem dX0_saveTo_4 : decode cX0_saveTo 4 = .ok (.aload_n 1, 1) := by decide +kernel
theorem dX0_saveTo_5 : decode cX0_saveTo 5 = .ok (.arraylength, 1) := by decide +kernel
theorem dX0_saveTo_6 : decode cX0_saveTo 6 = .ok (.bipush 60, 2) := by decide +kernel
theorem dX0_saveTo_8 : decode cX0_saveTo 8 = .ok (.if_icmp .ne 15, 3) := by decide +kernel
theorem dX0_saveTo_11 : decode cX0_saveTo 11 = .ok (.aload_n 0, 1) := by decide +kernel
theorem dX0_saveTo_12 : decode cX0_saveTo 12 = .ok (.getfield 11, 3) := by decide +kernel
theorem dX0_saveTo_15 : decode cX0_saveTo 15 = .ok (.iconst 0, 1) := by decide +kernel
theorem dX0_saveTo_16 : decode cX0_saveTo 16 = .ok (.aload_n 1, 1) := by decide +kernel
theorem dX0_saveTo_17 : decode cX0_saveTo 17 = .ok (.iconst 0, 1) := by decide +kernel
theorem dX0_saveTo_18 : decode cX0_saveTo 18 = .ok (.bipush 60, 2) := by decide +kernel
theorem dX0_saveTo_20 : decode cX0_saveTo 20 = .ok (.invokestatic 59, 3) := by decide +kernel
theorem dX0_saveTo_23 : decode cX0_saveTo 23 = .ok (.return_, 1) := by decide +kernel
theorem dX0_loadFrom_0 : decode cX0_loadFrom 0 = .ok (.aload_n 1, 1) := by decide +kernel
theorem dX0_loadFrom_1 : decode cX0_loadFrom 1 = .ok (.ifnull 22, 3) := by decide +kernel
theorem dX0_loadFrom_4 : decode cX0_loadFrom 4 = .ok (.aload_n 1, 1) := by decide +kernel
theorem dX0_loadFrom_5 : decode cX0_loadFrom 5 = .ok (.arraylength, 1) := by decide +kernel
theorem dX0_loadFrom_6 : decode cX0_loadFrom 6 = .ok (.bipush 60, 2) := by decide +kernel
theorem dX0_loadFrom_8 : decode cX0_loadFrom 8 = .ok (.if_icmp .ne 15, 3) := by decide +kernel
theorem dX0_loadFrom_11 : decode cX0_loadFrom 11 = .ok (.aload_n 1, 1) := by decide +kernel
theorem dX0_loadFrom_12 : decode cX0_loadFrom 12 = .ok (.iconst 0, 1) := by decide +kernel
theorem dX0_loadFrom_13 : decode cX0_loadFrom 13 = .ok (.aload_n 0, 1) := by decide +kernel
theorem dX0_loadFrom_14 : decode cX0_loadFrom 14 = .ok (.getfield 11, 3) := by decide +kernel
theorem dX0_loadFrom_17 : decode cX0_loadFrom 17 = .ok (.iconst 0, 1) := by decide +kernel
theorem dX0_loadFrom_18 : decode cX0_loadFrom 18 = .ok (.bipush 60, 2) := by decide +kernel
theorem dX0_loadFrom_20 : decode cX0_loadFrom 20 = .ok (.invokestatic 59, 3) := by decide +kernel
theorem dX0_loadFrom_23 : decode cX0_loadFrom 23 = .ok (.return_, 1) := by decide +kernel
theorem dX1_init_0 : decode cX1_init 0 = .ok (.aload_n 0, 1) := by decide +kernel
theorem dX1_init_1 : decode cX1_init 1 = .ok (.invokespecial 3, 3) := by decide +kernel
theorem dX1_init_4 : decode cX1_init 4 = .ok (.aload_n 0, 1) := by decide +kernel
theorem dX1_init_5 : decode cX1_init 5 = .ok (.new 9, 3) := by decide +kernel
theorem dX1_init_8 : decode cX1_init 8 = .ok (.dup, 1) := by decide +kernel
theorem dX1_init_9 : decode cX1_init 9 = .ok (.invokespecial 11, 3) := by decide +kernel
theorem dX1_init_12 : decode cX1_init 12 = .ok (.putfield 12, 3) := by decide +kernel
theorem dX1_init_15 : decode cX1_init 15 = .ok (.aload_n 0, 1) := by decide +kernel
theorem dX1_init_16 : decode cX1_init 16 = .ok (.bipush 48, 2) := by decide +kernel
theorem dX1_init_18 : decode cX1_init 18 = .ok (.newarray .int, 2) := by decide +kernel
theorem dX1_init_20 : decode cX1_init 20 = .ok (.putfield 18, 3) := by decide +kernel
theorem dX1_init_23 : decode cX1_init 23 = .ok (.aload_n 0, 1) := by decide +kernel
theorem dX1_init_24 : decode cX1_init 24 = .ok (.bipush 48, 2) := by decide +kernel
theorem dX1_init_26 : decode cX1_init 26 = .ok (.newarray .int, 2) := by decide +kernel
theorem dX1_init_28 : decode cX1_init 28 = .ok (.putfield 22, 3) := by decide +kernel
theorem dX1_init_31 : decode cX1_init 31 = .ok (.aload_n 0, 1) := by decide +kernel
theorem dX1_init_32 : decode cX1_init 32 = .ok (.bipush 48, 2) := by decide +kernel
theorem dX1_init_34 : decode cX1_init 34 = .ok (.newarray .int, 2) := by decide +kernel
theorem dX1_init_36 : decode cX1_init 36 = .ok (.putfield 25, 3) := by decide +kernel
theorem dX1_init_39 : decode cX1_init 39 = .ok (.aload_n 0, 1) := by decide +kernel
theorem dX1_init_40 : decode cX1_init 40 = .ok (.bipush 48, 2) := by decide +kernel
theorem dX1_init_42 : decode cX1_init 42 = .ok (.newarray .int, 2) := by decide +kernel
theorem dX1_init_44 : decode cX1_init 44 = .ok (.putfield 28, 3) := by decide +kernel
theorem dX1_init_47 : decode cX1_init 47 = .ok (.aload_n 0, 1) := by decide +kernel
theorem dX1_init_48 : decode cX1_init 48 = .ok (.bipush 48, 2) := by decide +kernel
theorem dX1_init_50 : decode cX1_init 50 = .ok (.newarray .boolean, 2) := by decide +kernel
theorem dX1_init_52 : decode cX1_init 52 = .ok (.putfield 31, 3) := by decide +kernel
theorem dX1_init_55 : decode cX1_init 55 = .ok (.aload_n 0, 1) := by decide +kernel
theorem dX1_init_56 : decode cX1_init 56 = .ok (.getfield 18, 3) := by decide +kernel
theorem dX1_init_59 : decode cX1_init 59 = .ok (.bipush (-9), 2) := by decide +kernel
theorem dX1_init_61 : decode cX1_init 61 = .ok (.invokestatic 35, 3) := by decide +kernel
theorem dX1_init_64 : decode cX1_init 64 = .ok (.return_, 1) := by decide +kernel
theorem dX1_number_0 : decode cX1_number 0 = .ok (.aload_n 0, 1) := by decide +kernel
theorem dX1_number_1 : decode cX1_number 1 = .ok (.getfield 18, 3) := by decide +kernel
theorem dX1_number_4 : decode cX1_number 4 = .ok (.bipush (-9), 2) := by decide +kernel
theorem dX1_number_6 : decode cX1_number 6 = .ok (.invokestatic 35, 3) := by decide +kernel
theorem dX1_number_9 : decode cX1_number 9 = .ok (.aload_n 0, 1) := by decide +kernel
theorem dX1_number_10 : decode cX1_number 10 = .ok (.iconst 0, 1) := by decide +kernel
theorem dX1_number_11 : decode cX1_number 11 = .ok (.putfield 41, 3) := by decide +kernel
theorem dX1_number_14 : decode cX1_number 14 = .ok (.aload_n 0, 1) := by decide +kernel
theorem dX1_number_15 : decode cX1_number 15 = .ok (.iconst 0, 1) := by decide +kernel
theorem dX1_number_16 : decode cX1_number 16 = .ok (.putfield 45, 3) := by decide +kernel
theorem dX1_number_19 : decode cX1_number 19 = .ok (.iconst 0, 1) := by decide +kernel
theorem dX1_number_20 : decode cX1_number 20 = .ok (.istore_n 2, 1) := by decide +kernel
theorem dX1_number_21 : decode cX1_number 21 = .ok (.iload_n 2, 1) := by decide +kernel
theorem dX1_number_22 : decode cX1_number 22 = .ok (.bipush 48, 2) := by decide +kernel
theorem dX1_number_24 : decode cX1_number 24 = .ok (.if_icmp .ge 34, 3) := by decide +kernel
theorem dX1_number_27 : decode cX1_number 27 = .ok (.aload_n 1, 1) := by decide +kernel
theorem dX1_number_28 : decode cX1_number 28 = .ok (.iload_n 2, 1) := by decide +kernel
theorem dX1_number_29 : decode cX1_number 29 = .ok (.invokevirtual 48, 3) := by decide +kernel
theorem dX1_number_32 : decode cX1_number 32 = .ok (.ifCond .eq 20, 3) := by decide +kernel
theorem dX1_number_35 : decode cX1_number 35 = .ok (.aload_n 0, 1) := by decide +kernel
theorem dX1_number_36 : decode cX1_number 36 = .ok (.getfield 18, 3) := by decide +kernel
theorem dX1_number_39 : decode cX1_number 39 = .ok (.iload_n 2, 1) := by decide +kernel
theorem dX1_number_40 : decode cX1_number 40 = .ok (.iaload, 1) := by decide +kernel
theorem dX1_number_41 : decode cX1_number 41 = .ok (.bipush (-9), 2) := by decide +kernel
theorem dX1_number_43 : decode cX1_number 43 = .ok (.if_icmp .ne 9, 3) := by decide +kernel
theorem dX1_number_46 : decode cX1_number 46 = .ok (.aload_n 0, 1) := by decide +kernel
theorem dX1_number_47 : decode cX1_number 47 = .ok (.aload_n 1, 1) := by decide +kernel
theorem dX1_number_48 : decode cX1_number 48 = .ok (.iload_n 2, 1) := by decide +kernel
theorem dX1_number_49 : decode cX1_number 49 = .ok (.invokevirtual 54, 3) := by decide +kernel
theorem dX1_number_52 : decode cX1_number 52 = .ok (.iinc 2 1, 3) := by decide +kernel
theorem dX1_number_55 : decode cX1_number 55 = .ok (.goto (-34), 3) := by decide +kernel
theorem dX1_number_58 : decode cX1_number 58 = .ok (.return_, 1) := by decide +kernel
theorem dX1_addField_0 : decode cX1_addField 0 = .ok (.aload_n 0, 1) := by decide +kernel
theorem dX1_addField_1 : decode cX1_addField 1 = .ok (.getfield 12, 3) := by decide +kernel
theorem dX1_addField_4 : decode cX1_addField 4 = .ok (.aload_n 1, 1) := by decide +kernel
theorem dX1_addField_5 : decode cX1_addField 5 = .ok (.iload_n 2, 1) := by decide +kernel
theorem dX1_addField_6 : decode cX1_addField 6 = .ok (.invokevirtual 58, 3) := by decide +kernel
theorem dX1_addField_9 : decode cX1_addField 9 = .ok (.iconst 0, 1) := by decide +kernel
theorem dX1_addField_10 : decode cX1_addField 10 = .ok (.istore_n 3, 1) := by decide +kernel
theorem dX1_addField_11 : decode cX1_addField 11 = .ok (.iload_n 3, 1) := by decide +kernel
theorem dX1_addField_12 : decode cX1_addField 12 = .ok (.aload_n 0, 1) := by decide +kernel
theorem dX1_addField_13 : decode cX1_addField 13 = .ok (.getfield 12, 3) := by decide +kernel
theorem dX1_addField_16 : decode cX1_addField 16 = .ok (.invokevirtual 61, 3) := by decide +kernel
theorem dX1_addField_19 : decode cX1_addField 19 = .ok (.if_icmp .ge 28, 3) := by decide +kernel
theorem dX1_addField_22 : decode cX1_addField 22 = .ok (.aload_n 0, 1) := by decide +kernel
theorem dX1_addField_23 : decode cX1_addField 23 = .ok (.getfield 18, 3) := by decide +kernel
theorem dX1_addField_26 : decode cX1_addField 26 = .ok (.aload_n 0, 1) := by decide +kernel
theorem dX1_addField_27 : decode cX1_addField 27 = .ok (.getfield 12, 3) := by decide +kernel
theorem dX1_addField_30 : decode cX1_addField 30 = .ok (.iload_n 3, 1) := by decide +kernel
theorem dX1_addField_31 : decode cX1_addField 31 = .ok (.invokevirtual 64, 3) := by decide +kernel
theorem dX1_addField_34 : decode cX1_addField 34 = .ok (.aload_n 0, 1) := by decide +kernel
theorem dX1_addField_35 : decode cX1_addField 35 = .ok (.getfield 41, 3) := by decide +kernel
theorem dX1_addField_38 : decode cX1_addField 38 = .ok (.invokestatic 67, 3) := by decide +kernel
theorem dX1_addField_41 : decode cX1_addField 41 = .ok (.iinc 3 1, 3) := by decide +kernel
theorem dX1_addField_44 : decode cX1_addField 44 = .ok (.goto (-33), 3) := by decide +kernel
theorem dX1_addField_47 : decode cX1_addField 47 = .ok (.aload_n 0, 1) := by decide +kernel
theorem dX1_addField_48 : decode cX1_addField 48 = .ok (.getfield 22, 3) := by decide +kernel
theorem dX1_addField_51 : decode cX1_addField 51 = .ok (.aload_n 0, 1) := by decide +kernel
theorem dX1_addField_52 : decode cX1_addField 52 = .ok (.getfield 41, 3) := by decide +kernel
theorem dX1_addField_55 : decode cX1_addField 55 = .ok (.aload_n 1, 1) := by decide +kernel
theorem dX1_addField_56 : decode cX1_addField 56 = .ok (.iload_n 2, 1) := by decide +kernel
theorem dX1_addField_57 : decode cX1_addField 57 = .ok (.invokevirtual 48, 3) := by decide +kernel
theorem dX1_addField_60 : decode cX1_addField 60 = .ok (.invokestatic 67, 3) := by decide +kernel
theorem dX1_addField_63 : decode cX1_addField 63 = .ok (.aload_n 0, 1) := by decide +kernel
theorem dX1_addField_64 : decode cX1_addField 64 = .ok (.getfield 25, 3) := by decide +kernel
theorem dX1_addField_67 : decode cX1_addField 67 = .ok (.aload_n 0, 1) := by decide +kernel
theorem dX1_addField_68 : decode cX1_addField 68 = .ok (.getfield 41, 3) := by decide +kernel
theorem dX1_addField_71 : decode cX1_addField 71 = .ok (.aload_n 0, 1) := by decide +kernel
theorem dX1_addField_72 : decode cX1_addField 72 = .ok (.getfield 12, 3) := by decide +kernel
theorem dX1_addField_75 : decode cX1_addField 75 = .ok (.invokevirtual 61, 3) := by decide +kernel
theorem dX1_addField_78 : decode cX1_addField 78 = .ok (.invokestatic 67, 3) := by decide +kernel
theorem dX1_addField_81 : decode cX1_addField 81 = .ok (.aload_n 0, 1) := by decide +kernel
theorem dX1_addField_82 : decode cX1_addField 82 = .ok (.getfield 28, 3) := by decide +kernel
theorem dX1_addField_85 : decode cX1_addField 85 = .ok (.aload_n 0, 1) := by decide +kernel
theorem dX1_addField_86 : decode cX1_addField 86 = .ok (.getfield 41, 3) := by decide +kernel
theorem dX1_addField_89 : decode cX1_addField 89 = .ok (.iload_n 2, 1) := by decide +kernel
theorem dX1_addField_90 : decode cX1_addField 90 = .ok (.invokestatic 67, 3) := by decide +kernel
theorem dX1_addField_93 : decode cX1_addField 93 = .ok (.aload_n 0, 1) := by decide +kernel
theorem dX1_addField_94 : decode cX1_addField 94 = .ok (.dup, 1) := by decide +kernel
theorem dX1_addField_95 : decode cX1_addField 95 = .ok (.getfield 45, 3) := by decide +kernel
theorem dX1_addField_98 : decode cX1_addField 98 = .ok (.aload_n 0, 1) := by decide +kernel
theorem dX1_addField_99 : decode cX1_addField 99 = .ok (.getfield 12, 3) := by decide +kernel
theorem dX1_addField_102 : decode cX1_addField 102 = .ok (.invokevirtual 61, 3) := by decide +kernel
theorem dX1_addField_105 : decode cX1_addField 105 = .ok (.iadd, 1) := by decide +kernel
theorem dX1_addField_106 : decode cX1_addField 106 = .ok (.putfield 45, 3) := by decide +kernel
theorem dX1_addField_109 : decode cX1_addField 109 = .ok (.aload_n 0, 1) := by decide +kernel
theorem dX1_addField_110 : decode cX1_addField 110 = .ok (.dup, 1) := by decide +kernel
theorem dX1_addField_111 : decode cX1_addField 111 = .ok (.getfield 41, 3) := by decide +kernel
theorem dX1_addField_114 : decode cX1_addField 114 = .ok (.iconst 1, 1) := by decide +kernel
theorem dX1_addField_115 : decode cX1_addField 115 = .ok (.iadd, 1) := by decide +kernel
theorem dX1_addField_116 : decode cX1_addField 116 = .ok (.putfield 41, 3) := by decide +kernel
theorem dX1_addField_119 : decode cX1_addField 119 = .ok (.return_, 1) := by decide +kernel
theorem dX1_has_0 : decode cX1_has 0 = .ok (.iload_n 1, 1) := by decide +kernel
theorem dX1_has_1 : decode cX1_has 1 = .ok (.ifCond .lt 15, 3) := by decide +kernel
theorem dX1_has_4 : decode cX1_has 4 = .ok (.iload_n 1, 1) := by decide +kernel
theorem dX1_has_5 : decode cX1_has 5 = .ok (.aload_n 0, 1) := by decide +kernel
theorem dX1_has_6 : decode cX1_has 6 = .ok (.getfield 41, 3) := by decide +kernel
theorem dX1_has_9 : decode cX1_has 9 = .ok (.if_icmp .ge 7, 3) := by decide +kernel
theorem dX1_has_12 : decode cX1_has 12 = .ok (.iconst 1, 1) := by decide +kernel
theorem dX1_has_13 : decode cX1_has 13 = .ok (.goto 4, 3) := by decide +kernel
theorem dX1_has_16 : decode cX1_has 16 = .ok (.iconst 0, 1) := by decide +kernel
theorem dX1_has_17 : decode cX1_has 17 = .ok (.ireturn, 1) := by decide +kernel
theorem dX1_size_0 : decode cX1_size 0 = .ok (.aload_n 0, 1) := by decide +kernel
theorem dX1_size_1 : decode cX1_size 1 = .ok (.getfield 41, 3) := by decide +kernel
theorem dX1_size_4 : decode cX1_size 4 = .ok (.ireturn, 1) := by decide +kernel
theorem dX1_cells_0 : decode cX1_cells 0 = .ok (.aload_n 0, 1) := by decide +kernel
theorem dX1_cells_1 : decode cX1_cells 1 = .ok (.getfield 45, 3) := by decide +kernel
theorem dX1_cells_4 : decode cX1_cells 4 = .ok (.ireturn, 1) := by decide +kernel
theorem dX1_fieldAt_0 : decode cX1_fieldAt 0 = .ok (.aload_n 0, 1) := by decide +kernel
theorem dX1_fieldAt_1 : decode cX1_fieldAt 1 = .ok (.getfield 18, 3) := by decide +kernel
theorem dX1_fieldAt_4 : decode cX1_fieldAt 4 = .ok (.iload_n 1, 1) := by decide +kernel
theorem dX1_fieldAt_5 : decode cX1_fieldAt 5 = .ok (.invokestatic 71, 3) := by decide +kernel
theorem dX1_fieldAt_8 : decode cX1_fieldAt 8 = .ok (.ireturn, 1) := by decide +kernel
theorem dX1_colourOf_0 : decode cX1_colourOf 0 = .ok (.aload_n 0, 1) := by decide +kernel
theorem dX1_colourOf_1 : decode cX1_colourOf 1 = .ok (.getfield 22, 3) := by decide +kernel
theorem dX1_colourOf_4 : decode cX1_colourOf 4 = .ok (.iload_n 1, 1) := by decide +kernel
theorem dX1_colourOf_5 : decode cX1_colourOf 5 = .ok (.invokestatic 71, 3) := by decide +kernel
theorem dX1_colourOf_8 : decode cX1_colourOf 8 = .ok (.ireturn, 1) := by decide +kernel
theorem dX1_sizeOf_0 : decode cX1_sizeOf 0 = .ok (.aload_n 0, 1) := by decide +kernel
theorem dX1_sizeOf_1 : decode cX1_sizeOf 1 = .ok (.getfield 25, 3) := by decide +kernel
theorem dX1_sizeOf_4 : decode cX1_sizeOf 4 = .ok (.iload_n 1, 1) := by decide +kernel
theorem dX1_sizeOf_5 : decode cX1_sizeOf 5 = .ok (.invokestatic 71, 3) := by decide +kernel
theorem dX1_sizeOf_8 : decode cX1_sizeOf 8 = .ok (.ireturn, 1) := by decide +kernel
theorem dX1_smallestOf_0 : decode cX1_smallestOf 0 = .ok (.aload_n 0, 1) := by decide +kernel
theorem dX1_smallestOf_1 : decode cX1_smallestOf 1 = .ok (.getfield 28, 3) := by decide +kernel
theorem dX1_smallestOf_4 : decode cX1_smallestOf 4 = .ok (.iload_n 1, 1) := by decide +kernel
theorem dX1_smallestOf_5 : decode cX1_smallestOf 5 = .ok (.invokestatic 71, 3) := by decide +kernel
theorem dX1_smallestOf_8 : decode cX1_smallestOf 8 = .ok (.ireturn, 1) := by decide +kernel
theorem dX1_touching_0 : decode cX1_touching 0 = .ok (.aload_n 0, 1) := by decide +kernel
theorem dX1_touching_1 : decode cX1_touching 1 = .ok (.getfield 31, 3) := by decide +kernel
theorem dX1_touching_4 : decode cX1_touching 4 = .ok (.invokestatic 75, 3) := by decide +kernel
theorem dX1_touching_7 : decode cX1_touching 7 = .ok (.iconst 0, 1) := by decide +kernel
theorem dX1_touching_8 : decode cX1_touching 8 = .ok (.istore_n 2, 1) := by decide +kernel
theorem dX1_touching_9 : decode cX1_touching 9 = .ok (.iload_n 2, 1) := by decide +kernel
theorem dX1_touching_10 : decode cX1_touching 10 = .ok (.bipush 48, 2) := by decide +kernel
theorem dX1_touching_12 : decode cX1_touching 12 = .ok (.if_icmp .ge 25, 3) := by decide +kernel
theorem dX1_touching_15 : decode cX1_touching 15 = .ok (.aload_n 0, 1) := by decide +kernel
theorem dX1_touching_16 : decode cX1_touching 16 = .ok (.getfield 18, 3) := by decide +kernel
theorem dX1_touching_19 : decode cX1_touching 19 = .ok (.iload_n 2, 1) := by decide +kernel
theorem dX1_touching_20 : decode cX1_touching 20 = .ok (.iaload, 1) := by decide +kernel
theorem dX1_touching_21 : decode cX1_touching 21 = .ok (.iload_n 1, 1) := by decide +kernel
theorem dX1_touching_22 : decode cX1_touching 22 = .ok (.if_icmp .ne 9, 3) := by decide +kernel
theorem dX1_touching_25 : decode cX1_touching 25 = .ok (.aload_n 0, 1) := by decide +kernel
theorem dX1_touching_26 : decode cX1_touching 26 = .ok (.iload_n 2, 1) := by decide +kernel
theorem dX1_touching_27 : decode cX1_touching 27 = .ok (.iload_n 1, 1) := by decide +kernel
theorem dX1_touching_28 : decode cX1_touching 28 = .ok (.invokevirtual 79, 3) := by decide +kernel
theorem dX1_touching_31 : decode cX1_touching 31 = .ok (.iinc 2 1, 3) := by decide +kernel
theorem dX1_touching_34 : decode cX1_touching 34 = .ok (.goto (-25), 3) := by decide +kernel
theorem dX1_touching_37 : decode cX1_touching 37 = .ok (.aload_n 0, 1) := by decide +kernel
theorem dX1_touching_38 : decode cX1_touching 38 = .ok (.getfield 31, 3) := by decide +kernel
theorem dX1_touching_41 : decode cX1_touching 41 = .ok (.invokestatic 83, 3) := by decide +kernel
theorem dX1_touching_44 : decode cX1_touching 44 = .ok (.ireturn, 1) := by decide +kernel
theorem dX1_markBeside_0 : decode cX1_markBeside 0 = .ok (.iconst 0, 1) := by decide +kernel
theorem dX1_markBeside_1 : decode cX1_markBeside 1 = .ok (.istore_n 3, 1) := by decide +kernel
theorem dX1_markBeside_2 : decode cX1_markBeside 2 = .ok (.iload_n 3, 1) := by decide +kernel
theorem dX1_markBeside_3 : decode cX1_markBeside 3 = .ok (.iconst 4, 1) := by decide +kernel
theorem dX1_markBeside_4 : decode cX1_markBeside 4 = .ok (.if_icmp .ge 46, 3) := by decide +kernel
theorem dX1_markBeside_7 : decode cX1_markBeside 7 = .ok (.aload_n 0, 1) := by decide +kernel
theorem dX1_markBeside_8 : decode cX1_markBeside 8 = .ok (.iload_n 1, 1) := by decide +kernel
theorem dX1_markBeside_9 : decode cX1_markBeside 9 = .ok (.iload_n 3, 1) := by decide +kernel
theorem dX1_markBeside_10 : decode cX1_markBeside 10 = .ok (.invokestatic 87, 3) := by decide +kernel
theorem dX1_markBeside_13 : decode cX1_markBeside 13 = .ok (.invokevirtual 91, 3) := by decide +kernel
theorem dX1_markBeside_16 : decode cX1_markBeside 16 = .ok (.istore 4, 2) := by decide +kernel
theorem dX1_markBeside_18 : decode cX1_markBeside 18 = .ok (.iload 4, 2) := by decide +kernel
theorem dX1_markBeside_20 : decode cX1_markBeside 20 = .ok (.ifCond .lt 24, 3) := by decide +kernel
theorem dX1_markBeside_23 : decode cX1_markBeside 23 = .ok (.iload 4, 2) := by decide +kernel
theorem dX1_markBeside_25 : decode cX1_markBeside 25 = .ok (.bipush 48, 2) := by decide +kernel
theorem dX1_markBeside_27 : decode cX1_markBeside 27 = .ok (.if_icmp .ge 17, 3) := by decide +kernel
theorem dX1_markBeside_30 : decode cX1_markBeside 30 = .ok (.iload 4, 2) := by decide +kernel
theorem dX1_markBeside_32 : decode cX1_markBeside 32 = .ok (.iload_n 2, 1) := by decide +kernel
theorem dX1_markBeside_33 : decode cX1_markBeside 33 = .ok (.if_icmp .eq 11, 3) := by decide +kernel
theorem dX1_markBeside_36 : decode cX1_markBeside 36 = .ok (.aload_n 0, 1) := by decide +kernel
theorem dX1_markBeside_37 : decode cX1_markBeside 37 = .ok (.getfield 31, 3) := by decide +kernel
theorem dX1_markBeside_40 : decode cX1_markBeside 40 = .ok (.iload 4, 2) := by decide +kernel
theorem dX1_markBeside_42 : decode cX1_markBeside 42 = .ok (.iconst 1, 1) := by decide +kernel
theorem dX1_markBeside_43 : decode cX1_markBeside 43 = .ok (.bastore, 1) := by decide +kernel
theorem dX1_markBeside_44 : decode cX1_markBeside 44 = .ok (.iinc 3 1, 3) := by decide +kernel
theorem dX1_markBeside_47 : decode cX1_markBeside 47 = .ok (.goto (-45), 3) := by decide +kernel
theorem dX1_markBeside_50 : decode cX1_markBeside 50 = .ok (.return_, 1) := by decide +kernel
theorem dX2_init_0 : decode cX2_init 0 = .ok (.aload_n 0, 1) := by decide +kernel
theorem dX2_init_1 : decode cX2_init 1 = .ok (.invokespecial 3, 3) := by decide +kernel
theorem dX2_init_4 : decode cX2_init 4 = .ok (.aload_n 0, 1) := by decide +kernel
theorem dX2_init_5 : decode cX2_init 5 = .ok (.bipush 6, 2) := by decide +kernel
theorem dX2_init_7 : decode cX2_init 7 = .ok (.bipush 60, 2) := by decide +kernel
theorem dX2_init_9 : decode cX2_init 9 = .ok (.multianewarray 11 2, 4) := by decide +kernel
theorem dX2_init_13 : decode cX2_init 13 = .ok (.putfield 13, 3) := by decide +kernel
theorem dX2_init_16 : decode cX2_init 16 = .ok (.return_, 1) := by decide +kernel
theorem dX2_size_0 : decode cX2_size 0 = .ok (.aload_n 0, 1) := by decide +kernel
theorem dX2_size_1 : decode cX2_size 1 = .ok (.getfield 18, 3) := by decide +kernel
theorem dX2_size_4 : decode cX2_size 4 = .ok (.ireturn, 1) := by decide +kernel
theorem dX2_drop_0 : decode cX2_drop 0 = .ok (.aload_n 0, 1) := by decide +kernel
theorem dX2_drop_1 : decode cX2_drop 1 = .ok (.iconst 0, 1) := by decide +kernel
theorem dX2_drop_2 : decode cX2_drop 2 = .ok (.putfield 18, 3) := by decide +kernel
theorem dX2_drop_5 : decode cX2_drop 5 = .ok (.return_, 1) := by decide +kernel
theorem dX2_push_0 : decode cX2_push 0 = .ok (.aload_n 0, 1) := by decide +kernel
theorem dX2_push_1 : decode cX2_push 1 = .ok (.getfield 22, 3) := by decide +kernel
theorem dX2_push_4 : decode cX2_push 4 = .ok (.iconst 0, 1) := by decide +kernel
theorem dX2_push_5 : decode cX2_push 5 = .ok (.iconst 5, 1) := by decide +kernel
theorem dX2_push_6 : decode cX2_push 6 = .ok (.invokestatic 25, 3) := by decide +kernel
theorem dX2_push_9 : decode cX2_push 9 = .ok (.ifCond .eq 16, 3) := by decide +kernel
theorem dX2_push_12 : decode cX2_push 12 = .ok (.aload_n 1, 1) := by decide +kernel
theorem dX2_push_13 : decode cX2_push 13 = .ok (.aload_n 0, 1) := by decide +kernel
theorem dX2_push_14 : decode cX2_push 14 = .ok (.getfield 13, 3) := by decide +kernel
theorem dX2_push_17 : decode cX2_push 17 = .ok (.aload_n 0, 1) := by decide +kernel
theorem dX2_push_18 : decode cX2_push 18 = .ok (.getfield 22, 3) := by decide +kernel
theorem dX2_push_21 : decode cX2_push 21 = .ok (.aaload, 1) := by decide +kernel
theorem dX2_push_22 : decode cX2_push 22 = .ok (.invokevirtual 29, 3) := by decide +kernel
theorem dX2_push_25 : decode cX2_push 25 = .ok (.aload_n 0, 1) := by decide +kernel
theorem dX2_push_26 : decode cX2_push 26 = .ok (.aload_n 0, 1) := by decide +kernel
theorem dX2_push_27 : decode cX2_push 27 = .ok (.getfield 22, 3) := by decide +kernel
theorem dX2_push_30 : decode cX2_push 30 = .ok (.iconst 1, 1) := by decide +kernel
theorem dX2_push_31 : decode cX2_push 31 = .ok (.iadd, 1) := by decide +kernel
theorem dX2_push_32 : decode cX2_push 32 = .ok (.bipush 6, 2) := by decide +kernel
theorem dX2_push_34 : decode cX2_push 34 = .ok (.if_icmp .ge 12, 3) := by decide +kernel
theorem dX2_push_37 : decode cX2_push 37 = .ok (.aload_n 0, 1) := by decide +kernel
theorem dX2_push_38 : decode cX2_push 38 = .ok (.getfield 22, 3) := by decide +kernel
theorem dX2_push_41 : decode cX2_push 41 = .ok (.iconst 1, 1) := by decide +kernel
theorem dX2_push_42 : decode cX2_push 42 = .ok (.iadd, 1) := by decide +kernel
theorem dX2_push_43 : decode cX2_push 43 = .ok (.goto 4, 3) := by decide +kernel
theorem dX2_push_46 : decode cX2_push 46 = .ok (.iconst 0, 1) := by decide +kernel
theorem dX2_push_47 : decode cX2_push 47 = .ok (.putfield 22, 3) := by decide +kernel
theorem dX2_push_50 : decode cX2_push 50 = .ok (.aload_n 0, 1) := by decide +kernel
theorem dX2_push_51 : decode cX2_push 51 = .ok (.aload_n 0, 1) := by decide +kernel
theorem dX2_push_52 : decode cX2_push 52 = .ok (.getfield 18, 3) := by decide +kernel
theorem dX2_push_55 : decode cX2_push 55 = .ok (.iconst 1, 1) := by decide +kernel
theorem dX2_push_56 : decode cX2_push 56 = .ok (.iadd, 1) := by decide +kernel
theorem dX2_push_57 : decode cX2_push 57 = .ok (.bipush 6, 2) := by decide +kernel
theorem dX2_push_59 : decode cX2_push 59 = .ok (.invokestatic 33, 3) := by decide +kernel
theorem dX2_push_62 : decode cX2_push 62 = .ok (.putfield 18, 3) := by decide +kernel
theorem dX2_push_65 : decode cX2_push 65 = .ok (.return_, 1) := by decide +kernel
theorem dX2_pop_0 : decode cX2_pop 0 = .ok (.aload_n 0, 1) := by decide +kernel
theorem dX2_pop_1 : decode cX2_pop 1 = .ok (.aload_n 0, 1) := by decide +kernel
theorem dX2_pop_2 : decode cX2_pop 2 = .ok (.getfield 22, 3) := by decide +kernel
theorem dX2_pop_5 : decode cX2_pop 5 = .ok (.ifCond .le 12, 3) := by decide +kernel
theorem dX2_pop_8 : decode cX2_pop 8 = .ok (.aload_n 0, 1) := by decide +kernel
theorem dX2_pop_9 : decode cX2_pop 9 = .ok (.getfield 22, 3) := by decide +kernel
theorem dX2_pop_12 : decode cX2_pop 12 = .ok (.iconst 1, 1) := by decide +kernel
theorem dX2_pop_13 : decode cX2_pop 13 = .ok (.isub, 1) := by decide +kernel
theorem dX2_pop_14 : decode cX2_pop 14 = .ok (.goto 4, 3) := by decide +kernel
theorem dX2_pop_17 : decode cX2_pop 17 = .ok (.iconst 5, 1) := by decide +kernel
theorem dX2_pop_18 : decode cX2_pop 18 = .ok (.putfield 22, 3) := by decide +kernel
theorem dX2_pop_21 : decode cX2_pop 21 = .ok (.aload_n 0, 1) := by decide +kernel
theorem dX2_pop_22 : decode cX2_pop 22 = .ok (.getfield 22, 3) := by decide +kernel
theorem dX2_pop_25 : decode cX2_pop 25 = .ok (.iconst 0, 1) := by decide +kernel
theorem dX2_pop_26 : decode cX2_pop 26 = .ok (.iconst 5, 1) := by decide +kernel
theorem dX2_pop_27 : decode cX2_pop 27 = .ok (.invokestatic 25, 3) := by decide +kernel
theorem dX2_pop_30 : decode cX2_pop 30 = .ok (.ifCond .eq 16, 3) := by decide +kernel
theorem dX2_pop_33 : decode cX2_pop 33 = .ok (.aload_n 1, 1) := by decide +kernel
theorem dX2_pop_34 : decode cX2_pop 34 = .ok (.aload_n 0, 1) := by decide +kernel
theorem dX2_pop_35 : decode cX2_pop 35 = .ok (.getfield 13, 3) := by decide +kernel
theorem dX2_pop_38 : decode cX2_pop 38 = .ok (.aload_n 0, 1) := by decide +kernel
theorem dX2_pop_39 : decode cX2_pop 39 = .ok (.getfield 22, 3) := by decide +kernel
theorem dX2_pop_42 : decode cX2_pop 42 = .ok (.aaload, 1) := by decide +kernel
theorem dX2_pop_43 : decode cX2_pop 43 = .ok (.invokevirtual 39, 3) := by decide +kernel
theorem dX2_pop_46 : decode cX2_pop 46 = .ok (.aload_n 0, 1) := by decide +kernel
theorem dX2_pop_47 : decode cX2_pop 47 = .ok (.aload_n 0, 1) := by decide +kernel
theorem dX2_pop_48 : decode cX2_pop 48 = .ok (.getfield 18, 3) := by decide +kernel
theorem dX2_pop_51 : decode cX2_pop 51 = .ok (.iconst 1, 1) := by decide +kernel
theorem dX2_pop_52 : decode cX2_pop 52 = .ok (.isub, 1) := by decide +kernel
theorem dX2_pop_53 : decode cX2_pop 53 = .ok (.iconst 0, 1) := by decide +kernel
theorem dX2_pop_54 : decode cX2_pop 54 = .ok (.invokestatic 42, 3) := by decide +kernel
theorem dX2_pop_57 : decode cX2_pop 57 = .ok (.putfield 18, 3) := by decide +kernel
theorem dX2_pop_60 : decode cX2_pop 60 = .ok (.return_, 1) := by decide +kernel
theorem dX3_init_0 : decode cX3_init 0 = .ok (.aload_n 0, 1) := by decide +kernel
theorem dX3_init_1 : decode cX3_init 1 = .ok (.invokespecial 3, 3) := by decide +kernel
theorem dX3_init_4 : decode cX3_init 4 = .ok (.aload_n 0, 1) := by decide +kernel
theorem dX3_init_5 : decode cX3_init 5 = .ok (.bipush 6, 2) := by decide +kernel
theorem dX3_init_7 : decode cX3_init 7 = .ok (.newarray .int, 2) := by decide +kernel
theorem dX3_init_9 : decode cX3_init 9 = .ok (.putfield 9, 3) := by decide +kernel
theorem dX3_init_12 : decode cX3_init 12 = .ok (.aload_n 0, 1) := by decide +kernel
theorem dX3_init_13 : decode cX3_init 13 = .ok (.bipush 6, 2) := by decide +kernel
theorem dX3_init_15 : decode cX3_init 15 = .ok (.newarray .int, 2) := by decide +kernel
theorem dX3_init_17 : decode cX3_init 17 = .ok (.putfield 15, 3) := by decide +kernel
theorem dX3_init_20 : decode cX3_init 20 = .ok (.aload_n 0, 1) := by decide +kernel
theorem dX3_init_21 : decode cX3_init 21 = .ok (.bipush 6, 2) := by decide +kernel
theorem dX3_init_23 : decode cX3_init 23 = .ok (.newarray .int, 2) := by decide +kernel
theorem dX3_init_25 : decode cX3_init 25 = .ok (.putfield 18, 3) := by decide +kernel
theorem dX3_init_28 : decode cX3_init 28 = .ok (.return_, 1) := by decide +kernel
theorem dX3_size_0 : decode cX3_size 0 = .ok (.aload_n 0, 1) := by decide +kernel
theorem dX3_size_1 : decode cX3_size 1 = .ok (.getfield 21, 3) := by decide +kernel
theorem dX3_size_4 : decode cX3_size 4 = .ok (.ireturn, 1) := by decide +kernel
theorem dX3_add_0 : decode cX3_add 0 = .ok (.aload_n 0, 1) := by decide +kernel
theorem dX3_add_1 : decode cX3_add 1 = .ok (.getfield 9, 3) := by decide +kernel
theorem dX3_add_4 : decode cX3_add 4 = .ok (.aload_n 0, 1) := by decide +kernel
theorem dX3_add_5 : decode cX3_add 5 = .ok (.getfield 21, 3) := by decide +kernel
theorem dX3_add_8 : decode cX3_add 8 = .ok (.iload_n 1, 1) := by decide +kernel
theorem dX3_add_9 : decode cX3_add 9 = .ok (.invokestatic 25, 3) := by decide +kernel
theorem dX3_add_12 : decode cX3_add 12 = .ok (.aload_n 0, 1) := by decide +kernel
theorem dX3_add_13 : decode cX3_add 13 = .ok (.getfield 15, 3) := by decide +kernel
theorem dX3_add_16 : decode cX3_add 16 = .ok (.aload_n 0, 1) := by decide +kernel
theorem dX3_add_17 : decode cX3_add 17 = .ok (.getfield 21, 3) := by decide +kernel
theorem dX3_add_20 : decode cX3_add 20 = .ok (.iload_n 2, 1) := by decide +kernel
theorem dX3_add_21 : decode cX3_add 21 = .ok (.invokestatic 25, 3) := by decide +kernel
theorem dX3_add_24 : decode cX3_add 24 = .ok (.aload_n 0, 1) := by decide +kernel
theorem dX3_add_25 : decode cX3_add 25 = .ok (.getfield 18, 3) := by decide +kernel
theorem dX3_add_28 : decode cX3_add 28 = .ok (.aload_n 0, 1) := by decide +kernel
theorem dX3_add_29 : decode cX3_add 29 = .ok (.getfield 21, 3) := by decide +kernel
theorem dX3_add_32 : decode cX3_add 32 = .ok (.iload_n 3, 1) := by decide +kernel
theorem dX3_add_33 : decode cX3_add 33 = .ok (.invokestatic 25, 3) := by decide +kernel
theorem dX3_add_36 : decode cX3_add 36 = .ok (.aload_n 0, 1) := by decide +kernel
theorem dX3_add_37 : decode cX3_add 37 = .ok (.aload_n 0, 1) := by decide +kernel
theorem dX3_add_38 : decode cX3_add 38 = .ok (.getfield 21, 3) := by decide +kernel
theorem dX3_add_41 : decode cX3_add 41 = .ok (.iconst 1, 1) := by decide +kernel
theorem dX3_add_42 : decode cX3_add 42 = .ok (.iadd, 1) := by decide +kernel
theorem dX3_add_43 : decode cX3_add 43 = .ok (.bipush 6, 2) := by decide +kernel
theorem dX3_add_45 : decode cX3_add 45 = .ok (.invokestatic 29, 3) := by decide +kernel
theorem dX3_add_48 : decode cX3_add 48 = .ok (.putfield 21, 3) := by decide +kernel
theorem dX3_add_51 : decode cX3_add 51 = .ok (.return_, 1) := by decide +kernel
theorem dX3_drop_0 : decode cX3_drop 0 = .ok (.aload_n 0, 1) := by decide +kernel
theorem dX3_drop_1 : decode cX3_drop 1 = .ok (.iconst 0, 1) := by decide +kernel
theorem dX3_drop_2 : decode cX3_drop 2 = .ok (.putfield 21, 3) := by decide +kernel
theorem dX3_drop_5 : decode cX3_drop 5 = .ok (.return_, 1) := by decide +kernel
theorem dX3_agree_0 : decode cX3_agree 0 = .ok (.iconst 0, 1) := by decide +kernel
theorem dX3_agree_1 : decode cX3_agree 1 = .ok (.istore 5, 2) := by decide +kernel
theorem dX3_agree_3 : decode cX3_agree 3 = .ok (.iload 5, 2) := by decide +kernel
theorem dX3_agree_5 : decode cX3_agree 5 = .ok (.aload_n 0, 1) := by decide +kernel
theorem dX3_agree_6 : decode cX3_agree 6 = .ok (.getfield 21, 3) := by decide +kernel
theorem dX3_agree_9 : decode cX3_agree 9 = .ok (.if_icmp .ge 54, 3) := by decide +kernel
theorem dX3_agree_12 : decode cX3_agree 12 = .ok (.aload_n 3, 1) := by decide +kernel
theorem dX3_agree_13 : decode cX3_agree 13 = .ok (.aload_n 1, 1) := by decide +kernel
theorem dX3_agree_14 : decode cX3_agree 14 = .ok (.aload_n 2, 1) := by decide +kernel
theorem dX3_agree_15 : decode cX3_agree 15 = .ok (.iload 4, 2) := by decide +kernel
theorem dX3_agree_17 : decode cX3_agree 17 = .ok (.aload_n 0, 1) := by decide +kernel
theorem dX3_agree_18 : decode cX3_agree 18 = .ok (.getfield 9, 3) := by decide +kernel
theorem dX3_agree_21 : decode cX3_agree 21 = .ok (.iload 5, 2) := by decide +kernel
theorem dX3_agree_23 : decode cX3_agree 23 = .ok (.invokestatic 35, 3) := by decide +kernel
theorem dX3_agree_26 : decode cX3_agree 26 = .ok (.invokevirtual 39, 3) := by decide +kernel
theorem dX3_agree_29 : decode cX3_agree 29 = .ok (.aload_n 3, 1) := by decide +kernel
theorem dX3_agree_30 : decode cX3_agree 30 = .ok (.aload_n 1, 1) := by decide +kernel
theorem dX3_agree_31 : decode cX3_agree 31 = .ok (.aload_n 0, 1) := by decide +kernel
theorem dX3_agree_32 : decode cX3_agree 32 = .ok (.getfield 15, 3) := by decide +kernel
theorem dX3_agree_35 : decode cX3_agree 35 = .ok (.iload 5, 2) := by decide +kernel
theorem dX3_agree_37 : decode cX3_agree 37 = .ok (.invokestatic 35, 3) := by decide +kernel
theorem dX3_agree_40 : decode cX3_agree 40 = .ok (.invokevirtual 45, 3) := by decide +kernel
theorem dX3_agree_43 : decode cX3_agree 43 = .ok (.aload_n 0, 1) := by decide +kernel
theorem dX3_agree_44 : decode cX3_agree 44 = .ok (.getfield 18, 3) := by decide +kernel
theorem dX3_agree_47 : decode cX3_agree 47 = .ok (.iload 5, 2) := by decide +kernel
theorem dX3_agree_49 : decode cX3_agree 49 = .ok (.invokestatic 35, 3) := by decide +kernel
theorem dX3_agree_52 : decode cX3_agree 52 = .ok (.if_icmp .eq 5, 3) := by decide +kernel
theorem dX3_agree_55 : decode cX3_agree 55 = .ok (.iconst 0, 1) := by decide +kernel
theorem dX3_agree_56 : decode cX3_agree 56 = .ok (.ireturn, 1) := by decide +kernel
theorem dX3_agree_57 : decode cX3_agree 57 = .ok (.iinc 5 1, 3) := by decide +kernel
theorem dX3_agree_60 : decode cX3_agree 60 = .ok (.goto (-57), 3) := by decide +kernel
theorem dX3_agree_63 : decode cX3_agree 63 = .ok (.iconst 1, 1) := by decide +kernel
theorem dX3_agree_64 : decode cX3_agree 64 = .ok (.ireturn, 1) := by decide +kernel
theorem dX4_init_0 : decode cX4_init 0 = .ok (.aload_n 0, 1) := by decide +kernel
theorem dX4_init_1 : decode cX4_init 1 = .ok (.invokespecial 3, 3) := by decide +kernel
theorem dX4_init_4 : decode cX4_init 4 = .ok (.aload_n 0, 1) := by decide +kernel
theorem dX4_init_5 : decode cX4_init 5 = .ok (.new 9, 3) := by decide +kernel
theorem dX4_init_8 : decode cX4_init 8 = .ok (.dup, 1) := by decide +kernel
theorem dX4_init_9 : decode cX4_init 9 = .ok (.invokespecial 11, 3) := by decide +kernel
theorem dX4_init_12 : decode cX4_init 12 = .ok (.putfield 12, 3) := by decide +kernel
theorem dX4_init_15 : decode cX4_init 15 = .ok (.return_, 1) := by decide +kernel
theorem dX4_told_0 : decode cX4_told 0 = .ok (.aload_n 0, 1) := by decide +kernel
theorem dX4_told_1 : decode cX4_told 1 = .ok (.getfield 12, 3) := by decide +kernel
theorem dX4_told_4 : decode cX4_told 4 = .ok (.areturn, 1) := by decide +kernel
theorem dX4_read_0 : decode cX4_read 0 = .ok (.aload_n 0, 1) := by decide +kernel
theorem dX4_read_1 : decode cX4_read 1 = .ok (.getfield 12, 3) := by decide +kernel
theorem dX4_read_4 : decode cX4_read 4 = .ok (.invokevirtual 18, 3) := by decide +kernel
theorem dX4_read_7 : decode cX4_read 7 = .ok (.aload_n 0, 1) := by decide +kernel
theorem dX4_read_8 : decode cX4_read 8 = .ok (.iconst 0, 1) := by decide +kernel
theorem dX4_read_9 : decode cX4_read 9 = .ok (.putfield 21, 3) := by decide +kernel
theorem dX4_read_12 : decode cX4_read 12 = .ok (.aload_n 1, 1) := by decide +kernel
theorem dX4_read_13 : decode cX4_read 13 = .ok (.invokevirtual 25, 3) := by decide +kernel
theorem dX4_read_16 : decode cX4_read 16 = .ok (.iconst 0, 1) := by decide +kernel
theorem dX4_read_17 : decode cX4_read 17 = .ok (.istore_n 2, 1) := by decide +kernel
theorem dX4_read_18 : decode cX4_read 18 = .ok (.iload_n 2, 1) := by decide +kernel
theorem dX4_read_19 : decode cX4_read 19 = .ok (.bipush 120, 2) := by decide +kernel
theorem dX4_read_21 : decode cX4_read 21 = .ok (.if_icmp .ge 32, 3) := by decide +kernel
theorem dX4_read_24 : decode cX4_read 24 = .ok (.aload_n 1, 1) := by decide +kernel
theorem dX4_read_25 : decode cX4_read 25 = .ok (.invokevirtual 30, 3) := by decide +kernel
theorem dX4_read_28 : decode cX4_read 28 = .ok (.ifCond .ne 25, 3) := by decide +kernel
theorem dX4_read_31 : decode cX4_read 31 = .ok (.aload_n 0, 1) := by decide +kernel
theorem dX4_read_32 : decode cX4_read 32 = .ok (.aload_n 1, 1) := by decide +kernel
theorem dX4_read_33 : decode cX4_read 33 = .ok (.invokevirtual 34, 3) := by decide +kernel
theorem dX4_read_36 : decode cX4_read 36 = .ok (.ifCond .ne 11, 3) := by decide +kernel
theorem dX4_read_39 : decode cX4_read 39 = .ok (.bipush (-10), 2) := by decide +kernel
theorem dX4_read_41 : decode cX4_read 41 = .ok (.aload_n 1, 1) := by decide +kernel
theorem dX4_read_42 : decode cX4_read 42 = .ok (.invokevirtual 38, 3) := by decide +kernel
theorem dX4_read_45 : decode cX4_read 45 = .ok (.isub, 1) := by decide +kernel
theorem dX4_read_46 : decode cX4_read 46 = .ok (.ireturn, 1) := by decide +kernel
theorem dX4_read_47 : decode cX4_read 47 = .ok (.iinc 2 1, 3) := by decide +kernel
theorem dX4_read_50 : decode cX4_read 50 = .ok (.goto (-32), 3) := by decide +kernel
theorem dX4_read_53 : decode cX4_read 53 = .ok (.aload_n 0, 1) := by decide +kernel
theorem dX4_read_54 : decode cX4_read 54 = .ok (.getfield 21, 3) := by decide +kernel
theorem dX4_read_57 : decode cX4_read 57 = .ok (.ifCond .ne 13, 3) := by decide +kernel
theorem dX4_read_60 : decode cX4_read 60 = .ok (.bipush (-10), 2) := by decide +kernel
theorem dX4_read_62 : decode cX4_read 62 = .ok (.aload_n 1, 1) := by decide +kernel
theorem dX4_read_63 : decode cX4_read 63 = .ok (.invokevirtual 38, 3) := by decide +kernel
theorem dX4_read_66 : decode cX4_read 66 = .ok (.isub, 1) := by decide +kernel
theorem dX4_read_67 : decode cX4_read 67 = .ok (.goto 4, 3) := by decide +kernel
theorem dX4_read_70 : decode cX4_read 70 = .ok (.iload_n 2, 1) := by decide +kernel
theorem dX4_read_71 : decode cX4_read 71 = .ok (.ireturn, 1) := by decide +kernel
theorem dX4_passItem_0 : decode cX4_passItem 0 = .ok (.aload_n 1, 1) := by decide +kernel
theorem dX4_passItem_1 : decode cX4_passItem 1 = .ok (.ldc 42, 2) := by decide +kernel
theorem dX4_passItem_3 : decode cX4_passItem 3 = .ok (.invokevirtual 44, 3) := by decide +kernel
theorem dX4_passItem_6 : decode cX4_passItem 6 = .ok (.ifCond .eq 38, 3) := by decide +kernel
theorem dX4_passItem_9 : decode cX4_passItem 9 = .ok (.aload_n 0, 1) := by decide +kernel
theorem dX4_passItem_10 : decode cX4_passItem 10 = .ok (.getfield 21, 3) := by decide +kernel
theorem dX4_passItem_13 : decode cX4_passItem 13 = .ok (.bipush 6, 2) := by decide +kernel
theorem dX4_passItem_15 : decode cX4_passItem 15 = .ok (.if_icmp .ge 29, 3) := by decide +kernel
theorem dX4_passItem_18 : decode cX4_passItem 18 = .ok (.aload_n 1, 1) := by decide +kernel
theorem dX4_passItem_19 : decode cX4_passItem 19 = .ok (.invokevirtual 48, 3) := by decide +kernel
theorem dX4_passItem_22 : decode cX4_passItem 22 = .ok (.aload_n 0, 1) := by decide +kernel
theorem dX4_passItem_23 : decode cX4_passItem 23 = .ok (.aload_n 1, 1) := by decide +kernel
theorem dX4_passItem_24 : decode cX4_passItem 24 = .ok (.invokevirtual 51, 3) := by decide +kernel
theorem dX4_passItem_27 : decode cX4_passItem 27 = .ok (.ifCond .eq 15, 3) := by decide +kernel
theorem dX4_passItem_30 : decode cX4_passItem 30 = .ok (.aload_n 0, 1) := by decide +kernel
theorem dX4_passItem_31 : decode cX4_passItem 31 = .ok (.aload_n 1, 1) := by decide +kernel
theorem dX4_passItem_32 : decode cX4_passItem 32 = .ok (.invokevirtual 54, 3) := by decide +kernel
theorem dX4_passItem_35 : decode cX4_passItem 35 = .ok (.ifCond .eq 7, 3) := by decide +kernel
theorem dX4_passItem_38 : decode cX4_passItem 38 = .ok (.iconst 1, 1) := by decide +kernel
theorem dX4_passItem_39 : decode cX4_passItem 39 = .ok (.goto 4, 3) := by decide +kernel
theorem dX4_passItem_42 : decode cX4_passItem 42 = .ok (.iconst 0, 1) := by decide +kernel
theorem dX4_passItem_43 : decode cX4_passItem 43 = .ok (.ireturn, 1) := by decide +kernel
theorem dX4_passItem_44 : decode cX4_passItem 44 = .ok (.aload_n 1, 1) := by decide +kernel
theorem dX4_passItem_45 : decode cX4_passItem 45 = .ok (.ldc 57, 2) := by decide +kernel
theorem dX4_passItem_47 : decode cX4_passItem 47 = .ok (.invokevirtual 44, 3) := by decide +kernel
theorem dX4_passItem_50 : decode cX4_passItem 50 = .ok (.ifCond .eq 27, 3) := by decide +kernel
theorem dX4_passItem_53 : decode cX4_passItem 53 = .ok (.aload_n 0, 1) := by decide +kernel
theorem dX4_passItem_54 : decode cX4_passItem 54 = .ok (.aload_n 1, 1) := by decide +kernel
theorem dX4_passItem_55 : decode cX4_passItem 55 = .ok (.iconst 4, 1) := by decide +kernel
theorem dX4_passItem_56 : decode cX4_passItem 56 = .ok (.iconst 1, 1) := by decide +kernel
theorem dX4_passItem_57 : decode cX4_passItem 57 = .ok (.invokevirtual 59, 3) := by decide +kernel
theorem dX4_passItem_60 : decode cX4_passItem 60 = .ok (.ifCond .eq 15, 3) := by decide +kernel
theorem dX4_passItem_63 : decode cX4_passItem 63 = .ok (.aload_n 0, 1) := by decide +kernel
theorem dX4_passItem_64 : decode cX4_passItem 64 = .ok (.aload_n 1, 1) := by decide +kernel
theorem dX4_passItem_65 : decode cX4_passItem 65 = .ok (.invokevirtual 54, 3) := by decide +kernel
theorem dX4_passItem_68 : decode cX4_passItem 68 = .ok (.ifCond .eq 7, 3) := by decide +kernel
theorem dX4_passItem_71 : decode cX4_passItem 71 = .ok (.iconst 1, 1) := by decide +kernel
theorem dX4_passItem_72 : decode cX4_passItem 72 = .ok (.goto 4, 3) := by decide +kernel
theorem dX4_passItem_75 : decode cX4_passItem 75 = .ok (.iconst 0, 1) := by decide +kernel
theorem dX4_passItem_76 : decode cX4_passItem 76 = .ok (.ireturn, 1) := by decide +kernel
theorem dX4_passItem_77 : decode cX4_passItem 77 = .ok (.aload_n 1, 1) := by decide +kernel
theorem dX4_passItem_78 : decode cX4_passItem 78 = .ok (.ldc 63, 2) := by decide +kernel
theorem dX4_passItem_80 : decode cX4_passItem 80 = .ok (.invokevirtual 44, 3) := by decide +kernel
theorem dX4_passItem_83 : decode cX4_passItem 83 = .ok (.ifCond .eq 29, 3) := by decide +kernel
theorem dX4_passItem_86 : decode cX4_passItem 86 = .ok (.aload_n 0, 1) := by decide +kernel
theorem dX4_passItem_87 : decode cX4_passItem 87 = .ok (.aload_n 1, 1) := by decide +kernel
theorem dX4_passItem_88 : decode cX4_passItem 88 = .ok (.bipush 8, 2) := by decide +kernel
theorem dX4_passItem_90 : decode cX4_passItem 90 = .ok (.bipush 9, 2) := by decide +kernel
theorem dX4_passItem_92 : decode cX4_passItem 92 = .ok (.invokevirtual 59, 3) := by decide +kernel
theorem dX4_passItem_95 : decode cX4_passItem 95 = .ok (.ifCond .eq 15, 3) := by decide +kernel
theorem dX4_passItem_98 : decode cX4_passItem 98 = .ok (.aload_n 0, 1) := by decide +kernel
theorem dX4_passItem_99 : decode cX4_passItem 99 = .ok (.aload_n 1, 1) := by decide +kernel
theorem dX4_passItem_100 : decode cX4_passItem 100 = .ok (.invokevirtual 54, 3) := by decide +kernel
theorem dX4_passItem_103 : decode cX4_passItem 103 = .ok (.ifCond .eq 7, 3) := by decide +kernel
theorem dX4_passItem_106 : decode cX4_passItem 106 = .ok (.iconst 1, 1) := by decide +kernel
theorem dX4_passItem_107 : decode cX4_passItem 107 = .ok (.goto 4, 3) := by decide +kernel
theorem dX4_passItem_110 : decode cX4_passItem 110 = .ok (.iconst 0, 1) := by decide +kernel
theorem dX4_passItem_111 : decode cX4_passItem 111 = .ok (.ireturn, 1) := by decide +kernel
theorem dX4_passItem_112 : decode cX4_passItem 112 = .ok (.aload_n 1, 1) := by decide +kernel
theorem dX4_passItem_113 : decode cX4_passItem 113 = .ok (.ldc 65, 2) := by decide +kernel
theorem dX4_passItem_115 : decode cX4_passItem 115 = .ok (.invokevirtual 44, 3) := by decide +kernel
theorem dX4_passItem_118 : decode cX4_passItem 118 = .ok (.ifCond .eq 32, 3) := by decide +kernel
theorem dX4_passItem_121 : decode cX4_passItem 121 = .ok (.aload_n 1, 1) := by decide +kernel
theorem dX4_passItem_122 : decode cX4_passItem 122 = .ok (.invokevirtual 48, 3) := by decide +kernel
theorem dX4_passItem_125 : decode cX4_passItem 125 = .ok (.aload_n 0, 1) := by decide +kernel
theorem dX4_passItem_126 : decode cX4_passItem 126 = .ok (.aload_n 1, 1) := by decide +kernel
theorem dX4_passItem_127 : decode cX4_passItem 127 = .ok (.iconst 2, 1) := by decide +kernel
theorem dX4_passItem_128 : decode cX4_passItem 128 = .ok (.iconst 1, 1) := by decide +kernel
theorem dX4_passItem_129 : decode cX4_passItem 129 = .ok (.iconst 5, 1) := by decide +kernel
theorem dX4_passItem_130 : decode cX4_passItem 130 = .ok (.invokevirtual 67, 3) := by decide +kernel
theorem dX4_passItem_133 : decode cX4_passItem 133 = .ok (.ifCond .eq 15, 3) := by decide +kernel
theorem dX4_passItem_136 : decode cX4_passItem 136 = .ok (.aload_n 0, 1) := by decide +kernel
theorem dX4_passItem_137 : decode cX4_passItem 137 = .ok (.aload_n 1, 1) := by decide +kernel
theorem dX4_passItem_138 : decode cX4_passItem 138 = .ok (.invokevirtual 54, 3) := by decide +kernel
theorem dX4_passItem_141 : decode cX4_passItem 141 = .ok (.ifCond .eq 7, 3) := by decide +kernel
theorem dX4_passItem_144 : decode cX4_passItem 144 = .ok (.iconst 1, 1) := by decide +kernel
theorem dX4_passItem_145 : decode cX4_passItem 145 = .ok (.goto 4, 3) := by decide +kernel
theorem dX4_passItem_148 : decode cX4_passItem 148 = .ok (.iconst 0, 1) := by decide +kernel
theorem dX4_passItem_149 : decode cX4_passItem 149 = .ok (.ireturn, 1) := by decide +kernel
theorem dX4_passItem_150 : decode cX4_passItem 150 = .ok (.aload_n 1, 1) := by decide +kernel
theorem dX4_passItem_151 : decode cX4_passItem 151 = .ok (.ldc 71, 2) := by decide +kernel
theorem dX4_passItem_153 : decode cX4_passItem 153 = .ok (.invokevirtual 44, 3) := by decide +kernel
theorem dX4_passItem_156 : decode cX4_passItem 156 = .ok (.ifCond .eq 32, 3) := by decide +kernel
theorem dX4_passItem_159 : decode cX4_passItem 159 = .ok (.aload_n 1, 1) := by decide +kernel
theorem dX4_passItem_160 : decode cX4_passItem 160 = .ok (.invokevirtual 48, 3) := by decide +kernel
theorem dX4_passItem_163 : decode cX4_passItem 163 = .ok (.aload_n 0, 1) := by decide +kernel
theorem dX4_passItem_164 : decode cX4_passItem 164 = .ok (.aload_n 1, 1) := by decide +kernel
theorem dX4_passItem_165 : decode cX4_passItem 165 = .ok (.iconst 3, 1) := by decide +kernel
theorem dX4_passItem_166 : decode cX4_passItem 166 = .ok (.iconst 0, 1) := by decide +kernel
theorem dX4_passItem_167 : decode cX4_passItem 167 = .ok (.iconst 2, 1) := by decide +kernel
theorem dX4_passItem_168 : decode cX4_passItem 168 = .ok (.invokevirtual 67, 3) := by decide +kernel
theorem dX4_passItem_171 : decode cX4_passItem 171 = .ok (.ifCond .eq 15, 3) := by decide +kernel
theorem dX4_passItem_174 : decode cX4_passItem 174 = .ok (.aload_n 0, 1) := by decide +kernel
theorem dX4_passItem_175 : decode cX4_passItem 175 = .ok (.aload_n 1, 1) := by decide +kernel
theorem dX4_passItem_176 : decode cX4_passItem 176 = .ok (.invokevirtual 54, 3) := by decide +kernel
theorem dX4_passItem_179 : decode cX4_passItem 179 = .ok (.ifCond .eq 7, 3) := by decide +kernel
theorem dX4_passItem_182 : decode cX4_passItem 182 = .ok (.iconst 1, 1) := by decide +kernel
theorem dX4_passItem_183 : decode cX4_passItem 183 = .ok (.goto 4, 3) := by decide +kernel
theorem dX4_passItem_186 : decode cX4_passItem 186 = .ok (.iconst 0, 1) := by decide +kernel
theorem dX4_passItem_187 : decode cX4_passItem 187 = .ok (.ireturn, 1) := by decide +kernel
theorem dX4_passItem_188 : decode cX4_passItem 188 = .ok (.iconst 0, 1) := by decide +kernel
theorem dX4_passItem_189 : decode cX4_passItem 189 = .ok (.ireturn, 1) := by decide +kernel
theorem dX4_passCells_0 : decode cX4_passCells 0 = .ok (.aload_n 0, 1) := by decide +kernel
theorem dX4_passCells_1 : decode cX4_passCells 1 = .ok (.getfield 21, 3) := by decide +kernel
theorem dX4_passCells_4 : decode cX4_passCells 4 = .ok (.ifCond .ne 7, 3) := by decide +kernel
theorem dX4_passCells_7 : decode cX4_passCells 7 = .ok (.iconst 1, 1) := by decide +kernel
theorem dX4_passCells_8 : decode cX4_passCells 8 = .ok (.goto 10, 3) := by decide +kernel
theorem dX4_passCells_11 : decode cX4_passCells 11 = .ok (.aload_n 0, 1) := by decide +kernel
theorem dX4_passCells_12 : decode cX4_passCells 12 = .ok (.getfield 12, 3) := by decide +kernel
theorem dX4_passCells_15 : decode cX4_passCells 15 = .ok (.invokevirtual 73, 3) := by decide +kernel
theorem dX4_passCells_18 : decode cX4_passCells 18 = .ok (.istore_n 2, 1) := by decide +kernel
theorem dX4_passCells_19 : decode cX4_passCells 19 = .ok (.aload_n 0, 1) := by decide +kernel
theorem dX4_passCells_20 : decode cX4_passCells 20 = .ok (.getfield 21, 3) := by decide +kernel
theorem dX4_passCells_23 : decode cX4_passCells 23 = .ok (.ifCond .ne 8, 3) := by decide +kernel
theorem dX4_passCells_26 : decode cX4_passCells 26 = .ok (.bipush 8, 2) := by decide +kernel
theorem dX4_passCells_28 : decode cX4_passCells 28 = .ok (.goto 10, 3) := by decide +kernel
theorem dX4_passCells_31 : decode cX4_passCells 31 = .ok (.aload_n 0, 1) := by decide +kernel
theorem dX4_passCells_32 : decode cX4_passCells 32 = .ok (.getfield 12, 3) := by decide +kernel
theorem dX4_passCells_35 : decode cX4_passCells 35 = .ok (.invokevirtual 73, 3) := by decide +kernel
theorem dX4_passCells_38 : decode cX4_passCells 38 = .ok (.istore_n 3, 1) := by decide +kernel
theorem dX4_passCells_39 : decode cX4_passCells 39 = .ok (.aload_n 1, 1) := by decide +kernel
theorem dX4_passCells_40 : decode cX4_passCells 40 = .ok (.iload_n 2, 1) := by decide +kernel
theorem dX4_passCells_41 : decode cX4_passCells 41 = .ok (.iload_n 3, 1) := by decide +kernel
theorem dX4_passCells_42 : decode cX4_passCells 42 = .ok (.iconst 0, 1) := by decide +kernel
theorem dX4_passCells_43 : decode cX4_passCells 43 = .ok (.iconst 3, 1) := by decide +kernel
theorem dX4_passCells_44 : decode cX4_passCells 44 = .ok (.invokevirtual 76, 3) := by decide +kernel
theorem dX4_passCells_47 : decode cX4_passCells 47 = .ok (.ifCond .ne 5, 3) := by decide +kernel
theorem dX4_passCells_50 : decode cX4_passCells 50 = .ok (.iconst 0, 1) := by decide +kernel
theorem dX4_passCells_51 : decode cX4_passCells 51 = .ok (.ireturn, 1) := by decide +kernel
theorem dX4_passCells_52 : decode cX4_passCells 52 = .ok (.iconst 0, 1) := by decide +kernel
theorem dX4_passCells_53 : decode cX4_passCells 53 = .ok (.istore 4, 2) := by decide +kernel
theorem dX4_passCells_55 : decode cX4_passCells 55 = .ok (.iload 4, 2) := by decide +kernel
theorem dX4_passCells_57 : decode cX4_passCells 57 = .ok (.aload_n 1, 1) := by decide +kernel
theorem dX4_passCells_58 : decode cX4_passCells 58 = .ok (.invokevirtual 80, 3) := by decide +kernel
theorem dX4_passCells_61 : decode cX4_passCells 61 = .ok (.if_icmp .ge 31, 3) := by decide +kernel
theorem dX4_passCells_64 : decode cX4_passCells 64 = .ok (.aload_n 0, 1) := by decide +kernel
theorem dX4_passCells_65 : decode cX4_passCells 65 = .ok (.getfield 12, 3) := by decide +kernel
theorem dX4_passCells_68 : decode cX4_passCells 68 = .ok (.iload 4, 2) := by decide +kernel
theorem dX4_passCells_70 : decode cX4_passCells 70 = .ok (.aload_n 0, 1) := by decide +kernel
theorem dX4_passCells_71 : decode cX4_passCells 71 = .ok (.getfield 21, 3) := by decide +kernel
theorem dX4_passCells_74 : decode cX4_passCells 74 = .ok (.invokestatic 83, 3) := by decide +kernel
theorem dX4_passCells_77 : decode cX4_passCells 77 = .ok (.aload_n 1, 1) := by decide +kernel
theorem dX4_passCells_78 : decode cX4_passCells 78 = .ok (.iload 4, 2) := by decide +kernel
theorem dX4_passCells_80 : decode cX4_passCells 80 = .ok (.invokevirtual 87, 3) := by decide +kernel
theorem dX4_passCells_83 : decode cX4_passCells 83 = .ok (.invokevirtual 91, 3) := by decide +kernel
theorem dX4_passCells_86 : decode cX4_passCells 86 = .ok (.iinc 4 1, 3) := by decide +kernel
theorem dX4_passCells_89 : decode cX4_passCells 89 = .ok (.goto (-34), 3) := by decide +kernel
theorem dX4_passCells_92 : decode cX4_passCells 92 = .ok (.aload_n 0, 1) := by decide +kernel
theorem dX4_passCells_93 : decode cX4_passCells 93 = .ok (.dup, 1) := by decide +kernel
theorem dX4_passCells_94 : decode cX4_passCells 94 = .ok (.getfield 21, 3) := by decide +kernel
theorem dX4_passCells_97 : decode cX4_passCells 97 = .ok (.iconst 1, 1) := by decide +kernel
theorem dX4_passCells_98 : decode cX4_passCells 98 = .ok (.iadd, 1) := by decide +kernel
theorem dX4_passCells_99 : decode cX4_passCells 99 = .ok (.putfield 21, 3) := by decide +kernel
theorem dX4_passCells_102 : decode cX4_passCells 102 = .ok (.aload_n 0, 1) := by decide +kernel
theorem dX4_passCells_103 : decode cX4_passCells 103 = .ok (.getfield 12, 3) := by decide +kernel
theorem dX4_passCells_106 : decode cX4_passCells 106 = .ok (.iconst 0, 1) := by decide +kernel
theorem dX4_passCells_107 : decode cX4_passCells 107 = .ok (.aload_n 1, 1) := by decide +kernel
theorem dX4_passCells_108 : decode cX4_passCells 108 = .ok (.invokevirtual 80, 3) := by decide +kernel
theorem dX4_passCells_111 : decode cX4_passCells 111 = .ok (.invokevirtual 95, 3) := by decide +kernel
theorem dX4_passCells_114 : decode cX4_passCells 114 = .ok (.aload_n 0, 1) := by decide +kernel
theorem dX4_passCells_115 : decode cX4_passCells 115 = .ok (.getfield 12, 3) := by decide +kernel
theorem dX4_passCells_118 : decode cX4_passCells 118 = .ok (.iconst 1, 1) := by decide +kernel
theorem dX4_passCells_119 : decode cX4_passCells 119 = .ok (.aload_n 0, 1) := by decide +kernel
theorem dX4_passCells_120 : decode cX4_passCells 120 = .ok (.getfield 21, 3) := by decide +kernel
theorem dX4_passCells_123 : decode cX4_passCells 123 = .ok (.invokevirtual 95, 3) := by decide +kernel
theorem dX4_passCells_126 : decode cX4_passCells 126 = .ok (.aload_n 1, 1) := by decide +kernel
theorem dX4_passCells_127 : decode cX4_passCells 127 = .ok (.invokevirtual 48, 3) := by decide +kernel
theorem dX4_passCells_130 : decode cX4_passCells 130 = .ok (.iconst 1, 1) := by decide +kernel
theorem dX4_passCells_131 : decode cX4_passCells 131 = .ok (.ireturn, 1) := by decide +kernel
theorem dX4_passOfColour_0 : decode cX4_passOfColour 0 = .ok (.aload_n 1, 1) := by decide +kernel
theorem dX4_passOfColour_1 : decode cX4_passOfColour 1 = .ok (.invokevirtual 48, 3) := by decide +kernel
theorem dX4_passOfColour_4 : decode cX4_passOfColour 4 = .ok (.aload_n 1, 1) := by decide +kernel
theorem dX4_passOfColour_5 : decode cX4_passOfColour 5 = .ok (.iconst 1, 1) := by decide +kernel
theorem dX4_passOfColour_6 : decode cX4_passOfColour 6 = .ok (.iconst 1, 1) := by decide +kernel
theorem dX4_passOfColour_7 : decode cX4_passOfColour 7 = .ok (.iconst 1, 1) := by decide +kernel
theorem dX4_passOfColour_8 : decode cX4_passOfColour 8 = .ok (.iconst 3, 1) := by decide +kernel
theorem dX4_passOfColour_9 : decode cX4_passOfColour 9 = .ok (.invokevirtual 76, 3) := by decide +kernel
theorem dX4_passOfColour_12 : decode cX4_passOfColour 12 = .ok (.ifCond .ne 5, 3) := by decide +kernel
theorem dX4_passOfColour_15 : decode cX4_passOfColour 15 = .ok (.iconst 0, 1) := by decide +kernel
theorem dX4_passOfColour_16 : decode cX4_passOfColour 16 = .ok (.ireturn, 1) := by decide +kernel
theorem dX4_passOfColour_17 : decode cX4_passOfColour 17 = .ok (.aload_n 1, 1) := by decide +kernel
theorem dX4_passOfColour_18 : decode cX4_passOfColour 18 = .ok (.iconst 0, 1) := by decide +kernel
theorem dX4_passOfColour_19 : decode cX4_passOfColour 19 = .ok (.invokevirtual 87, 3) := by decide +kernel
theorem dX4_passOfColour_22 : decode cX4_passOfColour 22 = .ok (.istore 4, 2) := by decide +kernel
theorem dX4_passOfColour_24 : decode cX4_passOfColour 24 = .ok (.aload_n 1, 1) := by decide +kernel
theorem dX4_passOfColour_25 : decode cX4_passOfColour 25 = .ok (.invokevirtual 48, 3) := by decide +kernel
theorem dX4_passOfColour_28 : decode cX4_passOfColour 28 = .ok (.aload_n 0, 1) := by decide +kernel
theorem dX4_passOfColour_29 : decode cX4_passOfColour 29 = .ok (.aload_n 1, 1) := by decide +kernel
theorem dX4_passOfColour_30 : decode cX4_passOfColour 30 = .ok (.iload_n 2, 1) := by decide +kernel
theorem dX4_passOfColour_31 : decode cX4_passOfColour 31 = .ok (.iload 4, 2) := by decide +kernel
theorem dX4_passOfColour_33 : decode cX4_passOfColour 33 = .ok (.iadd, 1) := by decide +kernel
theorem dX4_passOfColour_34 : decode cX4_passOfColour 34 = .ok (.iconst 0, 1) := by decide +kernel
theorem dX4_passOfColour_35 : decode cX4_passOfColour 35 = .ok (.iload_n 3, 1) := by decide +kernel
theorem dX4_passOfColour_36 : decode cX4_passOfColour 36 = .ok (.invokevirtual 67, 3) := by decide +kernel
theorem dX4_passOfColour_39 : decode cX4_passOfColour 39 = .ok (.ireturn, 1) := by decide +kernel
theorem dX4_passValue_0 : decode cX4_passValue 0 = .ok (.aload_n 1, 1) := by decide +kernel
theorem dX4_passValue_1 : decode cX4_passValue 1 = .ok (.iconst 1, 1) := by decide +kernel
theorem dX4_passValue_2 : decode cX4_passValue 2 = .ok (.iconst 1, 1) := by decide +kernel
theorem dX4_passValue_3 : decode cX4_passValue 3 = .ok (.iload_n 3, 1) := by decide +kernel
theorem dX4_passValue_4 : decode cX4_passValue 4 = .ok (.iload 4, 2) := by decide +kernel
theorem dX4_passValue_6 : decode cX4_passValue 6 = .ok (.invokevirtual 76, 3) := by decide +kernel
theorem dX4_passValue_9 : decode cX4_passValue 9 = .ok (.ifCond .ne 5, 3) := by decide +kernel
theorem dX4_passValue_12 : decode cX4_passValue 12 = .ok (.iconst 0, 1) := by decide +kernel
theorem dX4_passValue_13 : decode cX4_passValue 13 = .ok (.ireturn, 1) := by decide +kernel
theorem dX4_passValue_14 : decode cX4_passValue 14 = .ok (.aload_n 0, 1) := by decide +kernel
theorem dX4_passValue_15 : decode cX4_passValue 15 = .ok (.getfield 12, 3) := by decide +kernel
theorem dX4_passValue_18 : decode cX4_passValue 18 = .ok (.iload_n 2, 1) := by decide +kernel
theorem dX4_passValue_19 : decode cX4_passValue 19 = .ok (.aload_n 1, 1) := by decide +kernel
theorem dX4_passValue_20 : decode cX4_passValue 20 = .ok (.iconst 0, 1) := by decide +kernel
theorem dX4_passValue_21 : decode cX4_passValue 21 = .ok (.invokevirtual 87, 3) := by decide +kernel
theorem dX4_passValue_24 : decode cX4_passValue 24 = .ok (.invokevirtual 95, 3) := by decide +kernel
theorem dX4_passValue_27 : decode cX4_passValue 27 = .ok (.aload_n 1, 1) := by decide +kernel
theorem dX4_passValue_28 : decode cX4_passValue 28 = .ok (.invokevirtual 48, 3) := by decide +kernel
theorem dX4_passValue_31 : decode cX4_passValue 31 = .ok (.iconst 1, 1) := by decide +kernel
theorem dX4_passValue_32 : decode cX4_passValue 32 = .ok (.ireturn, 1) := by decide +kernel
theorem dX4_passSemicolon_0 : decode cX4_passSemicolon 0 = .ok (.aload_n 1, 1) := by decide +kernel
theorem dX4_passSemicolon_1 : decode cX4_passSemicolon 1 = .ok (.invokevirtual 98, 3) := by decide +kernel
theorem dX4_passSemicolon_4 : decode cX4_passSemicolon 4 = .ok (.ifCond .ne 5, 3) := by decide +kernel
theorem dX4_passSemicolon_7 : decode cX4_passSemicolon 7 = .ok (.iconst 0, 1) := by decide +kernel
theorem dX4_passSemicolon_8 : decode cX4_passSemicolon 8 = .ok (.ireturn, 1) := by decide +kernel
theorem dX4_passSemicolon_9 : decode cX4_passSemicolon 9 = .ok (.aload_n 1, 1) := by decide +kernel
theorem dX4_passSemicolon_10 : decode cX4_passSemicolon 10 = .ok (.invokevirtual 48, 3) := by decide +kernel
theorem dX4_passSemicolon_13 : decode cX4_passSemicolon 13 = .ok (.iconst 1, 1) := by decide +kernel
theorem dX4_passSemicolon_14 : decode cX4_passSemicolon 14 = .ok (.ireturn, 1) := by decide +kernel
theorem dX5_init_0 : decode cX5_init 0 = .ok (.aload_n 0, 1) := by decide +kernel
theorem dX5_init_1 : decode cX5_init 1 = .ok (.invokespecial 3, 3) := by decide +kernel
theorem dX5_init_4 : decode cX5_init 4 = .ok (.aload_n 0, 1) := by decide +kernel
theorem dX5_init_5 : decode cX5_init 5 = .ok (.new 9, 3) := by decide +kernel
theorem dX5_init_8 : decode cX5_init 8 = .ok (.dup, 1) := by decide +kernel
theorem dX5_init_9 : decode cX5_init 9 = .ok (.invokespecial 11, 3) := by decide +kernel
theorem dX5_init_12 : decode cX5_init 12 = .ok (.putfield 12, 3) := by decide +kernel
theorem dX5_init_15 : decode cX5_init 15 = .ok (.aload_n 0, 1) := by decide +kernel
theorem dX5_init_16 : decode cX5_init 16 = .ok (.bipush 48, 2) := by decide +kernel
theorem dX5_init_18 : decode cX5_init 18 = .ok (.newarray .int, 2) := by decide +kernel
theorem dX5_init_20 : decode cX5_init 20 = .ok (.putfield 18, 3) := by decide +kernel
theorem dX5_init_23 : decode cX5_init 23 = .ok (.aload_n 0, 1) := by decide +kernel
theorem dX5_init_24 : decode cX5_init 24 = .ok (.bipush 48, 2) := by decide +kernel
theorem dX5_init_26 : decode cX5_init 26 = .ok (.newarray .int, 2) := by decide +kernel
theorem dX5_init_28 : decode cX5_init 28 = .ok (.putfield 22, 3) := by decide +kernel
theorem dX5_init_31 : decode cX5_init 31 = .ok (.aload_n 0, 1) := by decide +kernel
theorem dX5_init_32 : decode cX5_init 32 = .ok (.bipush 48, 2) := by decide +kernel
theorem dX5_init_34 : decode cX5_init 34 = .ok (.newarray .int, 2) := by decide +kernel
theorem dX5_init_36 : decode cX5_init 36 = .ok (.putfield 25, 3) := by decide +kernel
theorem dX5_init_39 : decode cX5_init 39 = .ok (.aload_n 0, 1) := by decide +kernel
theorem dX5_init_40 : decode cX5_init 40 = .ok (.bipush 48, 2) := by decide +kernel
theorem dX5_init_42 : decode cX5_init 42 = .ok (.newarray .int, 2) := by decide +kernel
theorem dX5_init_44 : decode cX5_init 44 = .ok (.putfield 28, 3) := by decide +kernel
theorem dX5_init_47 : decode cX5_init 47 = .ok (.aload_n 0, 1) := by decide +kernel
theorem dX5_init_48 : decode cX5_init 48 = .ok (.bipush 48, 2) := by decide +kernel
theorem dX5_init_50 : decode cX5_init 50 = .ok (.newarray .int, 2) := by decide +kernel
theorem dX5_init_52 : decode cX5_init 52 = .ok (.putfield 31, 3) := by decide +kernel
theorem dX5_init_55 : decode cX5_init 55 = .ok (.aload_n 0, 1) := by decide +kernel
theorem dX5_init_56 : decode cX5_init 56 = .ok (.bipush 48, 2) := by decide +kernel
theorem dX5_init_58 : decode cX5_init 58 = .ok (.newarray .int, 2) := by decide +kernel
theorem dX5_init_60 : decode cX5_init 60 = .ok (.putfield 34, 3) := by decide +kernel
theorem dX5_init_63 : decode cX5_init 63 = .ok (.aload_n 0, 1) := by decide +kernel
theorem dX5_init_64 : decode cX5_init 64 = .ok (.bipush 48, 2) := by decide +kernel
theorem dX5_init_66 : decode cX5_init 66 = .ok (.newarray .int, 2) := by decide +kernel
theorem dX5_init_68 : decode cX5_init 68 = .ok (.putfield 37, 3) := by decide +kernel
theorem dX5_init_71 : decode cX5_init 71 = .ok (.aload_n 0, 1) := by decide +kernel
theorem dX5_init_72 : decode cX5_init 72 = .ok (.bipush 48, 2) := by decide +kernel
theorem dX5_init_74 : decode cX5_init 74 = .ok (.newarray .int, 2) := by decide +kernel
theorem dX5_init_76 : decode cX5_init 76 = .ok (.putfield 40, 3) := by decide +kernel
theorem dX5_init_79 : decode cX5_init 79 = .ok (.aload_n 0, 1) := by decide +kernel
theorem dX5_init_80 : decode cX5_init 80 = .ok (.bipush 48, 2) := by decide +kernel
theorem dX5_init_82 : decode cX5_init 82 = .ok (.newarray .int, 2) := by decide +kernel
theorem dX5_init_84 : decode cX5_init 84 = .ok (.putfield 43, 3) := by decide +kernel
theorem dX5_init_87 : decode cX5_init 87 = .ok (.aload_n 0, 1) := by decide +kernel
theorem dX5_init_88 : decode cX5_init 88 = .ok (.bipush 48, 2) := by decide +kernel
theorem dX5_init_90 : decode cX5_init 90 = .ok (.newarray .boolean, 2) := by decide +kernel
theorem dX5_init_92 : decode cX5_init 92 = .ok (.putfield 46, 3) := by decide +kernel
theorem dX5_init_95 : decode cX5_init 95 = .ok (.return_, 1) := by decide +kernel
theorem dX5_lay_0 : decode cX5_lay 0 = .ok (.aload_n 0, 1) := by decide +kernel
theorem dX5_lay_1 : decode cX5_lay 1 = .ok (.iload 4, 2) := by decide +kernel
theorem dX5_lay_3 : decode cX5_lay 3 = .ok (.putfield 50, 3) := by decide +kernel
theorem dX5_lay_6 : decode cX5_lay 6 = .ok (.aload_n 0, 1) := by decide +kernel
theorem dX5_lay_7 : decode cX5_lay 7 = .ok (.aload_n 1, 1) := by decide +kernel
theorem dX5_lay_8 : decode cX5_lay 8 = .ok (.invokevirtual 54, 3) := by decide +kernel
theorem dX5_lay_11 : decode cX5_lay 11 = .ok (.putfield 60, 3) := by decide +kernel
theorem dX5_lay_14 : decode cX5_lay 14 = .ok (.aload_n 0, 1) := by decide +kernel
theorem dX5_lay_15 : decode cX5_lay 15 = .ok (.aload_n 1, 1) := by decide +kernel
theorem dX5_lay_16 : decode cX5_lay 16 = .ok (.aload_n 2, 1) := by decide +kernel
theorem dX5_lay_17 : decode cX5_lay 17 = .ok (.iload_n 3, 1) := by decide +kernel
theorem dX5_lay_18 : decode cX5_lay 18 = .ok (.invokevirtual 62, 3) := by decide +kernel
theorem dX5_lay_21 : decode cX5_lay 21 = .ok (.aload_n 0, 1) := by decide +kernel
theorem dX5_lay_22 : decode cX5_lay 22 = .ok (.invokevirtual 66, 3) := by decide +kernel
theorem dX5_lay_25 : decode cX5_lay 25 = .ok (.return_, 1) := by decide +kernel
theorem dX5_rowsLaid_0 : decode cX5_rowsLaid 0 = .ok (.aload_n 0, 1) := by decide +kernel
theorem dX5_rowsLaid_1 : decode cX5_rowsLaid 1 = .ok (.getfield 69, 3) := by decide +kernel
theorem dX5_rowsLaid_4 : decode cX5_rowsLaid 4 = .ok (.ireturn, 1) := by decide +kernel
theorem dX5_rowStart_0 : decode cX5_rowStart 0 = .ok (.aload_n 0, 1) := by decide +kernel
theorem dX5_rowStart_1 : decode cX5_rowStart 1 = .ok (.getfield 28, 3) := by decide +kernel
theorem dX5_rowStart_4 : decode cX5_rowStart 4 = .ok (.iload_n 1, 1) := by decide +kernel
theorem dX5_rowStart_5 : decode cX5_rowStart 5 = .ok (.invokestatic 72, 3) := by decide +kernel
theorem dX5_rowStart_8 : decode cX5_rowStart 8 = .ok (.ireturn, 1) := by decide +kernel
theorem dX5_rowLength_0 : decode cX5_rowLength 0 = .ok (.aload_n 0, 1) := by decide +kernel
theorem dX5_rowLength_1 : decode cX5_rowLength 1 = .ok (.getfield 25, 3) := by decide +kernel
theorem dX5_rowLength_4 : decode cX5_rowLength 4 = .ok (.iload_n 1, 1) := by decide +kernel
theorem dX5_rowLength_5 : decode cX5_rowLength 5 = .ok (.invokestatic 72, 3) := by decide +kernel
theorem dX5_rowLength_8 : decode cX5_rowLength 8 = .ok (.aload_n 0, 1) := by decide +kernel
theorem dX5_rowLength_9 : decode cX5_rowLength 9 = .ok (.getfield 22, 3) := by decide +kernel
theorem dX5_rowLength_12 : decode cX5_rowLength 12 = .ok (.iload_n 1, 1) := by decide +kernel
theorem dX5_rowLength_13 : decode cX5_rowLength 13 = .ok (.invokestatic 72, 3) := by decide +kernel
theorem dX5_rowLength_16 : decode cX5_rowLength 16 = .ok (.isub, 1) := by decide +kernel
theorem dX5_rowLength_17 : decode cX5_rowLength 17 = .ok (.iconst 1, 1) := by decide +kernel
theorem dX5_rowLength_18 : decode cX5_rowLength 18 = .ok (.iadd, 1) := by decide +kernel
theorem dX5_rowLength_19 : decode cX5_rowLength 19 = .ok (.ireturn, 1) := by decide +kernel
theorem dX5_rowStitches_0 : decode cX5_rowStitches 0 = .ok (.aload_n 0, 1) := by decide +kernel
theorem dX5_rowStitches_1 : decode cX5_rowStitches 1 = .ok (.getfield 60, 3) := by decide +kernel
theorem dX5_rowStitches_4 : decode cX5_rowStitches 4 = .ok (.iconst 1, 1) := by decide +kernel
theorem dX5_rowStitches_5 : decode cX5_rowStitches 5 = .ok (.if_icmp .ge 7, 3) := by decide +kernel
theorem dX5_rowStitches_8 : decode cX5_rowStitches 8 = .ok (.iconst 0, 1) := by decide +kernel
theorem dX5_rowStitches_9 : decode cX5_rowStitches 9 = .ok (.goto 20, 3) := by decide +kernel
theorem dX5_rowStitches_12 : decode cX5_rowStitches 12 = .ok (.aload_n 0, 1) := by decide +kernel
theorem dX5_rowStitches_13 : decode cX5_rowStitches 13 = .ok (.iload_n 1, 1) := by decide +kernel
theorem dX5_rowStitches_14 : decode cX5_rowStitches 14 = .ok (.invokevirtual 76, 3) := by decide +kernel
theorem dX5_rowStitches_17 : decode cX5_rowStitches 17 = .ok (.aload_n 0, 1) := by decide +kernel
theorem dX5_rowStitches_18 : decode cX5_rowStitches 18 = .ok (.getfield 60, 3) := by decide +kernel
theorem dX5_rowStitches_21 : decode cX5_rowStitches 21 = .ok (.iadd, 1) := by decide +kernel
theorem dX5_rowStitches_22 : decode cX5_rowStitches 22 = .ok (.iconst 1, 1) := by decide +kernel
theorem dX5_rowStitches_23 : decode cX5_rowStitches 23 = .ok (.isub, 1) := by decide +kernel
theorem dX5_rowStitches_24 : decode cX5_rowStitches 24 = .ok (.aload_n 0, 1) := by decide +kernel
theorem dX5_rowStitches_25 : decode cX5_rowStitches 25 = .ok (.getfield 60, 3) := by decide +kernel
theorem dX5_rowStitches_28 : decode cX5_rowStitches 28 = .ok (.idiv, 1) := by decide +kernel
theorem dX5_rowStitches_29 : decode cX5_rowStitches 29 = .ok (.ireturn, 1) := by decide +kernel
theorem dX5_rowPart_0 : decode cX5_rowPart 0 = .ok (.aload_n 0, 1) := by decide +kernel
theorem dX5_rowPart_1 : decode cX5_rowPart 1 = .ok (.getfield 34, 3) := by decide +kernel
theorem dX5_rowPart_4 : decode cX5_rowPart 4 = .ok (.iload_n 1, 1) := by decide +kernel
theorem dX5_rowPart_5 : decode cX5_rowPart 5 = .ok (.invokestatic 72, 3) := by decide +kernel
theorem dX5_rowPart_8 : decode cX5_rowPart 8 = .ok (.ireturn, 1) := by decide +kernel
theorem dX5_partsLaid_0 : decode cX5_partsLaid 0 = .ok (.aload_n 0, 1) := by decide +kernel
theorem dX5_partsLaid_1 : decode cX5_partsLaid 1 = .ok (.getfield 80, 3) := by decide +kernel
theorem dX5_partsLaid_4 : decode cX5_partsLaid 4 = .ok (.ireturn, 1) := by decide +kernel
theorem dX5_partRows_0 : decode cX5_partRows 0 = .ok (.aload_n 0, 1) := by decide +kernel
theorem dX5_partRows_1 : decode cX5_partRows 1 = .ok (.getfield 43, 3) := by decide +kernel
theorem dX5_partRows_4 : decode cX5_partRows 4 = .ok (.iload_n 1, 1) := by decide +kernel
theorem dX5_partRows_5 : decode cX5_partRows 5 = .ok (.invokestatic 72, 3) := by decide +kernel
theorem dX5_partRows_8 : decode cX5_partRows 8 = .ok (.ireturn, 1) := by decide +kernel
theorem dX5_partStart_0 : decode cX5_partStart 0 = .ok (.aload_n 0, 1) := by decide +kernel
theorem dX5_partStart_1 : decode cX5_partStart 1 = .ok (.getfield 28, 3) := by decide +kernel
theorem dX5_partStart_4 : decode cX5_partStart 4 = .ok (.aload_n 0, 1) := by decide +kernel
theorem dX5_partStart_5 : decode cX5_partStart 5 = .ok (.getfield 37, 3) := by decide +kernel
theorem dX5_partStart_8 : decode cX5_partStart 8 = .ok (.iload_n 1, 1) := by decide +kernel
theorem dX5_partStart_9 : decode cX5_partStart 9 = .ok (.invokestatic 72, 3) := by decide +kernel
theorem dX5_partStart_12 : decode cX5_partStart 12 = .ok (.invokestatic 72, 3) := by decide +kernel
theorem dX5_partStart_15 : decode cX5_partStart 15 = .ok (.ireturn, 1) := by decide +kernel
theorem dX5_partEnd_0 : decode cX5_partEnd 0 = .ok (.aload_n 0, 1) := by decide +kernel
theorem dX5_partEnd_1 : decode cX5_partEnd 1 = .ok (.getfield 43, 3) := by decide +kernel
theorem dX5_partEnd_4 : decode cX5_partEnd 4 = .ok (.iload_n 1, 1) := by decide +kernel
theorem dX5_partEnd_5 : decode cX5_partEnd 5 = .ok (.invokestatic 72, 3) := by decide +kernel
theorem dX5_partEnd_8 : decode cX5_partEnd 8 = .ok (.iconst 2, 1) := by decide +kernel
theorem dX5_partEnd_9 : decode cX5_partEnd 9 = .ok (.irem, 1) := by decide +kernel
theorem dX5_partEnd_10 : decode cX5_partEnd 10 = .ok (.iconst 1, 1) := by decide +kernel
theorem dX5_partEnd_11 : decode cX5_partEnd 11 = .ok (.if_icmp .ne 7, 3) := by decide +kernel
theorem dX5_partEnd_14 : decode cX5_partEnd 14 = .ok (.iconst 1, 1) := by decide +kernel
theorem dX5_partEnd_15 : decode cX5_partEnd 15 = .ok (.goto 4, 3) := by decide +kernel
theorem dX5_partEnd_18 : decode cX5_partEnd 18 = .ok (.iconst 0, 1) := by decide +kernel
theorem dX5_partEnd_19 : decode cX5_partEnd 19 = .ok (.istore_n 2, 1) := by decide +kernel
theorem dX5_partEnd_20 : decode cX5_partEnd 20 = .ok (.iload_n 2, 1) := by decide +kernel
theorem dX5_partEnd_21 : decode cX5_partEnd 21 = .ok (.ifCond .eq 10, 3) := by decide +kernel
theorem dX5_partEnd_24 : decode cX5_partEnd 24 = .ok (.aload_n 0, 1) := by decide +kernel
theorem dX5_partEnd_25 : decode cX5_partEnd 25 = .ok (.getfield 31, 3) := by decide +kernel
theorem dX5_partEnd_28 : decode cX5_partEnd 28 = .ok (.goto 7, 3) := by decide +kernel
theorem dX5_partEnd_31 : decode cX5_partEnd 31 = .ok (.aload_n 0, 1) := by decide +kernel
theorem dX5_partEnd_32 : decode cX5_partEnd 32 = .ok (.getfield 28, 3) := by decide +kernel
theorem dX5_partEnd_35 : decode cX5_partEnd 35 = .ok (.aload_n 0, 1) := by decide +kernel
theorem dX5_partEnd_36 : decode cX5_partEnd 36 = .ok (.getfield 40, 3) := by decide +kernel
theorem dX5_partEnd_39 : decode cX5_partEnd 39 = .ok (.iload_n 1, 1) := by decide +kernel
theorem dX5_partEnd_40 : decode cX5_partEnd 40 = .ok (.invokestatic 72, 3) := by decide +kernel
theorem dX5_partEnd_43 : decode cX5_partEnd 43 = .ok (.invokestatic 72, 3) := by decide +kernel
theorem dX5_partEnd_46 : decode cX5_partEnd 46 = .ok (.ireturn, 1) := by decide +kernel
theorem dX5_hiddenWay_0 : decode cX5_hiddenWay 0 = .ok (.iload_n 2, 1) := by decide +kernel
theorem dX5_hiddenWay_1 : decode cX5_hiddenWay 1 = .ok (.ifCond .lt 13, 3) := by decide +kernel
theorem dX5_hiddenWay_4 : decode cX5_hiddenWay 4 = .ok (.iload_n 2, 1) := by decide +kernel
theorem dX5_hiddenWay_5 : decode cX5_hiddenWay 5 = .ok (.aload_n 0, 1) := by decide +kernel
theorem dX5_hiddenWay_6 : decode cX5_hiddenWay 6 = .ok (.getfield 80, 3) := by decide +kernel
theorem dX5_hiddenWay_9 : decode cX5_hiddenWay 9 = .ok (.iconst 1, 1) := by decide +kernel
theorem dX5_hiddenWay_10 : decode cX5_hiddenWay 10 = .ok (.isub, 1) := by decide +kernel
theorem dX5_hiddenWay_11 : decode cX5_hiddenWay 11 = .ok (.if_icmp .lt 6, 3) := by decide +kernel
theorem dX5_hiddenWay_14 : decode cX5_hiddenWay 14 = .ok (.bipush (-9), 2) := by decide +kernel
theorem dX5_hiddenWay_16 : decode cX5_hiddenWay 16 = .ok (.ireturn, 1) := by decide +kernel
theorem dX5_hiddenWay_17 : decode cX5_hiddenWay 17 = .ok (.aload_n 0, 1) := by decide +kernel
theorem dX5_hiddenWay_18 : decode cX5_hiddenWay 18 = .ok (.getfield 12, 3) := by decide +kernel
theorem dX5_hiddenWay_21 : decode cX5_hiddenWay 21 = .ok (.aload_n 1, 1) := by decide +kernel
theorem dX5_hiddenWay_22 : decode cX5_hiddenWay 22 = .ok (.aload_n 0, 1) := by decide +kernel
theorem dX5_hiddenWay_23 : decode cX5_hiddenWay 23 = .ok (.iload_n 2, 1) := by decide +kernel
theorem dX5_hiddenWay_24 : decode cX5_hiddenWay 24 = .ok (.invokevirtual 83, 3) := by decide +kernel
theorem dX5_hiddenWay_27 : decode cX5_hiddenWay 27 = .ok (.invokevirtual 86, 3) := by decide +kernel
theorem dX5_hiddenWay_30 : decode cX5_hiddenWay 30 = .ok (.aload_n 0, 1) := by decide +kernel
theorem dX5_hiddenWay_31 : decode cX5_hiddenWay 31 = .ok (.getfield 12, 3) := by decide +kernel
theorem dX5_hiddenWay_34 : decode cX5_hiddenWay 34 = .ok (.aload_n 0, 1) := by decide +kernel
theorem dX5_hiddenWay_35 : decode cX5_hiddenWay 35 = .ok (.iload_n 2, 1) := by decide +kernel
theorem dX5_hiddenWay_36 : decode cX5_hiddenWay 36 = .ok (.iconst 1, 1) := by decide +kernel
theorem dX5_hiddenWay_37 : decode cX5_hiddenWay 37 = .ok (.iadd, 1) := by decide +kernel
theorem dX5_hiddenWay_38 : decode cX5_hiddenWay 38 = .ok (.invokevirtual 90, 3) := by decide +kernel
theorem dX5_hiddenWay_41 : decode cX5_hiddenWay 41 = .ok (.invokevirtual 93, 3) := by decide +kernel
theorem dX5_hiddenWay_44 : decode cX5_hiddenWay 44 = .ok (.ireturn, 1) := by decide +kernel
theorem dX5_figure_0 : decode cX5_figure 0 = .ok (.iload_n 2, 1) := by decide +kernel
theorem dX5_figure_1 : decode cX5_figure 1 = .ok (.tableswitch 42 0 2 #[27, 32, 37], 27) := by decide +kernel
theorem dX5_figure_28 : decode cX5_figure 28 = .ok (.aload_n 0, 1) := by decide +kernel
theorem dX5_figure_29 : decode cX5_figure 29 = .ok (.getfield 69, 3) := by decide +kernel
theorem dX5_figure_32 : decode cX5_figure 32 = .ok (.ireturn, 1) := by decide +kernel
theorem dX5_figure_33 : decode cX5_figure 33 = .ok (.aload_n 0, 1) := by decide +kernel
theorem dX5_figure_34 : decode cX5_figure 34 = .ok (.getfield 80, 3) := by decide +kernel
theorem dX5_figure_37 : decode cX5_figure 37 = .ok (.ireturn, 1) := by decide +kernel
theorem dX5_figure_38 : decode cX5_figure 38 = .ok (.aload_n 0, 1) := by decide +kernel
theorem dX5_figure_39 : decode cX5_figure 39 = .ok (.invokevirtual 96, 3) := by decide +kernel
theorem dX5_figure_42 : decode cX5_figure 42 = .ok (.ireturn, 1) := by decide +kernel
theorem dX5_figure_43 : decode cX5_figure 43 = .ok (.aload_n 0, 1) := by decide +kernel
theorem dX5_figure_44 : decode cX5_figure 44 = .ok (.aload_n 1, 1) := by decide +kernel
theorem dX5_figure_45 : decode cX5_figure 45 = .ok (.invokevirtual 99, 3) := by decide +kernel
theorem dX5_figure_48 : decode cX5_figure 48 = .ok (.ireturn, 1) := by decide +kernel
theorem dX5_stitches_0 : decode cX5_stitches 0 = .ok (.iconst 0, 1) := by decide +kernel
theorem dX5_stitches_1 : decode cX5_stitches 1 = .ok (.istore_n 1, 1) := by decide +kernel
theorem dX5_stitches_2 : decode cX5_stitches 2 = .ok (.iconst 0, 1) := by decide +kernel
theorem dX5_stitches_3 : decode cX5_stitches 3 = .ok (.istore_n 2, 1) := by decide +kernel
theorem dX5_stitches_4 : decode cX5_stitches 4 = .ok (.iload_n 2, 1) := by decide +kernel
theorem dX5_stitches_5 : decode cX5_stitches 5 = .ok (.aload_n 0, 1) := by decide +kernel
theorem dX5_stitches_6 : decode cX5_stitches 6 = .ok (.getfield 69, 3) := by decide +kernel
theorem dX5_stitches_9 : decode cX5_stitches 9 = .ok (.if_icmp .ge 17, 3) := by decide +kernel
theorem dX5_stitches_12 : decode cX5_stitches 12 = .ok (.iload_n 1, 1) := by decide +kernel
theorem dX5_stitches_13 : decode cX5_stitches 13 = .ok (.aload_n 0, 1) := by decide +kernel
theorem dX5_stitches_14 : decode cX5_stitches 14 = .ok (.iload_n 2, 1) := by decide +kernel
theorem dX5_stitches_15 : decode cX5_stitches 15 = .ok (.invokevirtual 103, 3) := by decide +kernel
theorem dX5_stitches_18 : decode cX5_stitches 18 = .ok (.iadd, 1) := by decide +kernel
theorem dX5_stitches_19 : decode cX5_stitches 19 = .ok (.istore_n 1, 1) := by decide +kernel
theorem dX5_stitches_20 : decode cX5_stitches 20 = .ok (.iinc 2 1, 3) := by decide +kernel
theorem dX5_stitches_23 : decode cX5_stitches 23 = .ok (.goto (-19), 3) := by decide +kernel
theorem dX5_stitches_26 : decode cX5_stitches 26 = .ok (.iload_n 1, 1) := by decide +kernel
theorem dX5_stitches_27 : decode cX5_stitches 27 = .ok (.ireturn, 1) := by decide +kernel
theorem dX5_travel_0 : decode cX5_travel 0 = .ok (.iconst 0, 1) := by decide +kernel
theorem dX5_travel_1 : decode cX5_travel 1 = .ok (.istore_n 2, 1) := by decide +kernel
theorem dX5_travel_2 : decode cX5_travel 2 = .ok (.iconst 0, 1) := by decide +kernel
theorem dX5_travel_3 : decode cX5_travel 3 = .ok (.istore_n 3, 1) := by decide +kernel
theorem dX5_travel_4 : decode cX5_travel 4 = .ok (.iload_n 3, 1) := by decide +kernel
theorem dX5_travel_5 : decode cX5_travel 5 = .ok (.aload_n 0, 1) := by decide +kernel
theorem dX5_travel_6 : decode cX5_travel 6 = .ok (.getfield 80, 3) := by decide +kernel
theorem dX5_travel_9 : decode cX5_travel 9 = .ok (.iconst 1, 1) := by decide +kernel
theorem dX5_travel_10 : decode cX5_travel 10 = .ok (.isub, 1) := by decide +kernel
theorem dX5_travel_11 : decode cX5_travel 11 = .ok (.if_icmp .ge 18, 3) := by decide +kernel
theorem dX5_travel_14 : decode cX5_travel 14 = .ok (.iload_n 2, 1) := by decide +kernel
theorem dX5_travel_15 : decode cX5_travel 15 = .ok (.aload_n 0, 1) := by decide +kernel
theorem dX5_travel_16 : decode cX5_travel 16 = .ok (.aload_n 1, 1) := by decide +kernel
theorem dX5_travel_17 : decode cX5_travel 17 = .ok (.iload_n 3, 1) := by decide +kernel
theorem dX5_travel_18 : decode cX5_travel 18 = .ok (.invokevirtual 106, 3) := by decide +kernel
theorem dX5_travel_21 : decode cX5_travel 21 = .ok (.iadd, 1) := by decide +kernel
theorem dX5_travel_22 : decode cX5_travel 22 = .ok (.istore_n 2, 1) := by decide +kernel
theorem dX5_travel_23 : decode cX5_travel 23 = .ok (.iinc 3 1, 3) := by decide +kernel
theorem dX5_travel_26 : decode cX5_travel 26 = .ok (.goto (-22), 3) := by decide +kernel
theorem dX5_travel_29 : decode cX5_travel 29 = .ok (.iload_n 2, 1) := by decide +kernel
theorem dX5_travel_30 : decode cX5_travel 30 = .ok (.ireturn, 1) := by decide +kernel
theorem dX5_cover_0 : decode cX5_cover 0 = .ok (.aload_n 0, 1) := by decide +kernel
theorem dX5_cover_1 : decode cX5_cover 1 = .ok (.getfield 46, 3) := by decide +kernel
theorem dX5_cover_4 : decode cX5_cover 4 = .ok (.invokestatic 110, 3) := by decide +kernel
theorem dX5_cover_7 : decode cX5_cover 7 = .ok (.iconst 0, 1) := by decide +kernel
theorem dX5_cover_8 : decode cX5_cover 8 = .ok (.istore_n 2, 1) := by decide +kernel
theorem dX5_cover_9 : decode cX5_cover 9 = .ok (.iload_n 2, 1) := by decide +kernel
theorem dX5_cover_10 : decode cX5_cover 10 = .ok (.aload_n 0, 1) := by decide +kernel
theorem dX5_cover_11 : decode cX5_cover 11 = .ok (.getfield 69, 3) := by decide +kernel
theorem dX5_cover_14 : decode cX5_cover 14 = .ok (.if_icmp .ge 103, 3) := by decide +kernel
theorem dX5_cover_17 : decode cX5_cover 17 = .ok (.aload_n 0, 1) := by decide +kernel
theorem dX5_cover_18 : decode cX5_cover 18 = .ok (.getfield 22, 3) := by decide +kernel
theorem dX5_cover_21 : decode cX5_cover 21 = .ok (.iload_n 2, 1) := by decide +kernel
theorem dX5_cover_22 : decode cX5_cover 22 = .ok (.invokestatic 72, 3) := by decide +kernel
theorem dX5_cover_25 : decode cX5_cover 25 = .ok (.aload_n 1, 1) := by decide +kernel
theorem dX5_cover_26 : decode cX5_cover 26 = .ok (.invokevirtual 114, 3) := by decide +kernel
theorem dX5_cover_29 : decode cX5_cover 29 = .ok (.isub, 1) := by decide +kernel
theorem dX5_cover_30 : decode cX5_cover 30 = .ok (.iconst 0, 1) := by decide +kernel
theorem dX5_cover_31 : decode cX5_cover 31 = .ok (.invokestatic 117, 3) := by decide +kernel
theorem dX5_cover_34 : decode cX5_cover 34 = .ok (.istore_n 3, 1) := by decide +kernel
theorem dX5_cover_35 : decode cX5_cover 35 = .ok (.aload_n 0, 1) := by decide +kernel
theorem dX5_cover_36 : decode cX5_cover 36 = .ok (.getfield 25, 3) := by decide +kernel
theorem dX5_cover_39 : decode cX5_cover 39 = .ok (.iload_n 2, 1) := by decide +kernel
theorem dX5_cover_40 : decode cX5_cover 40 = .ok (.invokestatic 72, 3) := by decide +kernel
theorem dX5_cover_43 : decode cX5_cover 43 = .ok (.aload_n 1, 1) := by decide +kernel
theorem dX5_cover_44 : decode cX5_cover 44 = .ok (.invokevirtual 114, 3) := by decide +kernel
theorem dX5_cover_47 : decode cX5_cover 47 = .ok (.iadd, 1) := by decide +kernel
theorem dX5_cover_48 : decode cX5_cover 48 = .ok (.aload_n 0, 1) := by decide +kernel
theorem dX5_cover_49 : decode cX5_cover 49 = .ok (.aload_n 1, 1) := by decide +kernel
theorem dX5_cover_50 : decode cX5_cover 50 = .ok (.invokevirtual 123, 3) := by decide +kernel
theorem dX5_cover_53 : decode cX5_cover 53 = .ok (.iconst 1, 1) := by decide +kernel
theorem dX5_cover_54 : decode cX5_cover 54 = .ok (.isub, 1) := by decide +kernel
theorem dX5_cover_55 : decode cX5_cover 55 = .ok (.invokestatic 126, 3) := by decide +kernel
theorem dX5_cover_58 : decode cX5_cover 58 = .ok (.istore 4, 2) := by decide +kernel
theorem dX5_cover_60 : decode cX5_cover 60 = .ok (.iload_n 3, 1) := by decide +kernel
theorem dX5_cover_61 : decode cX5_cover 61 = .ok (.istore 5, 2) := by decide +kernel
theorem dX5_cover_63 : decode cX5_cover 63 = .ok (.iload 5, 2) := by decide +kernel
theorem dX5_cover_65 : decode cX5_cover 65 = .ok (.iload 4, 2) := by decide +kernel
theorem dX5_cover_67 : decode cX5_cover 67 = .ok (.if_icmp .gt 44, 3) := by decide +kernel
theorem dX5_cover_70 : decode cX5_cover 70 = .ok (.aload_n 0, 1) := by decide +kernel
theorem dX5_cover_71 : decode cX5_cover 71 = .ok (.aload_n 0, 1) := by decide +kernel
theorem dX5_cover_72 : decode cX5_cover 72 = .ok (.getfield 18, 3) := by decide +kernel
theorem dX5_cover_75 : decode cX5_cover 75 = .ok (.iload_n 2, 1) := by decide +kernel
theorem dX5_cover_76 : decode cX5_cover 76 = .ok (.invokestatic 72, 3) := by decide +kernel
theorem dX5_cover_79 : decode cX5_cover 79 = .ok (.iload 5, 2) := by decide +kernel
theorem dX5_cover_81 : decode cX5_cover 81 = .ok (.invokevirtual 129, 3) := by decide +kernel
theorem dX5_cover_84 : decode cX5_cover 84 = .ok (.istore 6, 2) := by decide +kernel
theorem dX5_cover_86 : decode cX5_cover 86 = .ok (.iload 6, 2) := by decide +kernel
theorem dX5_cover_88 : decode cX5_cover 88 = .ok (.iconst 0, 1) := by decide +kernel
theorem dX5_cover_89 : decode cX5_cover 89 = .ok (.bipush 47, 2) := by decide +kernel
theorem dX5_cover_91 : decode cX5_cover 91 = .ok (.invokestatic 132, 3) := by decide +kernel
theorem dX5_cover_94 : decode cX5_cover 94 = .ok (.ifCond .eq 11, 3) := by decide +kernel
theorem dX5_cover_97 : decode cX5_cover 97 = .ok (.aload_n 0, 1) := by decide +kernel
theorem dX5_cover_98 : decode cX5_cover 98 = .ok (.getfield 46, 3) := by decide +kernel
theorem dX5_cover_101 : decode cX5_cover 101 = .ok (.iload 6, 2) := by decide +kernel
theorem dX5_cover_103 : decode cX5_cover 103 = .ok (.iconst 1, 1) := by decide +kernel
theorem dX5_cover_104 : decode cX5_cover 104 = .ok (.bastore, 1) := by decide +kernel
theorem dX5_cover_105 : decode cX5_cover 105 = .ok (.iinc 5 1, 3) := by decide +kernel
theorem dX5_cover_108 : decode cX5_cover 108 = .ok (.goto (-45), 3) := by decide +kernel
theorem dX5_cover_111 : decode cX5_cover 111 = .ok (.iinc 2 1, 3) := by decide +kernel
theorem dX5_cover_114 : decode cX5_cover 114 = .ok (.goto (-105), 3) := by decide +kernel
theorem dX5_cover_117 : decode cX5_cover 117 = .ok (.return_, 1) := by decide +kernel
theorem dX5_coveredCells_0 : decode cX5_coveredCells 0 = .ok (.aload_n 0, 1) := by decide +kernel
theorem dX5_coveredCells_1 : decode cX5_coveredCells 1 = .ok (.getfield 46, 3) := by decide +kernel
theorem dX5_coveredCells_4 : decode cX5_coveredCells 4 = .ok (.invokestatic 136, 3) := by decide +kernel
theorem dX5_coveredCells_7 : decode cX5_coveredCells 7 = .ok (.ireturn, 1) := by decide +kernel
theorem dX5_coveredOf_0 : decode cX5_coveredOf 0 = .ok (.iconst 0, 1) := by decide +kernel
theorem dX5_coveredOf_1 : decode cX5_coveredOf 1 = .ok (.istore_n 3, 1) := by decide +kernel
theorem dX5_coveredOf_2 : decode cX5_coveredOf 2 = .ok (.iconst 0, 1) := by decide +kernel
theorem dX5_coveredOf_3 : decode cX5_coveredOf 3 = .ok (.istore 4, 2) := by decide +kernel
theorem dX5_coveredOf_5 : decode cX5_coveredOf 5 = .ok (.iload 4, 2) := by decide +kernel
theorem dX5_coveredOf_7 : decode cX5_coveredOf 7 = .ok (.bipush 48, 2) := by decide +kernel
theorem dX5_coveredOf_9 : decode cX5_coveredOf 9 = .ok (.if_icmp .ge 37, 3) := by decide +kernel
theorem dX5_coveredOf_12 : decode cX5_coveredOf 12 = .ok (.iload_n 3, 1) := by decide +kernel
theorem dX5_coveredOf_13 : decode cX5_coveredOf 13 = .ok (.aload_n 0, 1) := by decide +kernel
theorem dX5_coveredOf_14 : decode cX5_coveredOf 14 = .ok (.getfield 46, 3) := by decide +kernel
theorem dX5_coveredOf_17 : decode cX5_coveredOf 17 = .ok (.iload 4, 2) := by decide +kernel
theorem dX5_coveredOf_19 : decode cX5_coveredOf 19 = .ok (.baload, 1) := by decide +kernel
theorem dX5_coveredOf_20 : decode cX5_coveredOf 20 = .ok (.ifCond .eq 17, 3) := by decide +kernel
theorem dX5_coveredOf_23 : decode cX5_coveredOf 23 = .ok (.aload_n 1, 1) := by decide +kernel
theorem dX5_coveredOf_24 : decode cX5_coveredOf 24 = .ok (.iload 4, 2) := by decide +kernel
theorem dX5_coveredOf_26 : decode cX5_coveredOf 26 = .ok (.invokevirtual 140, 3) := by decide +kernel
theorem dX5_coveredOf_29 : decode cX5_coveredOf 29 = .ok (.iload_n 2, 1) := by decide +kernel
theorem dX5_coveredOf_30 : decode cX5_coveredOf 30 = .ok (.if_icmp .ne 7, 3) := by decide +kernel
theorem dX5_coveredOf_33 : decode cX5_coveredOf 33 = .ok (.iconst 1, 1) := by decide +kernel
theorem dX5_coveredOf_34 : decode cX5_coveredOf 34 = .ok (.goto 4, 3) := by decide +kernel
theorem dX5_coveredOf_37 : decode cX5_coveredOf 37 = .ok (.iconst 0, 1) := by decide +kernel
theorem dX5_coveredOf_38 : decode cX5_coveredOf 38 = .ok (.iadd, 1) := by decide +kernel
theorem dX5_coveredOf_39 : decode cX5_coveredOf 39 = .ok (.istore_n 3, 1) := by decide +kernel
theorem dX5_coveredOf_40 : decode cX5_coveredOf 40 = .ok (.iinc 4 1, 3) := by decide +kernel
theorem dX5_coveredOf_43 : decode cX5_coveredOf 43 = .ok (.goto (-38), 3) := by decide +kernel
theorem dX5_coveredOf_46 : decode cX5_coveredOf 46 = .ok (.iload_n 3, 1) := by decide +kernel
theorem dX5_coveredOf_47 : decode cX5_coveredOf 47 = .ok (.ireturn, 1) := by decide +kernel
theorem dX5_placeIn_0 : decode cX5_placeIn 0 = .ok (.aload_n 0, 1) := by decide +kernel
theorem dX5_placeIn_1 : decode cX5_placeIn 1 = .ok (.getfield 50, 3) := by decide +kernel
theorem dX5_placeIn_4 : decode cX5_placeIn 4 = .ok (.ifCond .ne 11, 3) := by decide +kernel
theorem dX5_placeIn_7 : decode cX5_placeIn 7 = .ok (.iload_n 2, 1) := by decide +kernel
theorem dX5_placeIn_8 : decode cX5_placeIn 8 = .ok (.iload_n 1, 1) := by decide +kernel
theorem dX5_placeIn_9 : decode cX5_placeIn 9 = .ok (.invokestatic 143, 3) := by decide +kernel
theorem dX5_placeIn_12 : decode cX5_placeIn 12 = .ok (.goto 8, 3) := by decide +kernel
theorem dX5_placeIn_15 : decode cX5_placeIn 15 = .ok (.iload_n 1, 1) := by decide +kernel
theorem dX5_placeIn_16 : decode cX5_placeIn 16 = .ok (.iload_n 2, 1) := by decide +kernel
theorem dX5_placeIn_17 : decode cX5_placeIn 17 = .ok (.invokestatic 143, 3) := by decide +kernel
theorem dX5_placeIn_20 : decode cX5_placeIn 20 = .ok (.ireturn, 1) := by decide +kernel
theorem dX5_lineLength_0 : decode cX5_lineLength 0 = .ok (.aload_n 0, 1) := by decide +kernel
theorem dX5_lineLength_1 : decode cX5_lineLength 1 = .ok (.getfield 50, 3) := by decide +kernel
theorem dX5_lineLength_4 : decode cX5_lineLength 4 = .ok (.ifCond .ne 10, 3) := by decide +kernel
theorem dX5_lineLength_7 : decode cX5_lineLength 7 = .ok (.aload_n 1, 1) := by decide +kernel
theorem dX5_lineLength_8 : decode cX5_lineLength 8 = .ok (.invokevirtual 146, 3) := by decide +kernel
theorem dX5_lineLength_11 : decode cX5_lineLength 11 = .ok (.goto 7, 3) := by decide +kernel
theorem dX5_lineLength_14 : decode cX5_lineLength 14 = .ok (.aload_n 1, 1) := by decide +kernel
theorem dX5_lineLength_15 : decode cX5_lineLength 15 = .ok (.invokevirtual 149, 3) := by decide +kernel
theorem dX5_lineLength_18 : decode cX5_lineLength 18 = .ok (.ireturn, 1) := by decide +kernel
theorem dX5_findRows_0 : decode cX5_findRows 0 = .ok (.aload_n 0, 1) := by decide +kernel
theorem dX5_findRows_1 : decode cX5_findRows 1 = .ok (.getfield 50, 3) := by decide +kernel
theorem dX5_findRows_4 : decode cX5_findRows 4 = .ok (.ifCond .ne 10, 3) := by decide +kernel
theorem dX5_findRows_7 : decode cX5_findRows 7 = .ok (.aload_n 1, 1) := by decide +kernel
theorem dX5_findRows_8 : decode cX5_findRows 8 = .ok (.invokevirtual 149, 3) := by decide +kernel
theorem dX5_findRows_11 : decode cX5_findRows 11 = .ok (.goto 7, 3) := by decide +kernel
theorem dX5_findRows_14 : decode cX5_findRows 14 = .ok (.aload_n 1, 1) := by decide +kernel
theorem dX5_findRows_15 : decode cX5_findRows 15 = .ok (.invokevirtual 146, 3) := by decide +kernel
theorem dX5_findRows_18 : decode cX5_findRows 18 = .ok (.istore 4, 2) := by decide +kernel
theorem dX5_findRows_20 : decode cX5_findRows 20 = .ok (.aload_n 0, 1) := by decide +kernel
theorem dX5_findRows_21 : decode cX5_findRows 21 = .ok (.iconst 0, 1) := by decide +kernel
theorem dX5_findRows_22 : decode cX5_findRows 22 = .ok (.putfield 69, 3) := by decide +kernel
theorem dX5_findRows_25 : decode cX5_findRows 25 = .ok (.iconst 0, 1) := by decide +kernel
theorem dX5_findRows_26 : decode cX5_findRows 26 = .ok (.istore 5, 2) := by decide +kernel
theorem dX5_findRows_28 : decode cX5_findRows 28 = .ok (.iload 5, 2) := by decide +kernel
theorem dX5_findRows_30 : decode cX5_findRows 30 = .ok (.iload 4, 2) := by decide +kernel
theorem dX5_findRows_32 : decode cX5_findRows 32 = .ok (.if_icmp .ge 117, 3) := by decide +kernel
theorem dX5_findRows_35 : decode cX5_findRows 35 = .ok (.iconst 0, 1) := by decide +kernel
theorem dX5_findRows_36 : decode cX5_findRows 36 = .ok (.istore 6, 2) := by decide +kernel
theorem dX5_findRows_38 : decode cX5_findRows 38 = .ok (.iconst 0, 1) := by decide +kernel
theorem dX5_findRows_39 : decode cX5_findRows 39 = .ok (.istore 7, 2) := by decide +kernel
theorem dX5_findRows_41 : decode cX5_findRows 41 = .ok (.iload 7, 2) := by decide +kernel
theorem dX5_findRows_43 : decode cX5_findRows 43 = .ok (.aload_n 0, 1) := by decide +kernel
theorem dX5_findRows_44 : decode cX5_findRows 44 = .ok (.aload_n 1, 1) := by decide +kernel
theorem dX5_findRows_45 : decode cX5_findRows 45 = .ok (.invokevirtual 123, 3) := by decide +kernel
theorem dX5_findRows_48 : decode cX5_findRows 48 = .ok (.if_icmp .ge 95, 3) := by decide +kernel
theorem dX5_findRows_51 : decode cX5_findRows 51 = .ok (.aload_n 0, 1) := by decide +kernel
theorem dX5_findRows_52 : decode cX5_findRows 52 = .ok (.iload 5, 2) := by decide +kernel
theorem dX5_findRows_54 : decode cX5_findRows 54 = .ok (.iload 7, 2) := by decide +kernel
theorem dX5_findRows_56 : decode cX5_findRows 56 = .ok (.invokevirtual 129, 3) := by decide +kernel
theorem dX5_findRows_59 : decode cX5_findRows 59 = .ok (.istore 8, 2) := by decide +kernel
theorem dX5_findRows_61 : decode cX5_findRows 61 = .ok (.aload_n 2, 1) := by decide +kernel
theorem dX5_findRows_62 : decode cX5_findRows 62 = .ok (.iload 8, 2) := by decide +kernel
theorem dX5_findRows_64 : decode cX5_findRows 64 = .ok (.invokevirtual 152, 3) := by decide +kernel
theorem dX5_findRows_67 : decode cX5_findRows 67 = .ok (.iload_n 3, 1) := by decide +kernel
theorem dX5_findRows_68 : decode cX5_findRows 68 = .ok (.if_icmp .ne 7, 3) := by decide +kernel
theorem dX5_findRows_71 : decode cX5_findRows 71 = .ok (.iconst 1, 1) := by decide +kernel
theorem dX5_findRows_72 : decode cX5_findRows 72 = .ok (.goto 4, 3) := by decide +kernel
theorem dX5_findRows_75 : decode cX5_findRows 75 = .ok (.iconst 0, 1) := by decide +kernel
theorem dX5_findRows_76 : decode cX5_findRows 76 = .ok (.istore 9, 2) := by decide +kernel
theorem dX5_findRows_78 : decode cX5_findRows 78 = .ok (.iload 9, 2) := by decide +kernel
theorem dX5_findRows_80 : decode cX5_findRows 80 = .ok (.ifCond .eq 18, 3) := by decide +kernel
theorem dX5_findRows_83 : decode cX5_findRows 83 = .ok (.iload 6, 2) := by decide +kernel
theorem dX5_findRows_85 : decode cX5_findRows 85 = .ok (.ifCond .ne 13, 3) := by decide +kernel
theorem dX5_findRows_88 : decode cX5_findRows 88 = .ok (.aload_n 0, 1) := by decide +kernel
theorem dX5_findRows_89 : decode cX5_findRows 89 = .ok (.iload 5, 2) := by decide +kernel
theorem dX5_findRows_91 : decode cX5_findRows 91 = .ok (.iload 7, 2) := by decide +kernel
theorem dX5_findRows_93 : decode cX5_findRows 93 = .ok (.iload 8, 2) := by decide +kernel
theorem dX5_findRows_95 : decode cX5_findRows 95 = .ok (.invokevirtual 157, 3) := by decide +kernel
theorem dX5_findRows_98 : decode cX5_findRows 98 = .ok (.iload 9, 2) := by decide +kernel
theorem dX5_findRows_100 : decode cX5_findRows 100 = .ok (.ifCond .eq 33, 3) := by decide +kernel
theorem dX5_findRows_103 : decode cX5_findRows 103 = .ok (.aload_n 0, 1) := by decide +kernel
theorem dX5_findRows_104 : decode cX5_findRows 104 = .ok (.getfield 25, 3) := by decide +kernel
theorem dX5_findRows_107 : decode cX5_findRows 107 = .ok (.aload_n 0, 1) := by decide +kernel
theorem dX5_findRows_108 : decode cX5_findRows 108 = .ok (.getfield 69, 3) := by decide +kernel
theorem dX5_findRows_111 : decode cX5_findRows 111 = .ok (.iconst 1, 1) := by decide +kernel
theorem dX5_findRows_112 : decode cX5_findRows 112 = .ok (.isub, 1) := by decide +kernel
theorem dX5_findRows_113 : decode cX5_findRows 113 = .ok (.iload 7, 2) := by decide +kernel
theorem dX5_findRows_115 : decode cX5_findRows 115 = .ok (.invokestatic 161, 3) := by decide +kernel
theorem dX5_findRows_118 : decode cX5_findRows 118 = .ok (.aload_n 0, 1) := by decide +kernel
theorem dX5_findRows_119 : decode cX5_findRows 119 = .ok (.getfield 31, 3) := by decide +kernel
theorem dX5_findRows_122 : decode cX5_findRows 122 = .ok (.aload_n 0, 1) := by decide +kernel
theorem dX5_findRows_123 : decode cX5_findRows 123 = .ok (.getfield 69, 3) := by decide +kernel
theorem dX5_findRows_126 : decode cX5_findRows 126 = .ok (.iconst 1, 1) := by decide +kernel
theorem dX5_findRows_127 : decode cX5_findRows 127 = .ok (.isub, 1) := by decide +kernel
theorem dX5_findRows_128 : decode cX5_findRows 128 = .ok (.iload 8, 2) := by decide +kernel
theorem dX5_findRows_130 : decode cX5_findRows 130 = .ok (.invokestatic 161, 3) := by decide +kernel
theorem dX5_findRows_133 : decode cX5_findRows 133 = .ok (.iload 9, 2) := by decide +kernel
theorem dX5_findRows_135 : decode cX5_findRows 135 = .ok (.istore 6, 2) := by decide +kernel
theorem dX5_findRows_137 : decode cX5_findRows 137 = .ok (.iinc 7 1, 3) := by decide +kernel
theorem dX5_findRows_140 : decode cX5_findRows 140 = .ok (.goto (-99), 3) := by decide +kernel
theorem dX5_findRows_143 : decode cX5_findRows 143 = .ok (.iinc 5 1, 3) := by decide +kernel
theorem dX5_findRows_146 : decode cX5_findRows 146 = .ok (.goto (-118), 3) := by decide +kernel
theorem dX5_findRows_149 : decode cX5_findRows 149 = .ok (.return_, 1) := by decide +kernel
theorem dX5_startRow_0 : decode cX5_startRow 0 = .ok (.aload_n 0, 1) := by decide +kernel
theorem dX5_startRow_1 : decode cX5_startRow 1 = .ok (.getfield 18, 3) := by decide +kernel
theorem dX5_startRow_4 : decode cX5_startRow 4 = .ok (.aload_n 0, 1) := by decide +kernel
theorem dX5_startRow_5 : decode cX5_startRow 5 = .ok (.getfield 69, 3) := by decide +kernel
theorem dX5_startRow_8 : decode cX5_startRow 8 = .ok (.iload_n 1, 1) := by decide +kernel
theorem dX5_startRow_9 : decode cX5_startRow 9 = .ok (.invokestatic 161, 3) := by decide +kernel
theorem dX5_startRow_12 : decode cX5_startRow 12 = .ok (.aload_n 0, 1) := by decide +kernel
theorem dX5_startRow_13 : decode cX5_startRow 13 = .ok (.getfield 22, 3) := by decide +kernel
theorem dX5_startRow_16 : decode cX5_startRow 16 = .ok (.aload_n 0, 1) := by decide +kernel
theorem dX5_startRow_17 : decode cX5_startRow 17 = .ok (.getfield 69, 3) := by decide +kernel
theorem dX5_startRow_20 : decode cX5_startRow 20 = .ok (.iload_n 2, 1) := by decide +kernel
theorem dX5_startRow_21 : decode cX5_startRow 21 = .ok (.invokestatic 161, 3) := by decide +kernel
theorem dX5_startRow_24 : decode cX5_startRow 24 = .ok (.aload_n 0, 1) := by decide +kernel
theorem dX5_startRow_25 : decode cX5_startRow 25 = .ok (.getfield 28, 3) := by decide +kernel
theorem dX5_startRow_28 : decode cX5_startRow 28 = .ok (.aload_n 0, 1) := by decide +kernel
theorem dX5_startRow_29 : decode cX5_startRow 29 = .ok (.getfield 69, 3) := by decide +kernel
theorem dX5_startRow_32 : decode cX5_startRow 32 = .ok (.iload_n 3, 1) := by decide +kernel
theorem dX5_startRow_33 : decode cX5_startRow 33 = .ok (.invokestatic 161, 3) := by decide +kernel
theorem dX5_startRow_36 : decode cX5_startRow 36 = .ok (.aload_n 0, 1) := by decide +kernel
theorem dX5_startRow_37 : decode cX5_startRow 37 = .ok (.dup, 1) := by decide +kernel
theorem dX5_startRow_38 : decode cX5_startRow 38 = .ok (.getfield 69, 3) := by decide +kernel
theorem dX5_startRow_41 : decode cX5_startRow 41 = .ok (.iconst 1, 1) := by decide +kernel
theorem dX5_startRow_42 : decode cX5_startRow 42 = .ok (.iadd, 1) := by decide +kernel
theorem dX5_startRow_43 : decode cX5_startRow 43 = .ok (.putfield 69, 3) := by decide +kernel
theorem dX5_startRow_46 : decode cX5_startRow 46 = .ok (.return_, 1) := by decide +kernel
theorem dX5_joinRows_0 : decode cX5_joinRows 0 = .ok (.aload_n 0, 1) := by decide +kernel
theorem dX5_joinRows_1 : decode cX5_joinRows 1 = .ok (.iconst 0, 1) := by decide +kernel
theorem dX5_joinRows_2 : decode cX5_joinRows 2 = .ok (.putfield 80, 3) := by decide +kernel
theorem dX5_joinRows_5 : decode cX5_joinRows 5 = .ok (.iconst 0, 1) := by decide +kernel
theorem dX5_joinRows_6 : decode cX5_joinRows 6 = .ok (.istore_n 1, 1) := by decide +kernel
theorem dX5_joinRows_7 : decode cX5_joinRows 7 = .ok (.iload_n 1, 1) := by decide +kernel
theorem dX5_joinRows_8 : decode cX5_joinRows 8 = .ok (.aload_n 0, 1) := by decide +kernel
theorem dX5_joinRows_9 : decode cX5_joinRows 9 = .ok (.getfield 69, 3) := by decide +kernel
theorem dX5_joinRows_12 : decode cX5_joinRows 12 = .ok (.if_icmp .ge 107, 3) := by decide +kernel
theorem dX5_joinRows_15 : decode cX5_joinRows 15 = .ok (.aload_n 0, 1) := by decide +kernel
theorem dX5_joinRows_16 : decode cX5_joinRows 16 = .ok (.iload_n 1, 1) := by decide +kernel
theorem dX5_joinRows_17 : decode cX5_joinRows 17 = .ok (.invokevirtual 165, 3) := by decide +kernel
theorem dX5_joinRows_20 : decode cX5_joinRows 20 = .ok (.istore_n 2, 1) := by decide +kernel
theorem dX5_joinRows_21 : decode cX5_joinRows 21 = .ok (.iload_n 2, 1) := by decide +kernel
theorem dX5_joinRows_22 : decode cX5_joinRows 22 = .ok (.bipush (-9), 2) := by decide +kernel
theorem dX5_joinRows_24 : decode cX5_joinRows 24 = .ok (.if_icmp .ne 10, 3) := by decide +kernel
theorem dX5_joinRows_27 : decode cX5_joinRows 27 = .ok (.aload_n 0, 1) := by decide +kernel
theorem dX5_joinRows_28 : decode cX5_joinRows 28 = .ok (.getfield 80, 3) := by decide +kernel
theorem dX5_joinRows_31 : decode cX5_joinRows 31 = .ok (.goto 11, 3) := by decide +kernel
theorem dX5_joinRows_34 : decode cX5_joinRows 34 = .ok (.aload_n 0, 1) := by decide +kernel
theorem dX5_joinRows_35 : decode cX5_joinRows 35 = .ok (.getfield 34, 3) := by decide +kernel
theorem dX5_joinRows_38 : decode cX5_joinRows 38 = .ok (.iload_n 2, 1) := by decide +kernel
theorem dX5_joinRows_39 : decode cX5_joinRows 39 = .ok (.invokestatic 72, 3) := by decide +kernel
theorem dX5_joinRows_42 : decode cX5_joinRows 42 = .ok (.istore_n 3, 1) := by decide +kernel
theorem dX5_joinRows_43 : decode cX5_joinRows 43 = .ok (.iload_n 2, 1) := by decide +kernel
theorem dX5_joinRows_44 : decode cX5_joinRows 44 = .ok (.bipush (-9), 2) := by decide +kernel
theorem dX5_joinRows_46 : decode cX5_joinRows 46 = .ok (.if_icmp .ne 31, 3) := by decide +kernel
theorem dX5_joinRows_49 : decode cX5_joinRows 49 = .ok (.aload_n 0, 1) := by decide +kernel
theorem dX5_joinRows_50 : decode cX5_joinRows 50 = .ok (.getfield 37, 3) := by decide +kernel
theorem dX5_joinRows_53 : decode cX5_joinRows 53 = .ok (.iload_n 3, 1) := by decide +kernel
theorem dX5_joinRows_54 : decode cX5_joinRows 54 = .ok (.iload_n 1, 1) := by decide +kernel
theorem dX5_joinRows_55 : decode cX5_joinRows 55 = .ok (.invokestatic 161, 3) := by decide +kernel
theorem dX5_joinRows_58 : decode cX5_joinRows 58 = .ok (.aload_n 0, 1) := by decide +kernel
theorem dX5_joinRows_59 : decode cX5_joinRows 59 = .ok (.getfield 43, 3) := by decide +kernel
theorem dX5_joinRows_62 : decode cX5_joinRows 62 = .ok (.iload_n 3, 1) := by decide +kernel
theorem dX5_joinRows_63 : decode cX5_joinRows 63 = .ok (.iconst 0, 1) := by decide +kernel
theorem dX5_joinRows_64 : decode cX5_joinRows 64 = .ok (.invokestatic 161, 3) := by decide +kernel
theorem dX5_joinRows_67 : decode cX5_joinRows 67 = .ok (.aload_n 0, 1) := by decide +kernel
theorem dX5_joinRows_68 : decode cX5_joinRows 68 = .ok (.dup, 1) := by decide +kernel
theorem dX5_joinRows_69 : decode cX5_joinRows 69 = .ok (.getfield 80, 3) := by decide +kernel
theorem dX5_joinRows_72 : decode cX5_joinRows 72 = .ok (.iconst 1, 1) := by decide +kernel
theorem dX5_joinRows_73 : decode cX5_joinRows 73 = .ok (.iadd, 1) := by decide +kernel
theorem dX5_joinRows_74 : decode cX5_joinRows 74 = .ok (.putfield 80, 3) := by decide +kernel
theorem dX5_joinRows_77 : decode cX5_joinRows 77 = .ok (.aload_n 0, 1) := by decide +kernel
theorem dX5_joinRows_78 : decode cX5_joinRows 78 = .ok (.getfield 34, 3) := by decide +kernel
theorem dX5_joinRows_81 : decode cX5_joinRows 81 = .ok (.iload_n 1, 1) := by decide +kernel
theorem dX5_joinRows_82 : decode cX5_joinRows 82 = .ok (.iload_n 3, 1) := by decide +kernel
theorem dX5_joinRows_83 : decode cX5_joinRows 83 = .ok (.invokestatic 161, 3) := by decide +kernel
theorem dX5_joinRows_86 : decode cX5_joinRows 86 = .ok (.aload_n 0, 1) := by decide +kernel
theorem dX5_joinRows_87 : decode cX5_joinRows 87 = .ok (.getfield 40, 3) := by decide +kernel
theorem dX5_joinRows_90 : decode cX5_joinRows 90 = .ok (.iload_n 3, 1) := by decide +kernel
theorem dX5_joinRows_91 : decode cX5_joinRows 91 = .ok (.iload_n 1, 1) := by decide +kernel
theorem dX5_joinRows_92 : decode cX5_joinRows 92 = .ok (.invokestatic 161, 3) := by decide +kernel
theorem dX5_joinRows_95 : decode cX5_joinRows 95 = .ok (.aload_n 0, 1) := by decide +kernel
theorem dX5_joinRows_96 : decode cX5_joinRows 96 = .ok (.getfield 43, 3) := by decide +kernel
theorem dX5_joinRows_99 : decode cX5_joinRows 99 = .ok (.iload_n 3, 1) := by decide +kernel
theorem dX5_joinRows_100 : decode cX5_joinRows 100 = .ok (.aload_n 0, 1) := by decide +kernel
theorem dX5_joinRows_101 : decode cX5_joinRows 101 = .ok (.getfield 43, 3) := by decide +kernel
theorem dX5_joinRows_104 : decode cX5_joinRows 104 = .ok (.iload_n 3, 1) := by decide +kernel
theorem dX5_joinRows_105 : decode cX5_joinRows 105 = .ok (.invokestatic 72, 3) := by decide +kernel
theorem dX5_joinRows_108 : decode cX5_joinRows 108 = .ok (.iconst 1, 1) := by decide +kernel
theorem dX5_joinRows_109 : decode cX5_joinRows 109 = .ok (.iadd, 1) := by decide +kernel
theorem dX5_joinRows_110 : decode cX5_joinRows 110 = .ok (.invokestatic 161, 3) := by decide +kernel
theorem dX5_joinRows_113 : decode cX5_joinRows 113 = .ok (.iinc 1 1, 3) := by decide +kernel
theorem dX5_joinRows_116 : decode cX5_joinRows 116 = .ok (.goto (-109), 3) := by decide +kernel
theorem dX5_joinRows_119 : decode cX5_joinRows 119 = .ok (.return_, 1) := by decide +kernel
theorem dX5_rowContinuedBy_0 : decode cX5_rowContinuedBy 0 = .ok (.bipush (-9), 2) := by decide +kernel
theorem dX5_rowContinuedBy_2 : decode cX5_rowContinuedBy 2 = .ok (.istore_n 2, 1) := by decide +kernel
theorem dX5_rowContinuedBy_3 : decode cX5_rowContinuedBy 3 = .ok (.iconst 0, 1) := by decide +kernel
theorem dX5_rowContinuedBy_4 : decode cX5_rowContinuedBy 4 = .ok (.istore_n 3, 1) := by decide +kernel
theorem dX5_rowContinuedBy_5 : decode cX5_rowContinuedBy 5 = .ok (.iload_n 3, 1) := by decide +kernel
theorem dX5_rowContinuedBy_6 : decode cX5_rowContinuedBy 6 = .ok (.iload_n 1, 1) := by decide +kernel
theorem dX5_rowContinuedBy_7 : decode cX5_rowContinuedBy 7 = .ok (.if_icmp .ge 29, 3) := by decide +kernel
theorem dX5_rowContinuedBy_10 : decode cX5_rowContinuedBy 10 = .ok (.aload_n 0, 1) := by decide +kernel
theorem dX5_rowContinuedBy_11 : decode cX5_rowContinuedBy 11 = .ok (.iload_n 1, 1) := by decide +kernel
theorem dX5_rowContinuedBy_12 : decode cX5_rowContinuedBy 12 = .ok (.iload_n 3, 1) := by decide +kernel
theorem dX5_rowContinuedBy_13 : decode cX5_rowContinuedBy 13 = .ok (.invokevirtual 168, 3) := by decide +kernel
theorem dX5_rowContinuedBy_16 : decode cX5_rowContinuedBy 16 = .ok (.ifCond .eq 14, 3) := by decide +kernel
theorem dX5_rowContinuedBy_19 : decode cX5_rowContinuedBy 19 = .ok (.iload_n 2, 1) := by decide +kernel
theorem dX5_rowContinuedBy_20 : decode cX5_rowContinuedBy 20 = .ok (.bipush (-9), 2) := by decide +kernel
theorem dX5_rowContinuedBy_22 : decode cX5_rowContinuedBy 22 = .ok (.if_icmp .eq 6, 3) := by decide +kernel
theorem dX5_rowContinuedBy_25 : decode cX5_rowContinuedBy 25 = .ok (.bipush (-9), 2) := by decide +kernel
theorem dX5_rowContinuedBy_27 : decode cX5_rowContinuedBy 27 = .ok (.ireturn, 1) := by decide +kernel
theorem dX5_rowContinuedBy_28 : decode cX5_rowContinuedBy 28 = .ok (.iload_n 3, 1) := by decide +kernel
theorem dX5_rowContinuedBy_29 : decode cX5_rowContinuedBy 29 = .ok (.istore_n 2, 1) := by decide +kernel
theorem dX5_rowContinuedBy_30 : decode cX5_rowContinuedBy 30 = .ok (.iinc 3 1, 3) := by decide +kernel
theorem dX5_rowContinuedBy_33 : decode cX5_rowContinuedBy 33 = .ok (.goto (-28), 3) := by decide +kernel
theorem dX5_rowContinuedBy_36 : decode cX5_rowContinuedBy 36 = .ok (.iload_n 2, 1) := by decide +kernel
theorem dX5_rowContinuedBy_37 : decode cX5_rowContinuedBy 37 = .ok (.iconst 1, 1) := by decide +kernel
theorem dX5_rowContinuedBy_38 : decode cX5_rowContinuedBy 38 = .ok (.iadd, 1) := by decide +kernel
theorem dX5_rowContinuedBy_39 : decode cX5_rowContinuedBy 39 = .ok (.istore_n 3, 1) := by decide +kernel
theorem dX5_rowContinuedBy_40 : decode cX5_rowContinuedBy 40 = .ok (.iload_n 2, 1) := by decide +kernel
theorem dX5_rowContinuedBy_41 : decode cX5_rowContinuedBy 41 = .ok (.bipush (-9), 2) := by decide +kernel
theorem dX5_rowContinuedBy_43 : decode cX5_rowContinuedBy 43 = .ok (.if_icmp .eq 34, 3) := by decide +kernel
theorem dX5_rowContinuedBy_46 : decode cX5_rowContinuedBy 46 = .ok (.iload_n 3, 1) := by decide +kernel
theorem dX5_rowContinuedBy_47 : decode cX5_rowContinuedBy 47 = .ok (.aload_n 0, 1) := by decide +kernel
theorem dX5_rowContinuedBy_48 : decode cX5_rowContinuedBy 48 = .ok (.getfield 69, 3) := by decide +kernel
theorem dX5_rowContinuedBy_51 : decode cX5_rowContinuedBy 51 = .ok (.if_icmp .ge 26, 3) := by decide +kernel
theorem dX5_rowContinuedBy_54 : decode cX5_rowContinuedBy 54 = .ok (.iload_n 3, 1) := by decide +kernel
theorem dX5_rowContinuedBy_55 : decode cX5_rowContinuedBy 55 = .ok (.iload_n 1, 1) := by decide +kernel
theorem dX5_rowContinuedBy_56 : decode cX5_rowContinuedBy 56 = .ok (.if_icmp .eq 15, 3) := by decide +kernel
theorem dX5_rowContinuedBy_59 : decode cX5_rowContinuedBy 59 = .ok (.aload_n 0, 1) := by decide +kernel
theorem dX5_rowContinuedBy_60 : decode cX5_rowContinuedBy 60 = .ok (.iload_n 3, 1) := by decide +kernel
theorem dX5_rowContinuedBy_61 : decode cX5_rowContinuedBy 61 = .ok (.iload_n 2, 1) := by decide +kernel
theorem dX5_rowContinuedBy_62 : decode cX5_rowContinuedBy 62 = .ok (.invokevirtual 168, 3) := by decide +kernel
theorem dX5_rowContinuedBy_65 : decode cX5_rowContinuedBy 65 = .ok (.ifCond .eq 6, 3) := by decide +kernel
theorem dX5_rowContinuedBy_68 : decode cX5_rowContinuedBy 68 = .ok (.bipush (-9), 2) := by decide +kernel
theorem dX5_rowContinuedBy_70 : decode cX5_rowContinuedBy 70 = .ok (.ireturn, 1) := by decide +kernel
theorem dX5_rowContinuedBy_71 : decode cX5_rowContinuedBy 71 = .ok (.iinc 3 1, 3) := by decide +kernel
theorem dX5_rowContinuedBy_74 : decode cX5_rowContinuedBy 74 = .ok (.goto (-34), 3) := by decide +kernel
theorem dX5_rowContinuedBy_77 : decode cX5_rowContinuedBy 77 = .ok (.iload_n 2, 1) := by decide +kernel
theorem dX5_rowContinuedBy_78 : decode cX5_rowContinuedBy 78 = .ok (.ireturn, 1) := by decide +kernel
theorem dX5_isNextTo_0 : decode cX5_isNextTo 0 = .ok (.aload_n 0, 1) := by decide +kernel
theorem dX5_isNextTo_1 : decode cX5_isNextTo 1 = .ok (.getfield 18, 3) := by decide +kernel
theorem dX5_isNextTo_4 : decode cX5_isNextTo 4 = .ok (.iload_n 1, 1) := by decide +kernel
theorem dX5_isNextTo_5 : decode cX5_isNextTo 5 = .ok (.invokestatic 72, 3) := by decide +kernel
theorem dX5_isNextTo_8 : decode cX5_isNextTo 8 = .ok (.aload_n 0, 1) := by decide +kernel
theorem dX5_isNextTo_9 : decode cX5_isNextTo 9 = .ok (.getfield 18, 3) := by decide +kernel
theorem dX5_isNextTo_12 : decode cX5_isNextTo 12 = .ok (.iload_n 2, 1) := by decide +kernel
theorem dX5_isNextTo_13 : decode cX5_isNextTo 13 = .ok (.invokestatic 72, 3) := by decide +kernel
theorem dX5_isNextTo_16 : decode cX5_isNextTo 16 = .ok (.iconst 1, 1) := by decide +kernel
theorem dX5_isNextTo_17 : decode cX5_isNextTo 17 = .ok (.iadd, 1) := by decide +kernel
theorem dX5_isNextTo_18 : decode cX5_isNextTo 18 = .ok (.if_icmp .ne 45, 3) := by decide +kernel
theorem dX5_isNextTo_21 : decode cX5_isNextTo 21 = .ok (.aload_n 0, 1) := by decide +kernel
theorem dX5_isNextTo_22 : decode cX5_isNextTo 22 = .ok (.getfield 22, 3) := by decide +kernel
theorem dX5_isNextTo_25 : decode cX5_isNextTo 25 = .ok (.iload_n 1, 1) := by decide +kernel
theorem dX5_isNextTo_26 : decode cX5_isNextTo 26 = .ok (.invokestatic 72, 3) := by decide +kernel
theorem dX5_isNextTo_29 : decode cX5_isNextTo 29 = .ok (.aload_n 0, 1) := by decide +kernel
theorem dX5_isNextTo_30 : decode cX5_isNextTo 30 = .ok (.getfield 25, 3) := by decide +kernel
theorem dX5_isNextTo_33 : decode cX5_isNextTo 33 = .ok (.iload_n 2, 1) := by decide +kernel
theorem dX5_isNextTo_34 : decode cX5_isNextTo 34 = .ok (.invokestatic 72, 3) := by decide +kernel
theorem dX5_isNextTo_37 : decode cX5_isNextTo 37 = .ok (.if_icmp .gt 26, 3) := by decide +kernel
theorem dX5_isNextTo_40 : decode cX5_isNextTo 40 = .ok (.aload_n 0, 1) := by decide +kernel
theorem dX5_isNextTo_41 : decode cX5_isNextTo 41 = .ok (.getfield 25, 3) := by decide +kernel
theorem dX5_isNextTo_44 : decode cX5_isNextTo 44 = .ok (.iload_n 1, 1) := by decide +kernel
theorem dX5_isNextTo_45 : decode cX5_isNextTo 45 = .ok (.invokestatic 72, 3) := by decide +kernel
theorem dX5_isNextTo_48 : decode cX5_isNextTo 48 = .ok (.aload_n 0, 1) := by decide +kernel
theorem dX5_isNextTo_49 : decode cX5_isNextTo 49 = .ok (.getfield 22, 3) := by decide +kernel
theorem dX5_isNextTo_52 : decode cX5_isNextTo 52 = .ok (.iload_n 2, 1) := by decide +kernel
theorem dX5_isNextTo_53 : decode cX5_isNextTo 53 = .ok (.invokestatic 72, 3) := by decide +kernel
theorem dX5_isNextTo_56 : decode cX5_isNextTo 56 = .ok (.if_icmp .lt 7, 3) := by decide +kernel
theorem dX5_isNextTo_59 : decode cX5_isNextTo 59 = .ok (.iconst 1, 1) := by decide +kernel
theorem dX5_isNextTo_60 : decode cX5_isNextTo 60 = .ok (.goto 4, 3) := by decide +kernel
theorem dX5_isNextTo_63 : decode cX5_isNextTo 63 = .ok (.iconst 0, 1) := by decide +kernel
theorem dX5_isNextTo_64 : decode cX5_isNextTo 64 = .ok (.ireturn, 1) := by decide +kernel
theorem dX6_init_0 : decode cX6_init 0 = .ok (.aload_n 0, 1) := by decide +kernel
theorem dX6_init_1 : decode cX6_init 1 = .ok (.invokespecial 3, 3) := by decide +kernel
theorem dX6_init_4 : decode cX6_init 4 = .ok (.aload_n 0, 1) := by decide +kernel
theorem dX6_init_5 : decode cX6_init 5 = .ok (.bipush 10, 2) := by decide +kernel
theorem dX6_init_7 : decode cX6_init 7 = .ok (.newarray .int, 2) := by decide +kernel
theorem dX6_init_9 : decode cX6_init 9 = .ok (.putfield 9, 3) := by decide +kernel
theorem dX6_init_12 : decode cX6_init 12 = .ok (.aload_n 0, 1) := by decide +kernel
theorem dX6_init_13 : decode cX6_init 13 = .ok (.iconst 4, 1) := by decide +kernel
theorem dX6_init_14 : decode cX6_init 14 = .ok (.newarray .boolean, 2) := by decide +kernel
theorem dX6_init_16 : decode cX6_init 16 = .ok (.putfield 15, 3) := by decide +kernel
theorem dX6_init_19 : decode cX6_init 19 = .ok (.return_, 1) := by decide +kernel
theorem dX6_lay_0 : decode cX6_lay 0 = .ok (.aload_n 0, 1) := by decide +kernel
theorem dX6_lay_1 : decode cX6_lay 1 = .ok (.getfield 15, 3) := by decide +kernel
theorem dX6_lay_4 : decode cX6_lay 4 = .ok (.invokestatic 19, 3) := by decide +kernel
theorem dX6_lay_7 : decode cX6_lay 7 = .ok (.aload_n 0, 1) := by decide +kernel
theorem dX6_lay_8 : decode cX6_lay 8 = .ok (.iconst 0, 1) := by decide +kernel
theorem dX6_lay_9 : decode cX6_lay 9 = .ok (.putfield 23, 3) := by decide +kernel
theorem dX6_lay_12 : decode cX6_lay 12 = .ok (.aload_n 0, 1) := by decide +kernel
theorem dX6_lay_13 : decode cX6_lay 13 = .ok (.iconst 0, 1) := by decide +kernel
theorem dX6_lay_14 : decode cX6_lay 14 = .ok (.putfield 27, 3) := by decide +kernel
theorem dX6_lay_17 : decode cX6_lay 17 = .ok (.iconst 0, 1) := by decide +kernel
theorem dX6_lay_18 : decode cX6_lay 18 = .ok (.istore_n 3, 1) := by decide +kernel
theorem dX6_lay_19 : decode cX6_lay 19 = .ok (.iload_n 3, 1) := by decide +kernel
theorem dX6_lay_20 : decode cX6_lay 20 = .ok (.iconst 3, 1) := by decide +kernel
theorem dX6_lay_21 : decode cX6_lay 21 = .ok (.if_icmp .ge 53, 3) := by decide +kernel
theorem dX6_lay_24 : decode cX6_lay 24 = .ok (.aload_n 0, 1) := by decide +kernel
theorem dX6_lay_25 : decode cX6_lay 25 = .ok (.aload_n 1, 1) := by decide +kernel
theorem dX6_lay_26 : decode cX6_lay 26 = .ok (.aload_n 2, 1) := by decide +kernel
theorem dX6_lay_27 : decode cX6_lay 27 = .ok (.invokevirtual 30, 3) := by decide +kernel
theorem dX6_lay_30 : decode cX6_lay 30 = .ok (.istore 4, 2) := by decide +kernel
theorem dX6_lay_32 : decode cX6_lay 32 = .ok (.iload 4, 2) := by decide +kernel
theorem dX6_lay_34 : decode cX6_lay 34 = .ok (.ifCond .le 34, 3) := by decide +kernel
theorem dX6_lay_37 : decode cX6_lay 37 = .ok (.iload 4, 2) := by decide +kernel
theorem dX6_lay_39 : decode cX6_lay 39 = .ok (.iconst 3, 1) := by decide +kernel
theorem dX6_lay_40 : decode cX6_lay 40 = .ok (.if_icmp .gt 28, 3) := by decide +kernel
theorem dX6_lay_43 : decode cX6_lay 43 = .ok (.aload_n 0, 1) := by decide +kernel
theorem dX6_lay_44 : decode cX6_lay 44 = .ok (.aload_n 2, 1) := by decide +kernel
theorem dX6_lay_45 : decode cX6_lay 45 = .ok (.iload 4, 2) := by decide +kernel
theorem dX6_lay_47 : decode cX6_lay 47 = .ok (.invokevirtual 34, 3) := by decide +kernel
theorem dX6_lay_50 : decode cX6_lay 50 = .ok (.aload_n 0, 1) := by decide +kernel
theorem dX6_lay_51 : decode cX6_lay 51 = .ok (.getfield 15, 3) := by decide +kernel
theorem dX6_lay_54 : decode cX6_lay 54 = .ok (.iload 4, 2) := by decide +kernel
theorem dX6_lay_56 : decode cX6_lay 56 = .ok (.iconst 1, 1) := by decide +kernel
theorem dX6_lay_57 : decode cX6_lay 57 = .ok (.bastore, 1) := by decide +kernel
theorem dX6_lay_58 : decode cX6_lay 58 = .ok (.aload_n 0, 1) := by decide +kernel
theorem dX6_lay_59 : decode cX6_lay 59 = .ok (.dup, 1) := by decide +kernel
theorem dX6_lay_60 : decode cX6_lay 60 = .ok (.getfield 27, 3) := by decide +kernel
theorem dX6_lay_63 : decode cX6_lay 63 = .ok (.iconst 1, 1) := by decide +kernel
theorem dX6_lay_64 : decode cX6_lay 64 = .ok (.iadd, 1) := by decide +kernel
theorem dX6_lay_65 : decode cX6_lay 65 = .ok (.putfield 27, 3) := by decide +kernel
theorem dX6_lay_68 : decode cX6_lay 68 = .ok (.iinc 3 1, 3) := by decide +kernel
theorem dX6_lay_71 : decode cX6_lay 71 = .ok (.goto (-52), 3) := by decide +kernel
theorem dX6_lay_74 : decode cX6_lay 74 = .ok (.return_, 1) := by decide +kernel
theorem dX6_changes_0 : decode cX6_changes 0 = .ok (.aload_n 0, 1) := by decide +kernel
theorem dX6_changes_1 : decode cX6_changes 1 = .ok (.getfield 27, 3) := by decide +kernel
theorem dX6_changes_4 : decode cX6_changes 4 = .ok (.iconst 1, 1) := by decide +kernel
theorem dX6_changes_5 : decode cX6_changes 5 = .ok (.isub, 1) := by decide +kernel
theorem dX6_changes_6 : decode cX6_changes 6 = .ok (.ireturn, 1) := by decide +kernel
theorem dX6_fieldAt_0 : decode cX6_fieldAt 0 = .ok (.iload_n 1, 1) := by decide +kernel
theorem dX6_fieldAt_1 : decode cX6_fieldAt 1 = .ok (.aload_n 0, 1) := by decide +kernel
theorem dX6_fieldAt_2 : decode cX6_fieldAt 2 = .ok (.getfield 23, 3) := by decide +kernel
theorem dX6_fieldAt_5 : decode cX6_fieldAt 5 = .ok (.if_icmp .ge 14, 3) := by decide +kernel
theorem dX6_fieldAt_8 : decode cX6_fieldAt 8 = .ok (.aload_n 0, 1) := by decide +kernel
theorem dX6_fieldAt_9 : decode cX6_fieldAt 9 = .ok (.getfield 9, 3) := by decide +kernel
theorem dX6_fieldAt_12 : decode cX6_fieldAt 12 = .ok (.iload_n 1, 1) := by decide +kernel
theorem dX6_fieldAt_13 : decode cX6_fieldAt 13 = .ok (.invokestatic 38, 3) := by decide +kernel
theorem dX6_fieldAt_16 : decode cX6_fieldAt 16 = .ok (.goto 5, 3) := by decide +kernel
theorem dX6_fieldAt_19 : decode cX6_fieldAt 19 = .ok (.bipush (-9), 2) := by decide +kernel
theorem dX6_fieldAt_21 : decode cX6_fieldAt 21 = .ok (.ireturn, 1) := by decide +kernel
theorem dX6_nextColour_0 : decode cX6_nextColour 0 = .ok (.iconst 0, 1) := by decide +kernel
theorem dX6_nextColour_1 : decode cX6_nextColour 1 = .ok (.istore_n 3, 1) := by decide +kernel
theorem dX6_nextColour_2 : decode cX6_nextColour 2 = .ok (.iload_n 3, 1) := by decide +kernel
theorem dX6_nextColour_3 : decode cX6_nextColour 3 = .ok (.aload_n 2, 1) := by decide +kernel
theorem dX6_nextColour_4 : decode cX6_nextColour 4 = .ok (.invokevirtual 42, 3) := by decide +kernel
theorem dX6_nextColour_7 : decode cX6_nextColour 7 = .ok (.if_icmp .ge 38, 3) := by decide +kernel
theorem dX6_nextColour_10 : decode cX6_nextColour 10 = .ok (.aload_n 2, 1) := by decide +kernel
theorem dX6_nextColour_11 : decode cX6_nextColour 11 = .ok (.iload_n 3, 1) := by decide +kernel
theorem dX6_nextColour_12 : decode cX6_nextColour 12 = .ok (.invokevirtual 47, 3) := by decide +kernel
theorem dX6_nextColour_15 : decode cX6_nextColour 15 = .ok (.istore 4, 2) := by decide +kernel
theorem dX6_nextColour_17 : decode cX6_nextColour 17 = .ok (.aload_n 0, 1) := by decide +kernel
theorem dX6_nextColour_18 : decode cX6_nextColour 18 = .ok (.iload 4, 2) := by decide +kernel
theorem dX6_nextColour_20 : decode cX6_nextColour 20 = .ok (.invokevirtual 51, 3) := by decide +kernel
theorem dX6_nextColour_23 : decode cX6_nextColour 23 = .ok (.ifCond .ne 16, 3) := by decide +kernel
theorem dX6_nextColour_26 : decode cX6_nextColour 26 = .ok (.aload_n 0, 1) := by decide +kernel
theorem dX6_nextColour_27 : decode cX6_nextColour 27 = .ok (.aload_n 1, 1) := by decide +kernel
theorem dX6_nextColour_28 : decode cX6_nextColour 28 = .ok (.iload 4, 2) := by decide +kernel
theorem dX6_nextColour_30 : decode cX6_nextColour 30 = .ok (.invokevirtual 55, 3) := by decide +kernel
theorem dX6_nextColour_33 : decode cX6_nextColour 33 = .ok (.ifCond .ne 6, 3) := by decide +kernel
theorem dX6_nextColour_36 : decode cX6_nextColour 36 = .ok (.iload 4, 2) := by decide +kernel
theorem dX6_nextColour_38 : decode cX6_nextColour 38 = .ok (.ireturn, 1) := by decide +kernel
theorem dX6_nextColour_39 : decode cX6_nextColour 39 = .ok (.iinc 3 1, 3) := by decide +kernel
theorem dX6_nextColour_42 : decode cX6_nextColour 42 = .ok (.goto (-40), 3) := by decide +kernel
theorem dX6_nextColour_45 : decode cX6_nextColour 45 = .ok (.bipush (-9), 2) := by decide +kernel
theorem dX6_nextColour_47 : decode cX6_nextColour 47 = .ok (.ireturn, 1) := by decide +kernel
theorem dX6_isSewn_0 : decode cX6_isSewn 0 = .ok (.iload_n 1, 1) := by decide +kernel
theorem dX6_isSewn_1 : decode cX6_isSewn 1 = .ok (.iconst 0, 1) := by decide +kernel
theorem dX6_isSewn_2 : decode cX6_isSewn 2 = .ok (.iconst 3, 1) := by decide +kernel
theorem dX6_isSewn_3 : decode cX6_isSewn 3 = .ok (.invokestatic 59, 3) := by decide +kernel
theorem dX6_isSewn_6 : decode cX6_isSewn 6 = .ok (.ifCond .eq 16, 3) := by decide +kernel
theorem dX6_isSewn_9 : decode cX6_isSewn 9 = .ok (.aload_n 0, 1) := by decide +kernel
theorem dX6_isSewn_10 : decode cX6_isSewn 10 = .ok (.getfield 15, 3) := by decide +kernel
theorem dX6_isSewn_13 : decode cX6_isSewn 13 = .ok (.iload_n 1, 1) := by decide +kernel
theorem dX6_isSewn_14 : decode cX6_isSewn 14 = .ok (.baload, 1) := by decide +kernel
theorem dX6_isSewn_15 : decode cX6_isSewn 15 = .ok (.ifCond .eq 7, 3) := by decide +kernel
theorem dX6_isSewn_18 : decode cX6_isSewn 18 = .ok (.iconst 1, 1) := by decide +kernel
theorem dX6_isSewn_19 : decode cX6_isSewn 19 = .ok (.goto 4, 3) := by decide +kernel
theorem dX6_isSewn_22 : decode cX6_isSewn 22 = .ok (.iconst 0, 1) := by decide +kernel
theorem dX6_isSewn_23 : decode cX6_isSewn 23 = .ok (.ireturn, 1) := by decide +kernel
theorem dX6_mustWait_0 : decode cX6_mustWait 0 = .ok (.iconst 1, 1) := by decide +kernel
theorem dX6_mustWait_1 : decode cX6_mustWait 1 = .ok (.istore_n 3, 1) := by decide +kernel
theorem dX6_mustWait_2 : decode cX6_mustWait 2 = .ok (.iload_n 3, 1) := by decide +kernel
theorem dX6_mustWait_3 : decode cX6_mustWait 3 = .ok (.iconst 3, 1) := by decide +kernel
theorem dX6_mustWait_4 : decode cX6_mustWait 4 = .ok (.if_icmp .gt 41, 3) := by decide +kernel
theorem dX6_mustWait_7 : decode cX6_mustWait 7 = .ok (.aload_n 0, 1) := by decide +kernel
theorem dX6_mustWait_8 : decode cX6_mustWait 8 = .ok (.iload_n 3, 1) := by decide +kernel
theorem dX6_mustWait_9 : decode cX6_mustWait 9 = .ok (.invokevirtual 51, 3) := by decide +kernel
theorem dX6_mustWait_12 : decode cX6_mustWait 12 = .ok (.ifCond .ne 27, 3) := by decide +kernel
theorem dX6_mustWait_15 : decode cX6_mustWait 15 = .ok (.aload_n 1, 1) := by decide +kernel
theorem dX6_mustWait_16 : decode cX6_mustWait 16 = .ok (.iload_n 3, 1) := by decide +kernel
theorem dX6_mustWait_17 : decode cX6_mustWait 17 = .ok (.invokevirtual 63, 3) := by decide +kernel
theorem dX6_mustWait_20 : decode cX6_mustWait 20 = .ok (.aload_n 1, 1) := by decide +kernel
theorem dX6_mustWait_21 : decode cX6_mustWait 21 = .ok (.iload_n 2, 1) := by decide +kernel
theorem dX6_mustWait_22 : decode cX6_mustWait 22 = .ok (.invokevirtual 63, 3) := by decide +kernel
theorem dX6_mustWait_25 : decode cX6_mustWait 25 = .ok (.if_icmp .ge 14, 3) := by decide +kernel
theorem dX6_mustWait_28 : decode cX6_mustWait 28 = .ok (.aload_n 1, 1) := by decide +kernel
theorem dX6_mustWait_29 : decode cX6_mustWait 29 = .ok (.iload_n 3, 1) := by decide +kernel
theorem dX6_mustWait_30 : decode cX6_mustWait 30 = .ok (.iload_n 2, 1) := by decide +kernel
theorem dX6_mustWait_31 : decode cX6_mustWait 31 = .ok (.invokevirtual 68, 3) := by decide +kernel
theorem dX6_mustWait_34 : decode cX6_mustWait 34 = .ok (.ifCond .eq 5, 3) := by decide +kernel
theorem dX6_mustWait_37 : decode cX6_mustWait 37 = .ok (.iconst 1, 1) := by decide +kernel
theorem dX6_mustWait_38 : decode cX6_mustWait 38 = .ok (.ireturn, 1) := by decide +kernel
theorem dX6_mustWait_39 : decode cX6_mustWait 39 = .ok (.iinc 3 1, 3) := by decide +kernel
theorem dX6_mustWait_42 : decode cX6_mustWait 42 = .ok (.goto (-40), 3) := by decide +kernel
theorem dX6_mustWait_45 : decode cX6_mustWait 45 = .ok (.iconst 0, 1) := by decide +kernel
theorem dX6_mustWait_46 : decode cX6_mustWait 46 = .ok (.ireturn, 1) := by decide +kernel
theorem dX6_addFields_0 : decode cX6_addFields 0 = .ok (.iconst 0, 1) := by decide +kernel
theorem dX6_addFields_1 : decode cX6_addFields 1 = .ok (.istore_n 3, 1) := by decide +kernel
theorem dX6_addFields_2 : decode cX6_addFields 2 = .ok (.iload_n 3, 1) := by decide +kernel
theorem dX6_addFields_3 : decode cX6_addFields 3 = .ok (.aload_n 1, 1) := by decide +kernel
theorem dX6_addFields_4 : decode cX6_addFields 4 = .ok (.invokevirtual 42, 3) := by decide +kernel
theorem dX6_addFields_7 : decode cX6_addFields 7 = .ok (.if_icmp .ge 40, 3) := by decide +kernel
theorem dX6_addFields_10 : decode cX6_addFields 10 = .ok (.aload_n 1, 1) := by decide +kernel
theorem dX6_addFields_11 : decode cX6_addFields 11 = .ok (.iload_n 3, 1) := by decide +kernel
theorem dX6_addFields_12 : decode cX6_addFields 12 = .ok (.invokevirtual 47, 3) := by decide +kernel
theorem dX6_addFields_15 : decode cX6_addFields 15 = .ok (.iload_n 2, 1) := by decide +kernel
theorem dX6_addFields_16 : decode cX6_addFields 16 = .ok (.if_icmp .ne 25, 3) := by decide +kernel
theorem dX6_addFields_19 : decode cX6_addFields 19 = .ok (.aload_n 0, 1) := by decide +kernel
theorem dX6_addFields_20 : decode cX6_addFields 20 = .ok (.getfield 9, 3) := by decide +kernel
theorem dX6_addFields_23 : decode cX6_addFields 23 = .ok (.aload_n 0, 1) := by decide +kernel
theorem dX6_addFields_24 : decode cX6_addFields 24 = .ok (.getfield 23, 3) := by decide +kernel
theorem dX6_addFields_27 : decode cX6_addFields 27 = .ok (.iload_n 3, 1) := by decide +kernel
theorem dX6_addFields_28 : decode cX6_addFields 28 = .ok (.invokestatic 72, 3) := by decide +kernel
theorem dX6_addFields_31 : decode cX6_addFields 31 = .ok (.aload_n 0, 1) := by decide +kernel
theorem dX6_addFields_32 : decode cX6_addFields 32 = .ok (.dup, 1) := by decide +kernel
theorem dX6_addFields_33 : decode cX6_addFields 33 = .ok (.getfield 23, 3) := by decide +kernel
theorem dX6_addFields_36 : decode cX6_addFields 36 = .ok (.iconst 1, 1) := by decide +kernel
theorem dX6_addFields_37 : decode cX6_addFields 37 = .ok (.iadd, 1) := by decide +kernel
theorem dX6_addFields_38 : decode cX6_addFields 38 = .ok (.putfield 23, 3) := by decide +kernel
theorem dX6_addFields_41 : decode cX6_addFields 41 = .ok (.iinc 3 1, 3) := by decide +kernel
theorem dX6_addFields_44 : decode cX6_addFields 44 = .ok (.goto (-42), 3) := by decide +kernel
theorem dX6_addFields_47 : decode cX6_addFields 47 = .ok (.return_, 1) := by decide +kernel
theorem dX7_init_0 : decode cX7_init 0 = .ok (.aload_n 0, 1) := by decide +kernel
theorem dX7_init_1 : decode cX7_init 1 = .ok (.invokespecial 3, 3) := by decide +kernel
theorem dX7_init_4 : decode cX7_init 4 = .ok (.aload_n 0, 1) := by decide +kernel
theorem dX7_init_5 : decode cX7_init 5 = .ok (.bipush 120, 2) := by decide +kernel
theorem dX7_init_7 : decode cX7_init 7 = .ok (.newarray .char, 2) := by decide +kernel
theorem dX7_init_9 : decode cX7_init 9 = .ok (.putfield 9, 3) := by decide +kernel
theorem dX7_init_12 : decode cX7_init 12 = .ok (.return_, 1) := by decide +kernel
theorem dX7_length_0 : decode cX7_length 0 = .ok (.aload_n 0, 1) := by decide +kernel
theorem dX7_length_1 : decode cX7_length 1 = .ok (.getfield 15, 3) := by decide +kernel
theorem dX7_length_4 : decode cX7_length 4 = .ok (.ireturn, 1) := by decide +kernel
theorem dX7_append_0 : decode cX7_append 0 = .ok (.aload_n 0, 1) := by decide +kernel
theorem dX7_append_1 : decode cX7_append 1 = .ok (.getfield 15, 3) := by decide +kernel
theorem dX7_append_4 : decode cX7_append 4 = .ok (.ifCond .lt 35, 3) := by decide +kernel
theorem dX7_append_7 : decode cX7_append 7 = .ok (.aload_n 0, 1) := by decide +kernel
theorem dX7_append_8 : decode cX7_append 8 = .ok (.getfield 15, 3) := by decide +kernel
theorem dX7_append_11 : decode cX7_append 11 = .ok (.aload_n 0, 1) := by decide +kernel
theorem dX7_append_12 : decode cX7_append 12 = .ok (.getfield 9, 3) := by decide +kernel
theorem dX7_append_15 : decode cX7_append 15 = .ok (.arraylength, 1) := by decide +kernel
theorem dX7_append_16 : decode cX7_append 16 = .ok (.if_icmp .ge 23, 3) := by decide +kernel
theorem dX7_append_19 : decode cX7_append 19 = .ok (.aload_n 0, 1) := by decide +kernel
theorem dX7_append_20 : decode cX7_append 20 = .ok (.getfield 9, 3) := by decide +kernel
theorem dX7_append_23 : decode cX7_append 23 = .ok (.aload_n 0, 1) := by decide +kernel
theorem dX7_append_24 : decode cX7_append 24 = .ok (.getfield 15, 3) := by decide +kernel
theorem dX7_append_27 : decode cX7_append 27 = .ok (.iload_n 1, 1) := by decide +kernel
theorem dX7_append_28 : decode cX7_append 28 = .ok (.castore, 1) := by decide +kernel
theorem dX7_append_29 : decode cX7_append 29 = .ok (.aload_n 0, 1) := by decide +kernel
theorem dX7_append_30 : decode cX7_append 30 = .ok (.dup, 1) := by decide +kernel
theorem dX7_append_31 : decode cX7_append 31 = .ok (.getfield 15, 3) := by decide +kernel
theorem dX7_append_34 : decode cX7_append 34 = .ok (.iconst 1, 1) := by decide +kernel
theorem dX7_append_35 : decode cX7_append 35 = .ok (.iadd, 1) := by decide +kernel
theorem dX7_append_36 : decode cX7_append 36 = .ok (.putfield 15, 3) := by decide +kernel
theorem dX7_append_39 : decode cX7_append 39 = .ok (.return_, 1) := by decide +kernel
theorem dX7_drop_0 : decode cX7_drop 0 = .ok (.aload_n 0, 1) := by decide +kernel
theorem dX7_drop_1 : decode cX7_drop 1 = .ok (.iconst 0, 1) := by decide +kernel
theorem dX7_drop_2 : decode cX7_drop 2 = .ok (.putfield 15, 3) := by decide +kernel
theorem dX7_drop_5 : decode cX7_drop 5 = .ok (.return_, 1) := by decide +kernel
theorem dX7_toFirstToken_0 : decode cX7_toFirstToken 0 = .ok (.aload_n 0, 1) := by decide +kernel
theorem dX7_toFirstToken_1 : decode cX7_toFirstToken 1 = .ok (.iconst 0, 1) := by decide +kernel
theorem dX7_toFirstToken_2 : decode cX7_toFirstToken 2 = .ok (.putfield 19, 3) := by decide +kernel
theorem dX7_toFirstToken_5 : decode cX7_toFirstToken 5 = .ok (.aload_n 0, 1) := by decide +kernel
theorem dX7_toFirstToken_6 : decode cX7_toFirstToken 6 = .ok (.invokevirtual 22, 3) := by decide +kernel
theorem dX7_toFirstToken_9 : decode cX7_toFirstToken 9 = .ok (.return_, 1) := by decide +kernel
theorem dX7_toNextToken_0 : decode cX7_toNextToken 0 = .ok (.aload_n 0, 1) := by decide +kernel
theorem dX7_toNextToken_1 : decode cX7_toNextToken 1 = .ok (.aload_n 0, 1) := by decide +kernel
theorem dX7_toNextToken_2 : decode cX7_toNextToken 2 = .ok (.getfield 19, 3) := by decide +kernel
theorem dX7_toNextToken_5 : decode cX7_toNextToken 5 = .ok (.putfield 25, 3) := by decide +kernel
theorem dX7_toNextToken_8 : decode cX7_toNextToken 8 = .ok (.aload_n 0, 1) := by decide +kernel
theorem dX7_toNextToken_9 : decode cX7_toNextToken 9 = .ok (.getfield 25, 3) := by decide +kernel
theorem dX7_toNextToken_12 : decode cX7_toNextToken 12 = .ok (.aload_n 0, 1) := by decide +kernel
theorem dX7_toNextToken_13 : decode cX7_toNextToken 13 = .ok (.getfield 15, 3) := by decide +kernel
theorem dX7_toNextToken_16 : decode cX7_toNextToken 16 = .ok (.if_icmp .ge 28, 3) := by decide +kernel
theorem dX7_toNextToken_19 : decode cX7_toNextToken 19 = .ok (.aload_n 0, 1) := by decide +kernel
theorem dX7_toNextToken_20 : decode cX7_toNextToken 20 = .ok (.aload_n 0, 1) := by decide +kernel
theorem dX7_toNextToken_21 : decode cX7_toNextToken 21 = .ok (.getfield 25, 3) := by decide +kernel
theorem dX7_toNextToken_24 : decode cX7_toNextToken 24 = .ok (.invokevirtual 28, 3) := by decide +kernel
theorem dX7_toNextToken_27 : decode cX7_toNextToken 27 = .ok (.iconst 1, 1) := by decide +kernel
theorem dX7_toNextToken_28 : decode cX7_toNextToken 28 = .ok (.if_icmp .ne 16, 3) := by decide +kernel
theorem dX7_toNextToken_31 : decode cX7_toNextToken 31 = .ok (.aload_n 0, 1) := by decide +kernel
theorem dX7_toNextToken_32 : decode cX7_toNextToken 32 = .ok (.dup, 1) := by decide +kernel
theorem dX7_toNextToken_33 : decode cX7_toNextToken 33 = .ok (.getfield 25, 3) := by decide +kernel
theorem dX7_toNextToken_36 : decode cX7_toNextToken 36 = .ok (.iconst 1, 1) := by decide +kernel
theorem dX7_toNextToken_37 : decode cX7_toNextToken 37 = .ok (.iadd, 1) := by decide +kernel
theorem dX7_toNextToken_38 : decode cX7_toNextToken 38 = .ok (.putfield 25, 3) := by decide +kernel
theorem dX7_toNextToken_41 : decode cX7_toNextToken 41 = .ok (.goto (-33), 3) := by decide +kernel
theorem dX7_toNextToken_44 : decode cX7_toNextToken 44 = .ok (.aload_n 0, 1) := by decide +kernel
theorem dX7_toNextToken_45 : decode cX7_toNextToken 45 = .ok (.aload_n 0, 1) := by decide +kernel
theorem dX7_toNextToken_46 : decode cX7_toNextToken 46 = .ok (.aload_n 0, 1) := by decide +kernel
theorem dX7_toNextToken_47 : decode cX7_toNextToken 47 = .ok (.getfield 25, 3) := by decide +kernel
theorem dX7_toNextToken_50 : decode cX7_toNextToken 50 = .ok (.invokevirtual 28, 3) := by decide +kernel
theorem dX7_toNextToken_53 : decode cX7_toNextToken 53 = .ok (.putfield 32, 3) := by decide +kernel
theorem dX7_toNextToken_56 : decode cX7_toNextToken 56 = .ok (.aload_n 0, 1) := by decide +kernel
theorem dX7_toNextToken_57 : decode cX7_toNextToken 57 = .ok (.aload_n 0, 1) := by decide +kernel
theorem dX7_toNextToken_58 : decode cX7_toNextToken 58 = .ok (.getfield 32, 3) := by decide +kernel
theorem dX7_toNextToken_61 : decode cX7_toNextToken 61 = .ok (.ifCond .ne 10, 3) := by decide +kernel
theorem dX7_toNextToken_64 : decode cX7_toNextToken 64 = .ok (.aload_n 0, 1) := by decide +kernel
theorem dX7_toNextToken_65 : decode cX7_toNextToken 65 = .ok (.getfield 25, 3) := by decide +kernel
theorem dX7_toNextToken_68 : decode cX7_toNextToken 68 = .ok (.goto 9, 3) := by decide +kernel
theorem dX7_toNextToken_71 : decode cX7_toNextToken 71 = .ok (.aload_n 0, 1) := by decide +kernel
theorem dX7_toNextToken_72 : decode cX7_toNextToken 72 = .ok (.getfield 25, 3) := by decide +kernel
theorem dX7_toNextToken_75 : decode cX7_toNextToken 75 = .ok (.iconst 1, 1) := by decide +kernel
theorem dX7_toNextToken_76 : decode cX7_toNextToken 76 = .ok (.iadd, 1) := by decide +kernel
theorem dX7_toNextToken_77 : decode cX7_toNextToken 77 = .ok (.putfield 19, 3) := by decide +kernel
theorem dX7_toNextToken_80 : decode cX7_toNextToken 80 = .ok (.aload_n 0, 1) := by decide +kernel
theorem dX7_toNextToken_81 : decode cX7_toNextToken 81 = .ok (.getfield 19, 3) := by decide +kernel
theorem dX7_toNextToken_84 : decode cX7_toNextToken 84 = .ok (.aload_n 0, 1) := by decide +kernel
theorem dX7_toNextToken_85 : decode cX7_toNextToken 85 = .ok (.getfield 15, 3) := by decide +kernel
theorem dX7_toNextToken_88 : decode cX7_toNextToken 88 = .ok (.if_icmp .ge 47, 3) := by decide +kernel
theorem dX7_toNextToken_91 : decode cX7_toNextToken 91 = .ok (.aload_n 0, 1) := by decide +kernel
theorem dX7_toNextToken_92 : decode cX7_toNextToken 92 = .ok (.getfield 32, 3) := by decide +kernel
theorem dX7_toNextToken_95 : decode cX7_toNextToken 95 = .ok (.iconst 2, 1) := by decide +kernel
theorem dX7_toNextToken_96 : decode cX7_toNextToken 96 = .ok (.if_icmp .eq 11, 3) := by decide +kernel
theorem dX7_toNextToken_99 : decode cX7_toNextToken 99 = .ok (.aload_n 0, 1) := by decide +kernel
theorem dX7_toNextToken_100 : decode cX7_toNextToken 100 = .ok (.getfield 32, 3) := by decide +kernel
theorem dX7_toNextToken_103 : decode cX7_toNextToken 103 = .ok (.iconst 3, 1) := by decide +kernel
theorem dX7_toNextToken_104 : decode cX7_toNextToken 104 = .ok (.if_icmp .ne 31, 3) := by decide +kernel
theorem dX7_toNextToken_107 : decode cX7_toNextToken 107 = .ok (.aload_n 0, 1) := by decide +kernel
theorem dX7_toNextToken_108 : decode cX7_toNextToken 108 = .ok (.aload_n 0, 1) := by decide +kernel
theorem dX7_toNextToken_109 : decode cX7_toNextToken 109 = .ok (.getfield 19, 3) := by decide +kernel
theorem dX7_toNextToken_112 : decode cX7_toNextToken 112 = .ok (.invokevirtual 28, 3) := by decide +kernel
theorem dX7_toNextToken_115 : decode cX7_toNextToken 115 = .ok (.aload_n 0, 1) := by decide +kernel
theorem dX7_toNextToken_116 : decode cX7_toNextToken 116 = .ok (.getfield 32, 3) := by decide +kernel
theorem dX7_toNextToken_119 : decode cX7_toNextToken 119 = .ok (.if_icmp .ne 16, 3) := by decide +kernel
theorem dX7_toNextToken_122 : decode cX7_toNextToken 122 = .ok (.aload_n 0, 1) := by decide +kernel
theorem dX7_toNextToken_123 : decode cX7_toNextToken 123 = .ok (.dup, 1) := by decide +kernel
theorem dX7_toNextToken_124 : decode cX7_toNextToken 124 = .ok (.getfield 19, 3) := by decide +kernel
theorem dX7_toNextToken_127 : decode cX7_toNextToken 127 = .ok (.iconst 1, 1) := by decide +kernel
theorem dX7_toNextToken_128 : decode cX7_toNextToken 128 = .ok (.iadd, 1) := by decide +kernel
theorem dX7_toNextToken_129 : decode cX7_toNextToken 129 = .ok (.putfield 19, 3) := by decide +kernel
theorem dX7_toNextToken_132 : decode cX7_toNextToken 132 = .ok (.goto (-52), 3) := by decide +kernel
theorem dX7_toNextToken_135 : decode cX7_toNextToken 135 = .ok (.return_, 1) := by decide +kernel
theorem dX7_tokenStart_0 : decode cX7_tokenStart 0 = .ok (.aload_n 0, 1) := by decide +kernel
theorem dX7_tokenStart_1 : decode cX7_tokenStart 1 = .ok (.getfield 25, 3) := by decide +kernel
theorem dX7_tokenStart_4 : decode cX7_tokenStart 4 = .ok (.ireturn, 1) := by decide +kernel
theorem dX7_isAtEnd_0 : decode cX7_isAtEnd 0 = .ok (.aload_n 0, 1) := by decide +kernel
theorem dX7_isAtEnd_1 : decode cX7_isAtEnd 1 = .ok (.getfield 32, 3) := by decide +kernel
theorem dX7_isAtEnd_4 : decode cX7_isAtEnd 4 = .ok (.ifCond .ne 7, 3) := by decide +kernel
theorem dX7_isAtEnd_7 : decode cX7_isAtEnd 7 = .ok (.iconst 1, 1) := by decide +kernel
theorem dX7_isAtEnd_8 : decode cX7_isAtEnd 8 = .ok (.goto 4, 3) := by decide +kernel
theorem dX7_isAtEnd_11 : decode cX7_isAtEnd 11 = .ok (.iconst 0, 1) := by decide +kernel
theorem dX7_isAtEnd_12 : decode cX7_isAtEnd 12 = .ok (.ireturn, 1) := by decide +kernel
theorem dX7_isSemicolon_0 : decode cX7_isSemicolon 0 = .ok (.aload_n 0, 1) := by decide +kernel
theorem dX7_isSemicolon_1 : decode cX7_isSemicolon 1 = .ok (.getfield 32, 3) := by decide +kernel
theorem dX7_isSemicolon_4 : decode cX7_isSemicolon 4 = .ok (.iconst 4, 1) := by decide +kernel
theorem dX7_isSemicolon_5 : decode cX7_isSemicolon 5 = .ok (.if_icmp .ne 7, 3) := by decide +kernel
theorem dX7_isSemicolon_8 : decode cX7_isSemicolon 8 = .ok (.iconst 1, 1) := by decide +kernel
theorem dX7_isSemicolon_9 : decode cX7_isSemicolon 9 = .ok (.goto 4, 3) := by decide +kernel
theorem dX7_isSemicolon_12 : decode cX7_isSemicolon 12 = .ok (.iconst 0, 1) := by decide +kernel
theorem dX7_isSemicolon_13 : decode cX7_isSemicolon 13 = .ok (.ireturn, 1) := by decide +kernel
theorem dX7_isWord_0 : decode cX7_isWord 0 = .ok (.aload_n 0, 1) := by decide +kernel
theorem dX7_isWord_1 : decode cX7_isWord 1 = .ok (.getfield 32, 3) := by decide +kernel
theorem dX7_isWord_4 : decode cX7_isWord 4 = .ok (.iconst 2, 1) := by decide +kernel
theorem dX7_isWord_5 : decode cX7_isWord 5 = .ok (.if_icmp .ne 19, 3) := by decide +kernel
theorem dX7_isWord_8 : decode cX7_isWord 8 = .ok (.aload_n 0, 1) := by decide +kernel
theorem dX7_isWord_9 : decode cX7_isWord 9 = .ok (.getfield 19, 3) := by decide +kernel
theorem dX7_isWord_12 : decode cX7_isWord 12 = .ok (.aload_n 0, 1) := by decide +kernel
theorem dX7_isWord_13 : decode cX7_isWord 13 = .ok (.getfield 25, 3) := by decide +kernel
theorem dX7_isWord_16 : decode cX7_isWord 16 = .ok (.isub, 1) := by decide +kernel
theorem dX7_isWord_17 : decode cX7_isWord 17 = .ok (.aload_n 1, 1) := by decide +kernel
theorem dX7_isWord_18 : decode cX7_isWord 18 = .ok (.invokevirtual 35, 3) := by decide +kernel
theorem dX7_isWord_21 : decode cX7_isWord 21 = .ok (.if_icmp .eq 5, 3) := by decide +kernel
theorem dX7_isWord_24 : decode cX7_isWord 24 = .ok (.iconst 0, 1) := by decide +kernel
theorem dX7_isWord_25 : decode cX7_isWord 25 = .ok (.ireturn, 1) := by decide +kernel
theorem dX7_isWord_26 : decode cX7_isWord 26 = .ok (.iconst 0, 1) := by decide +kernel
theorem dX7_isWord_27 : decode cX7_isWord 27 = .ok (.istore_n 2, 1) := by decide +kernel
theorem dX7_isWord_28 : decode cX7_isWord 28 = .ok (.iload_n 2, 1) := by decide +kernel
theorem dX7_isWord_29 : decode cX7_isWord 29 = .ok (.aload_n 1, 1) := by decide +kernel
theorem dX7_isWord_30 : decode cX7_isWord 30 = .ok (.invokevirtual 35, 3) := by decide +kernel
theorem dX7_isWord_33 : decode cX7_isWord 33 = .ok (.if_icmp .ge 24, 3) := by decide +kernel
theorem dX7_isWord_36 : decode cX7_isWord 36 = .ok (.aload_n 0, 1) := by decide +kernel
theorem dX7_isWord_37 : decode cX7_isWord 37 = .ok (.iload_n 2, 1) := by decide +kernel
theorem dX7_isWord_38 : decode cX7_isWord 38 = .ok (.invokevirtual 40, 3) := by decide +kernel
theorem dX7_isWord_41 : decode cX7_isWord 41 = .ok (.aload_n 1, 1) := by decide +kernel
theorem dX7_isWord_42 : decode cX7_isWord 42 = .ok (.iload_n 2, 1) := by decide +kernel
theorem dX7_isWord_43 : decode cX7_isWord 43 = .ok (.invokevirtual 44, 3) := by decide +kernel
theorem dX7_isWord_46 : decode cX7_isWord 46 = .ok (.if_icmp .eq 5, 3) := by decide +kernel
theorem dX7_isWord_49 : decode cX7_isWord 49 = .ok (.iconst 0, 1) := by decide +kernel
theorem dX7_isWord_50 : decode cX7_isWord 50 = .ok (.ireturn, 1) := by decide +kernel
theorem dX7_isWord_51 : decode cX7_isWord 51 = .ok (.iinc 2 1, 3) := by decide +kernel
theorem dX7_isWord_54 : decode cX7_isWord 54 = .ok (.goto (-26), 3) := by decide +kernel
theorem dX7_isWord_57 : decode cX7_isWord 57 = .ok (.iconst 1, 1) := by decide +kernel
theorem dX7_isWord_58 : decode cX7_isWord 58 = .ok (.ireturn, 1) := by decide +kernel
theorem dX7_isDigits_0 : decode cX7_isDigits 0 = .ok (.aload_n 0, 1) := by decide +kernel
theorem dX7_isDigits_1 : decode cX7_isDigits 1 = .ok (.getfield 32, 3) := by decide +kernel
theorem dX7_isDigits_4 : decode cX7_isDigits 4 = .ok (.iconst 3, 1) := by decide +kernel
theorem dX7_isDigits_5 : decode cX7_isDigits 5 = .ok (.if_icmp .ne 20, 3) := by decide +kernel
theorem dX7_isDigits_8 : decode cX7_isDigits 8 = .ok (.aload_n 0, 1) := by decide +kernel
theorem dX7_isDigits_9 : decode cX7_isDigits 9 = .ok (.getfield 19, 3) := by decide +kernel
theorem dX7_isDigits_12 : decode cX7_isDigits 12 = .ok (.aload_n 0, 1) := by decide +kernel
theorem dX7_isDigits_13 : decode cX7_isDigits 13 = .ok (.getfield 25, 3) := by decide +kernel
theorem dX7_isDigits_16 : decode cX7_isDigits 16 = .ok (.isub, 1) := by decide +kernel
theorem dX7_isDigits_17 : decode cX7_isDigits 17 = .ok (.iload_n 1, 1) := by decide +kernel
theorem dX7_isDigits_18 : decode cX7_isDigits 18 = .ok (.iload_n 2, 1) := by decide +kernel
theorem dX7_isDigits_19 : decode cX7_isDigits 19 = .ok (.invokestatic 47, 3) := by decide +kernel
theorem dX7_isDigits_22 : decode cX7_isDigits 22 = .ok (.ifCond .ne 5, 3) := by decide +kernel
theorem dX7_isDigits_25 : decode cX7_isDigits 25 = .ok (.iconst 0, 1) := by decide +kernel
theorem dX7_isDigits_26 : decode cX7_isDigits 26 = .ok (.ireturn, 1) := by decide +kernel
theorem dX7_isDigits_27 : decode cX7_isDigits 27 = .ok (.iconst 0, 1) := by decide +kernel
theorem dX7_isDigits_28 : decode cX7_isDigits 28 = .ok (.istore 5, 2) := by decide +kernel
theorem dX7_isDigits_30 : decode cX7_isDigits 30 = .ok (.iload 5, 2) := by decide +kernel
theorem dX7_isDigits_32 : decode cX7_isDigits 32 = .ok (.aload_n 0, 1) := by decide +kernel
theorem dX7_isDigits_33 : decode cX7_isDigits 33 = .ok (.getfield 19, 3) := by decide +kernel
theorem dX7_isDigits_36 : decode cX7_isDigits 36 = .ok (.aload_n 0, 1) := by decide +kernel
theorem dX7_isDigits_37 : decode cX7_isDigits 37 = .ok (.getfield 25, 3) := by decide +kernel
theorem dX7_isDigits_40 : decode cX7_isDigits 40 = .ok (.isub, 1) := by decide +kernel
theorem dX7_isDigits_41 : decode cX7_isDigits 41 = .ok (.if_icmp .ge 29, 3) := by decide +kernel
theorem dX7_isDigits_44 : decode cX7_isDigits 44 = .ok (.aload_n 0, 1) := by decide +kernel
theorem dX7_isDigits_45 : decode cX7_isDigits 45 = .ok (.iload 5, 2) := by decide +kernel
theorem dX7_isDigits_47 : decode cX7_isDigits 47 = .ok (.invokevirtual 40, 3) := by decide +kernel
theorem dX7_isDigits_50 : decode cX7_isDigits 50 = .ok (.bipush 48, 2) := by decide +kernel
theorem dX7_isDigits_52 : decode cX7_isDigits 52 = .ok (.isub, 1) := by decide +kernel
theorem dX7_isDigits_53 : decode cX7_isDigits 53 = .ok (.iload_n 3, 1) := by decide +kernel
theorem dX7_isDigits_54 : decode cX7_isDigits 54 = .ok (.iload 4, 2) := by decide +kernel
theorem dX7_isDigits_56 : decode cX7_isDigits 56 = .ok (.invokestatic 47, 3) := by decide +kernel
theorem dX7_isDigits_59 : decode cX7_isDigits 59 = .ok (.ifCond .ne 5, 3) := by decide +kernel
theorem dX7_isDigits_62 : decode cX7_isDigits 62 = .ok (.iconst 0, 1) := by decide +kernel
theorem dX7_isDigits_63 : decode cX7_isDigits 63 = .ok (.ireturn, 1) := by decide +kernel
theorem dX7_isDigits_64 : decode cX7_isDigits 64 = .ok (.iinc 5 1, 3) := by decide +kernel
theorem dX7_isDigits_67 : decode cX7_isDigits 67 = .ok (.goto (-37), 3) := by decide +kernel
theorem dX7_isDigits_70 : decode cX7_isDigits 70 = .ok (.iconst 1, 1) := by decide +kernel
theorem dX7_isDigits_71 : decode cX7_isDigits 71 = .ok (.ireturn, 1) := by decide +kernel
theorem dX7_tokenLength_0 : decode cX7_tokenLength 0 = .ok (.aload_n 0, 1) := by decide +kernel
theorem dX7_tokenLength_1 : decode cX7_tokenLength 1 = .ok (.getfield 19, 3) := by decide +kernel
theorem dX7_tokenLength_4 : decode cX7_tokenLength 4 = .ok (.aload_n 0, 1) := by decide +kernel
theorem dX7_tokenLength_5 : decode cX7_tokenLength 5 = .ok (.getfield 25, 3) := by decide +kernel
theorem dX7_tokenLength_8 : decode cX7_tokenLength 8 = .ok (.isub, 1) := by decide +kernel
theorem dX7_tokenLength_9 : decode cX7_tokenLength 9 = .ok (.ireturn, 1) := by decide +kernel
theorem dX7_digit_0 : decode cX7_digit 0 = .ok (.aload_n 0, 1) := by decide +kernel
theorem dX7_digit_1 : decode cX7_digit 1 = .ok (.iload_n 1, 1) := by decide +kernel
theorem dX7_digit_2 : decode cX7_digit 2 = .ok (.invokevirtual 40, 3) := by decide +kernel
theorem dX7_digit_5 : decode cX7_digit 5 = .ok (.bipush 48, 2) := by decide +kernel
theorem dX7_digit_7 : decode cX7_digit 7 = .ok (.isub, 1) := by decide +kernel
theorem dX7_digit_8 : decode cX7_digit 8 = .ok (.ireturn, 1) := by decide +kernel
theorem dX7_tokenLetter_0 : decode cX7_tokenLetter 0 = .ok (.aload_n 0, 1) := by decide +kernel
theorem dX7_tokenLetter_1 : decode cX7_tokenLetter 1 = .ok (.getfield 25, 3) := by decide +kernel
theorem dX7_tokenLetter_4 : decode cX7_tokenLetter 4 = .ok (.iload_n 1, 1) := by decide +kernel
theorem dX7_tokenLetter_5 : decode cX7_tokenLetter 5 = .ok (.iadd, 1) := by decide +kernel
theorem dX7_tokenLetter_6 : decode cX7_tokenLetter 6 = .ok (.istore_n 2, 1) := by decide +kernel
theorem dX7_tokenLetter_7 : decode cX7_tokenLetter 7 = .ok (.iload_n 2, 1) := by decide +kernel
theorem dX7_tokenLetter_8 : decode cX7_tokenLetter 8 = .ok (.ifCond .lt 21, 3) := by decide +kernel
theorem dX7_tokenLetter_11 : decode cX7_tokenLetter 11 = .ok (.iload_n 2, 1) := by decide +kernel
theorem dX7_tokenLetter_12 : decode cX7_tokenLetter 12 = .ok (.aload_n 0, 1) := by decide +kernel
theorem dX7_tokenLetter_13 : decode cX7_tokenLetter 13 = .ok (.getfield 9, 3) := by decide +kernel
theorem dX7_tokenLetter_16 : decode cX7_tokenLetter 16 = .ok (.arraylength, 1) := by decide +kernel
theorem dX7_tokenLetter_17 : decode cX7_tokenLetter 17 = .ok (.if_icmp .ge 12, 3) := by decide +kernel
theorem dX7_tokenLetter_20 : decode cX7_tokenLetter 20 = .ok (.aload_n 0, 1) := by decide +kernel
theorem dX7_tokenLetter_21 : decode cX7_tokenLetter 21 = .ok (.getfield 9, 3) := by decide +kernel
theorem dX7_tokenLetter_24 : decode cX7_tokenLetter 24 = .ok (.iload_n 2, 1) := by decide +kernel
theorem dX7_tokenLetter_25 : decode cX7_tokenLetter 25 = .ok (.caload, 1) := by decide +kernel
theorem dX7_tokenLetter_26 : decode cX7_tokenLetter 26 = .ok (.goto 5, 3) := by decide +kernel
theorem dX7_tokenLetter_29 : decode cX7_tokenLetter 29 = .ok (.bipush 32, 2) := by decide +kernel
theorem dX7_tokenLetter_31 : decode cX7_tokenLetter 31 = .ok (.ireturn, 1) := by decide +kernel
theorem dX7_kindAt_0 : decode cX7_kindAt 0 = .ok (.iload_n 1, 1) := by decide +kernel
theorem dX7_kindAt_1 : decode cX7_kindAt 1 = .ok (.ifCond .lt 20, 3) := by decide +kernel
theorem dX7_kindAt_4 : decode cX7_kindAt 4 = .ok (.iload_n 1, 1) := by decide +kernel
theorem dX7_kindAt_5 : decode cX7_kindAt 5 = .ok (.aload_n 0, 1) := by decide +kernel
theorem dX7_kindAt_6 : decode cX7_kindAt 6 = .ok (.getfield 15, 3) := by decide +kernel
theorem dX7_kindAt_9 : decode cX7_kindAt 9 = .ok (.if_icmp .ge 12, 3) := by decide +kernel
theorem dX7_kindAt_12 : decode cX7_kindAt 12 = .ok (.iload_n 1, 1) := by decide +kernel
theorem dX7_kindAt_13 : decode cX7_kindAt 13 = .ok (.aload_n 0, 1) := by decide +kernel
theorem dX7_kindAt_14 : decode cX7_kindAt 14 = .ok (.getfield 9, 3) := by decide +kernel
theorem dX7_kindAt_17 : decode cX7_kindAt 17 = .ok (.arraylength, 1) := by decide +kernel
theorem dX7_kindAt_18 : decode cX7_kindAt 18 = .ok (.if_icmp .lt 5, 3) := by decide +kernel
theorem dX7_kindAt_21 : decode cX7_kindAt 21 = .ok (.iconst 0, 1) := by decide +kernel
theorem dX7_kindAt_22 : decode cX7_kindAt 22 = .ok (.ireturn, 1) := by decide +kernel
theorem dX7_kindAt_23 : decode cX7_kindAt 23 = .ok (.aload_n 0, 1) := by decide +kernel
theorem dX7_kindAt_24 : decode cX7_kindAt 24 = .ok (.getfield 9, 3) := by decide +kernel
theorem dX7_kindAt_27 : decode cX7_kindAt 27 = .ok (.iload_n 1, 1) := by decide +kernel
theorem dX7_kindAt_28 : decode cX7_kindAt 28 = .ok (.caload, 1) := by decide +kernel
theorem dX7_kindAt_29 : decode cX7_kindAt 29 = .ok (.istore_n 2, 1) := by decide +kernel
theorem dX7_kindAt_30 : decode cX7_kindAt 30 = .ok (.iload_n 2, 1) := by decide +kernel
theorem dX7_kindAt_31 : decode cX7_kindAt 31 = .ok (.bipush 97, 2) := by decide +kernel
theorem dX7_kindAt_33 : decode cX7_kindAt 33 = .ok (.if_icmp .lt 11, 3) := by decide +kernel
theorem dX7_kindAt_36 : decode cX7_kindAt 36 = .ok (.iload_n 2, 1) := by decide +kernel
theorem dX7_kindAt_37 : decode cX7_kindAt 37 = .ok (.bipush 122, 2) := by decide +kernel
theorem dX7_kindAt_39 : decode cX7_kindAt 39 = .ok (.if_icmp .gt 5, 3) := by decide +kernel
theorem dX7_kindAt_42 : decode cX7_kindAt 42 = .ok (.iconst 2, 1) := by decide +kernel
theorem dX7_kindAt_43 : decode cX7_kindAt 43 = .ok (.ireturn, 1) := by decide +kernel
theorem dX7_kindAt_44 : decode cX7_kindAt 44 = .ok (.iload_n 2, 1) := by decide +kernel
theorem dX7_kindAt_45 : decode cX7_kindAt 45 = .ok (.bipush 48, 2) := by decide +kernel
theorem dX7_kindAt_47 : decode cX7_kindAt 47 = .ok (.if_icmp .lt 11, 3) := by decide +kernel
theorem dX7_kindAt_50 : decode cX7_kindAt 50 = .ok (.iload_n 2, 1) := by decide +kernel
theorem dX7_kindAt_51 : decode cX7_kindAt 51 = .ok (.bipush 57, 2) := by decide +kernel
theorem dX7_kindAt_53 : decode cX7_kindAt 53 = .ok (.if_icmp .gt 5, 3) := by decide +kernel
theorem dX7_kindAt_56 : decode cX7_kindAt 56 = .ok (.iconst 3, 1) := by decide +kernel
theorem dX7_kindAt_57 : decode cX7_kindAt 57 = .ok (.ireturn, 1) := by decide +kernel
theorem dX7_kindAt_58 : decode cX7_kindAt 58 = .ok (.iload_n 2, 1) := by decide +kernel
theorem dX7_kindAt_59 : decode cX7_kindAt 59 = .ok (.bipush 32, 2) := by decide +kernel
theorem dX7_kindAt_61 : decode cX7_kindAt 61 = .ok (.if_icmp .ne 5, 3) := by decide +kernel
theorem dX7_kindAt_64 : decode cX7_kindAt 64 = .ok (.iconst 1, 1) := by decide +kernel
theorem dX7_kindAt_65 : decode cX7_kindAt 65 = .ok (.ireturn, 1) := by decide +kernel
theorem dX7_kindAt_66 : decode cX7_kindAt 66 = .ok (.iload_n 2, 1) := by decide +kernel
theorem dX7_kindAt_67 : decode cX7_kindAt 67 = .ok (.bipush 59, 2) := by decide +kernel
theorem dX7_kindAt_69 : decode cX7_kindAt 69 = .ok (.if_icmp .ne 7, 3) := by decide +kernel
theorem dX7_kindAt_72 : decode cX7_kindAt 72 = .ok (.iconst 4, 1) := by decide +kernel
theorem dX7_kindAt_73 : decode cX7_kindAt 73 = .ok (.goto 4, 3) := by decide +kernel
theorem dX7_kindAt_76 : decode cX7_kindAt 76 = .ok (.iconst 5, 1) := by decide +kernel
theorem dX7_kindAt_77 : decode cX7_kindAt 77 = .ok (.ireturn, 1) := by decide +kernel
theorem dX8_init_0 : decode cX8_init 0 = .ok (.aload_n 0, 1) := by decide +kernel
theorem dX8_init_1 : decode cX8_init 1 = .ok (.invokespecial 3, 3) := by decide +kernel
theorem dX8_init_4 : decode cX8_init 4 = .ok (.aload_n 0, 1) := by decide +kernel
theorem dX8_init_5 : decode cX8_init 5 = .ok (.bipush 48, 2) := by decide +kernel
theorem dX8_init_7 : decode cX8_init 7 = .ok (.newarray .int, 2) := by decide +kernel
theorem dX8_init_9 : decode cX8_init 9 = .ok (.putfield 9, 3) := by decide +kernel
theorem dX8_init_12 : decode cX8_init 12 = .ok (.aload_n 0, 1) := by decide +kernel
theorem dX8_init_13 : decode cX8_init 13 = .ok (.bipush 48, 2) := by decide +kernel
theorem dX8_init_15 : decode cX8_init 15 = .ok (.newarray .int, 2) := by decide +kernel
theorem dX8_init_17 : decode cX8_init 17 = .ok (.putfield 15, 3) := by decide +kernel
theorem dX8_init_20 : decode cX8_init 20 = .ok (.return_, 1) := by decide +kernel
theorem dX8_spread_0 : decode cX8_spread 0 = .ok (.aload_n 0, 1) := by decide +kernel
theorem dX8_spread_1 : decode cX8_spread 1 = .ok (.getfield 15, 3) := by decide +kernel
theorem dX8_spread_4 : decode cX8_spread 4 = .ok (.bipush (-9), 2) := by decide +kernel
theorem dX8_spread_6 : decode cX8_spread 6 = .ok (.invokestatic 18, 3) := by decide +kernel
theorem dX8_spread_9 : decode cX8_spread 9 = .ok (.aload_n 0, 1) := by decide +kernel
theorem dX8_spread_10 : decode cX8_spread 10 = .ok (.iconst 0, 1) := by decide +kernel
theorem dX8_spread_11 : decode cX8_spread 11 = .ok (.putfield 24, 3) := by decide +kernel
theorem dX8_spread_14 : decode cX8_spread 14 = .ok (.aload_n 0, 1) := by decide +kernel
theorem dX8_spread_15 : decode cX8_spread 15 = .ok (.iload_n 2, 1) := by decide +kernel
theorem dX8_spread_16 : decode cX8_spread 16 = .ok (.iconst 0, 1) := by decide +kernel
theorem dX8_spread_17 : decode cX8_spread 17 = .ok (.invokevirtual 28, 3) := by decide +kernel
theorem dX8_spread_20 : decode cX8_spread 20 = .ok (.iconst 0, 1) := by decide +kernel
theorem dX8_spread_21 : decode cX8_spread 21 = .ok (.istore_n 3, 1) := by decide +kernel
theorem dX8_spread_22 : decode cX8_spread 22 = .ok (.iload_n 3, 1) := by decide +kernel
theorem dX8_spread_23 : decode cX8_spread 23 = .ok (.aload_n 0, 1) := by decide +kernel
theorem dX8_spread_24 : decode cX8_spread 24 = .ok (.getfield 24, 3) := by decide +kernel
theorem dX8_spread_27 : decode cX8_spread 27 = .ok (.if_icmp .ge 86, 3) := by decide +kernel
theorem dX8_spread_30 : decode cX8_spread 30 = .ok (.iload_n 3, 1) := by decide +kernel
theorem dX8_spread_31 : decode cX8_spread 31 = .ok (.bipush 48, 2) := by decide +kernel
theorem dX8_spread_33 : decode cX8_spread 33 = .ok (.if_icmp .ge 80, 3) := by decide +kernel
theorem dX8_spread_36 : decode cX8_spread 36 = .ok (.aload_n 0, 1) := by decide +kernel
theorem dX8_spread_37 : decode cX8_spread 37 = .ok (.getfield 9, 3) := by decide +kernel
theorem dX8_spread_40 : decode cX8_spread 40 = .ok (.iload_n 3, 1) := by decide +kernel
theorem dX8_spread_41 : decode cX8_spread 41 = .ok (.iaload, 1) := by decide +kernel
theorem dX8_spread_42 : decode cX8_spread 42 = .ok (.istore 4, 2) := by decide +kernel
theorem dX8_spread_44 : decode cX8_spread 44 = .ok (.iconst 0, 1) := by decide +kernel
theorem dX8_spread_45 : decode cX8_spread 45 = .ok (.istore 5, 2) := by decide +kernel
theorem dX8_spread_47 : decode cX8_spread 47 = .ok (.iload 5, 2) := by decide +kernel
theorem dX8_spread_49 : decode cX8_spread 49 = .ok (.iconst 4, 1) := by decide +kernel
theorem dX8_spread_50 : decode cX8_spread 50 = .ok (.if_icmp .ge 57, 3) := by decide +kernel
theorem dX8_spread_53 : decode cX8_spread 53 = .ok (.iload 4, 2) := by decide +kernel
theorem dX8_spread_55 : decode cX8_spread 55 = .ok (.iload 5, 2) := by decide +kernel
theorem dX8_spread_57 : decode cX8_spread 57 = .ok (.invokestatic 32, 3) := by decide +kernel
theorem dX8_spread_60 : decode cX8_spread 60 = .ok (.istore 6, 2) := by decide +kernel
theorem dX8_spread_62 : decode cX8_spread 62 = .ok (.aload_n 1, 1) := by decide +kernel
theorem dX8_spread_63 : decode cX8_spread 63 = .ok (.iload 6, 2) := by decide +kernel
theorem dX8_spread_65 : decode cX8_spread 65 = .ok (.invokevirtual 36, 3) := by decide +kernel
theorem dX8_spread_68 : decode cX8_spread 68 = .ok (.aload_n 1, 1) := by decide +kernel
theorem dX8_spread_69 : decode cX8_spread 69 = .ok (.iload_n 2, 1) := by decide +kernel
theorem dX8_spread_70 : decode cX8_spread 70 = .ok (.invokevirtual 36, 3) := by decide +kernel
theorem dX8_spread_73 : decode cX8_spread 73 = .ok (.if_icmp .ne 28, 3) := by decide +kernel
theorem dX8_spread_76 : decode cX8_spread 76 = .ok (.aload_n 0, 1) := by decide +kernel
theorem dX8_spread_77 : decode cX8_spread 77 = .ok (.iload 6, 2) := by decide +kernel
theorem dX8_spread_79 : decode cX8_spread 79 = .ok (.invokevirtual 42, 3) := by decide +kernel
theorem dX8_spread_82 : decode cX8_spread 82 = .ok (.bipush (-9), 2) := by decide +kernel
theorem dX8_spread_84 : decode cX8_spread 84 = .ok (.if_icmp .ne 17, 3) := by decide +kernel
theorem dX8_spread_87 : decode cX8_spread 87 = .ok (.aload_n 0, 1) := by decide +kernel
theorem dX8_spread_88 : decode cX8_spread 88 = .ok (.iload 6, 2) := by decide +kernel
theorem dX8_spread_90 : decode cX8_spread 90 = .ok (.aload_n 0, 1) := by decide +kernel
theorem dX8_spread_91 : decode cX8_spread 91 = .ok (.iload 4, 2) := by decide +kernel
theorem dX8_spread_93 : decode cX8_spread 93 = .ok (.invokevirtual 42, 3) := by decide +kernel
theorem dX8_spread_96 : decode cX8_spread 96 = .ok (.iconst 1, 1) := by decide +kernel
theorem dX8_spread_97 : decode cX8_spread 97 = .ok (.iadd, 1) := by decide +kernel
theorem dX8_spread_98 : decode cX8_spread 98 = .ok (.invokevirtual 28, 3) := by decide +kernel
theorem dX8_spread_101 : decode cX8_spread 101 = .ok (.iinc 5 1, 3) := by decide +kernel
theorem dX8_spread_104 : decode cX8_spread 104 = .ok (.goto (-57), 3) := by decide +kernel
theorem dX8_spread_107 : decode cX8_spread 107 = .ok (.iinc 3 1, 3) := by decide +kernel
theorem dX8_spread_110 : decode cX8_spread 110 = .ok (.goto (-88), 3) := by decide +kernel
theorem dX8_spread_113 : decode cX8_spread 113 = .ok (.return_, 1) := by decide +kernel
theorem dX8_size_0 : decode cX8_size 0 = .ok (.aload_n 0, 1) := by decide +kernel
theorem dX8_size_1 : decode cX8_size 1 = .ok (.getfield 24, 3) := by decide +kernel
theorem dX8_size_4 : decode cX8_size 4 = .ok (.ireturn, 1) := by decide +kernel
theorem dX8_place_0 : decode cX8_place 0 = .ok (.aload_n 0, 1) := by decide +kernel
theorem dX8_place_1 : decode cX8_place 1 = .ok (.getfield 9, 3) := by decide +kernel
theorem dX8_place_4 : decode cX8_place 4 = .ok (.iload_n 1, 1) := by decide +kernel
theorem dX8_place_5 : decode cX8_place 5 = .ok (.invokestatic 45, 3) := by decide +kernel
theorem dX8_place_8 : decode cX8_place 8 = .ok (.ireturn, 1) := by decide +kernel
theorem dX8_stepsTo_0 : decode cX8_stepsTo 0 = .ok (.iload_n 1, 1) := by decide +kernel
theorem dX8_stepsTo_1 : decode cX8_stepsTo 1 = .ok (.ifCond .lt 18, 3) := by decide +kernel
theorem dX8_stepsTo_4 : decode cX8_stepsTo 4 = .ok (.iload_n 1, 1) := by decide +kernel
theorem dX8_stepsTo_5 : decode cX8_stepsTo 5 = .ok (.bipush 48, 2) := by decide +kernel
theorem dX8_stepsTo_7 : decode cX8_stepsTo 7 = .ok (.if_icmp .ge 12, 3) := by decide +kernel
theorem dX8_stepsTo_10 : decode cX8_stepsTo 10 = .ok (.aload_n 0, 1) := by decide +kernel
theorem dX8_stepsTo_11 : decode cX8_stepsTo 11 = .ok (.getfield 15, 3) := by decide +kernel
theorem dX8_stepsTo_14 : decode cX8_stepsTo 14 = .ok (.iload_n 1, 1) := by decide +kernel
theorem dX8_stepsTo_15 : decode cX8_stepsTo 15 = .ok (.iaload, 1) := by decide +kernel
theorem dX8_stepsTo_16 : decode cX8_stepsTo 16 = .ok (.goto 5, 3) := by decide +kernel
theorem dX8_stepsTo_19 : decode cX8_stepsTo 19 = .ok (.bipush (-9), 2) := by decide +kernel
theorem dX8_stepsTo_21 : decode cX8_stepsTo 21 = .ok (.ireturn, 1) := by decide +kernel
theorem dX8_reach_0 : decode cX8_reach 0 = .ok (.iload_n 1, 1) := by decide +kernel
theorem dX8_reach_1 : decode cX8_reach 1 = .ok (.ifCond .lt 52, 3) := by decide +kernel
theorem dX8_reach_4 : decode cX8_reach 4 = .ok (.iload_n 1, 1) := by decide +kernel
theorem dX8_reach_5 : decode cX8_reach 5 = .ok (.bipush 48, 2) := by decide +kernel
theorem dX8_reach_7 : decode cX8_reach 7 = .ok (.if_icmp .ge 46, 3) := by decide +kernel
theorem dX8_reach_10 : decode cX8_reach 10 = .ok (.aload_n 0, 1) := by decide +kernel
theorem dX8_reach_11 : decode cX8_reach 11 = .ok (.getfield 24, 3) := by decide +kernel
theorem dX8_reach_14 : decode cX8_reach 14 = .ok (.ifCond .lt 39, 3) := by decide +kernel
theorem dX8_reach_17 : decode cX8_reach 17 = .ok (.aload_n 0, 1) := by decide +kernel
theorem dX8_reach_18 : decode cX8_reach 18 = .ok (.getfield 24, 3) := by decide +kernel
theorem dX8_reach_21 : decode cX8_reach 21 = .ok (.bipush 48, 2) := by decide +kernel
theorem dX8_reach_23 : decode cX8_reach 23 = .ok (.if_icmp .ge 30, 3) := by decide +kernel
theorem dX8_reach_26 : decode cX8_reach 26 = .ok (.aload_n 0, 1) := by decide +kernel
theorem dX8_reach_27 : decode cX8_reach 27 = .ok (.getfield 9, 3) := by decide +kernel
theorem dX8_reach_30 : decode cX8_reach 30 = .ok (.aload_n 0, 1) := by decide +kernel
theorem dX8_reach_31 : decode cX8_reach 31 = .ok (.getfield 24, 3) := by decide +kernel
theorem dX8_reach_34 : decode cX8_reach 34 = .ok (.iload_n 1, 1) := by decide +kernel
theorem dX8_reach_35 : decode cX8_reach 35 = .ok (.iastore, 1) := by decide +kernel
theorem dX8_reach_36 : decode cX8_reach 36 = .ok (.aload_n 0, 1) := by decide +kernel
theorem dX8_reach_37 : decode cX8_reach 37 = .ok (.getfield 15, 3) := by decide +kernel
theorem dX8_reach_40 : decode cX8_reach 40 = .ok (.iload_n 1, 1) := by decide +kernel
theorem dX8_reach_41 : decode cX8_reach 41 = .ok (.iload_n 2, 1) := by decide +kernel
theorem dX8_reach_42 : decode cX8_reach 42 = .ok (.iastore, 1) := by decide +kernel
theorem dX8_reach_43 : decode cX8_reach 43 = .ok (.aload_n 0, 1) := by decide +kernel
theorem dX8_reach_44 : decode cX8_reach 44 = .ok (.dup, 1) := by decide +kernel
theorem dX8_reach_45 : decode cX8_reach 45 = .ok (.getfield 24, 3) := by decide +kernel
theorem dX8_reach_48 : decode cX8_reach 48 = .ok (.iconst 1, 1) := by decide +kernel
theorem dX8_reach_49 : decode cX8_reach 49 = .ok (.iadd, 1) := by decide +kernel
theorem dX8_reach_50 : decode cX8_reach 50 = .ok (.putfield 24, 3) := by decide +kernel
theorem dX8_reach_53 : decode cX8_reach 53 = .ok (.return_, 1) := by decide +kernel
theorem dX9_init_0 : decode cX9_init 0 = .ok (.aload_n 0, 1) := by decide +kernel
theorem dX9_init_1 : decode cX9_init 1 = .ok (.invokespecial 3, 3) := by decide +kernel
theorem dX9_init_4 : decode cX9_init 4 = .ok (.aload_n 0, 1) := by decide +kernel
theorem dX9_init_5 : decode cX9_init 5 = .ok (.new 9, 3) := by decide +kernel
theorem dX9_init_8 : decode cX9_init 8 = .ok (.dup, 1) := by decide +kernel
theorem dX9_init_9 : decode cX9_init 9 = .ok (.invokespecial 11, 3) := by decide +kernel
theorem dX9_init_12 : decode cX9_init 12 = .ok (.putfield 12, 3) := by decide +kernel
theorem dX9_init_15 : decode cX9_init 15 = .ok (.aload_n 0, 1) := by decide +kernel
theorem dX9_init_16 : decode cX9_init 16 = .ok (.new 16, 3) := by decide +kernel
theorem dX9_init_19 : decode cX9_init 19 = .ok (.dup, 1) := by decide +kernel
theorem dX9_init_20 : decode cX9_init 20 = .ok (.invokespecial 18, 3) := by decide +kernel
theorem dX9_init_23 : decode cX9_init 23 = .ok (.putfield 19, 3) := by decide +kernel
theorem dX9_init_26 : decode cX9_init 26 = .ok (.aload_n 0, 1) := by decide +kernel
theorem dX9_init_27 : decode cX9_init 27 = .ok (.new 23, 3) := by decide +kernel
theorem dX9_init_30 : decode cX9_init 30 = .ok (.dup, 1) := by decide +kernel
theorem dX9_init_31 : decode cX9_init 31 = .ok (.invokespecial 25, 3) := by decide +kernel
theorem dX9_init_34 : decode cX9_init 34 = .ok (.putfield 26, 3) := by decide +kernel
theorem dX9_init_37 : decode cX9_init 37 = .ok (.aload_n 0, 1) := by decide +kernel
theorem dX9_init_38 : decode cX9_init 38 = .ok (.new 30, 3) := by decide +kernel
theorem dX9_init_41 : decode cX9_init 41 = .ok (.dup, 1) := by decide +kernel
theorem dX9_init_42 : decode cX9_init 42 = .ok (.invokespecial 32, 3) := by decide +kernel
theorem dX9_init_45 : decode cX9_init 45 = .ok (.putfield 33, 3) := by decide +kernel
theorem dX9_init_48 : decode cX9_init 48 = .ok (.aload_n 0, 1) := by decide +kernel
theorem dX9_init_49 : decode cX9_init 49 = .ok (.new 37, 3) := by decide +kernel
theorem dX9_init_52 : decode cX9_init 52 = .ok (.dup, 1) := by decide +kernel
theorem dX9_init_53 : decode cX9_init 53 = .ok (.invokespecial 39, 3) := by decide +kernel
theorem dX9_init_56 : decode cX9_init 56 = .ok (.putfield 40, 3) := by decide +kernel
theorem dX9_init_59 : decode cX9_init 59 = .ok (.aload_n 0, 1) := by decide +kernel
theorem dX9_init_60 : decode cX9_init 60 = .ok (.new 44, 3) := by decide +kernel
theorem dX9_init_63 : decode cX9_init 63 = .ok (.dup, 1) := by decide +kernel
theorem dX9_init_64 : decode cX9_init 64 = .ok (.invokespecial 46, 3) := by decide +kernel
theorem dX9_init_67 : decode cX9_init 67 = .ok (.putfield 47, 3) := by decide +kernel
theorem dX9_init_70 : decode cX9_init 70 = .ok (.aload_n 0, 1) := by decide +kernel
theorem dX9_init_71 : decode cX9_init 71 = .ok (.new 51, 3) := by decide +kernel
theorem dX9_init_74 : decode cX9_init 74 = .ok (.dup, 1) := by decide +kernel
theorem dX9_init_75 : decode cX9_init 75 = .ok (.invokespecial 53, 3) := by decide +kernel
theorem dX9_init_78 : decode cX9_init 78 = .ok (.putfield 54, 3) := by decide +kernel
theorem dX9_init_81 : decode cX9_init 81 = .ok (.aload_n 0, 1) := by decide +kernel
theorem dX9_init_82 : decode cX9_init 82 = .ok (.new 58, 3) := by decide +kernel
theorem dX9_init_85 : decode cX9_init 85 = .ok (.dup, 1) := by decide +kernel
theorem dX9_init_86 : decode cX9_init 86 = .ok (.invokespecial 60, 3) := by decide +kernel
theorem dX9_init_89 : decode cX9_init 89 = .ok (.putfield 61, 3) := by decide +kernel
theorem dX9_init_92 : decode cX9_init 92 = .ok (.aload_n 0, 1) := by decide +kernel
theorem dX9_init_93 : decode cX9_init 93 = .ok (.iconst 2, 1) := by decide +kernel
theorem dX9_init_94 : decode cX9_init 94 = .ok (.bipush 60, 2) := by decide +kernel
theorem dX9_init_96 : decode cX9_init 96 = .ok (.multianewarray 65 2, 4) := by decide +kernel
theorem dX9_init_100 : decode cX9_init 100 = .ok (.putfield 67, 3) := by decide +kernel
theorem dX9_init_103 : decode cX9_init 103 = .ok (.aload_n 0, 1) := by decide +kernel
theorem dX9_init_104 : decode cX9_init 104 = .ok (.iconst 2, 1) := by decide +kernel
theorem dX9_init_105 : decode cX9_init 105 = .ok (.newarray .boolean, 2) := by decide +kernel
theorem dX9_init_107 : decode cX9_init 107 = .ok (.putfield 70, 3) := by decide +kernel
theorem dX9_init_110 : decode cX9_init 110 = .ok (.return_, 1) := by decide +kernel
theorem dX9_type_0 : decode cX9_type 0 = .ok (.iload_n 1, 1) := by decide +kernel
theorem dX9_type_1 : decode cX9_type 1 = .ok (.iconst 0, 1) := by decide +kernel
theorem dX9_type_2 : decode cX9_type 2 = .ok (.sipush 255, 3) := by decide +kernel
theorem dX9_type_5 : decode cX9_type 5 = .ok (.invokestatic 74, 3) := by decide +kernel
theorem dX9_type_8 : decode cX9_type 8 = .ok (.ifCond .ne 5, 3) := by decide +kernel
theorem dX9_type_11 : decode cX9_type 11 = .ok (.iconst (-1), 1) := by decide +kernel
theorem dX9_type_12 : decode cX9_type 12 = .ok (.ireturn, 1) := by decide +kernel
theorem dX9_type_13 : decode cX9_type 13 = .ok (.aload_n 0, 1) := by decide +kernel
theorem dX9_type_14 : decode cX9_type 14 = .ok (.getfield 19, 3) := by decide +kernel
theorem dX9_type_17 : decode cX9_type 17 = .ok (.invokevirtual 78, 3) := by decide +kernel
theorem dX9_type_20 : decode cX9_type 20 = .ok (.bipush 120, 2) := by decide +kernel
theorem dX9_type_22 : decode cX9_type 22 = .ok (.if_icmp .lt 6, 3) := by decide +kernel
theorem dX9_type_25 : decode cX9_type 25 = .ok (.bipush (-3), 2) := by decide +kernel
theorem dX9_type_27 : decode cX9_type 27 = .ok (.ireturn, 1) := by decide +kernel
theorem dX9_type_28 : decode cX9_type 28 = .ok (.aload_n 0, 1) := by decide +kernel
theorem dX9_type_29 : decode cX9_type 29 = .ok (.getfield 19, 3) := by decide +kernel
theorem dX9_type_32 : decode cX9_type 32 = .ok (.iload_n 1, 1) := by decide +kernel
theorem dX9_type_33 : decode cX9_type 33 = .ok (.i2c, 1) := by decide +kernel
theorem dX9_type_34 : decode cX9_type 34 = .ok (.invokevirtual 82, 3) := by decide +kernel
theorem dX9_type_37 : decode cX9_type 37 = .ok (.aload_n 0, 1) := by decide +kernel
theorem dX9_type_38 : decode cX9_type 38 = .ok (.getfield 19, 3) := by decide +kernel
theorem dX9_type_41 : decode cX9_type 41 = .ok (.invokevirtual 78, 3) := by decide +kernel
theorem dX9_type_44 : decode cX9_type 44 = .ok (.ireturn, 1) := by decide +kernel
theorem dX9_clear_0 : decode cX9_clear 0 = .ok (.aload_n 0, 1) := by decide +kernel
theorem dX9_clear_1 : decode cX9_clear 1 = .ok (.getfield 19, 3) := by decide +kernel
theorem dX9_clear_4 : decode cX9_clear 4 = .ok (.invokevirtual 78, 3) := by decide +kernel
theorem dX9_clear_7 : decode cX9_clear 7 = .ok (.istore_n 1, 1) := by decide +kernel
theorem dX9_clear_8 : decode cX9_clear 8 = .ok (.aload_n 0, 1) := by decide +kernel
theorem dX9_clear_9 : decode cX9_clear 9 = .ok (.getfield 19, 3) := by decide +kernel
theorem dX9_clear_12 : decode cX9_clear 12 = .ok (.invokevirtual 86, 3) := by decide +kernel
theorem dX9_clear_15 : decode cX9_clear 15 = .ok (.iload_n 1, 1) := by decide +kernel
theorem dX9_clear_16 : decode cX9_clear 16 = .ok (.ireturn, 1) := by decide +kernel
theorem dX9_tells_0 : decode cX9_tells 0 = .ok (.aload_n 0, 1) := by decide +kernel
theorem dX9_tells_1 : decode cX9_tells 1 = .ok (.getfield 26, 3) := by decide +kernel
theorem dX9_tells_4 : decode cX9_tells 4 = .ok (.aload_n 0, 1) := by decide +kernel
theorem dX9_tells_5 : decode cX9_tells 5 = .ok (.getfield 19, 3) := by decide +kernel
theorem dX9_tells_8 : decode cX9_tells 8 = .ok (.invokevirtual 89, 3) := by decide +kernel
theorem dX9_tells_11 : decode cX9_tells 11 = .ok (.istore_n 1, 1) := by decide +kernel
theorem dX9_tells_12 : decode cX9_tells 12 = .ok (.iload_n 1, 1) := by decide +kernel
theorem dX9_tells_13 : decode cX9_tells 13 = .ok (.ifCond .ge 5, 3) := by decide +kernel
theorem dX9_tells_16 : decode cX9_tells 16 = .ok (.iload_n 1, 1) := by decide +kernel
theorem dX9_tells_17 : decode cX9_tells 17 = .ok (.ireturn, 1) := by decide +kernel
theorem dX9_tells_18 : decode cX9_tells 18 = .ok (.aload_n 0, 1) := by decide +kernel
theorem dX9_tells_19 : decode cX9_tells 19 = .ok (.getfield 61, 3) := by decide +kernel
theorem dX9_tells_22 : decode cX9_tells 22 = .ok (.aload_n 0, 1) := by decide +kernel
theorem dX9_tells_23 : decode cX9_tells 23 = .ok (.getfield 12, 3) := by decide +kernel
theorem dX9_tells_26 : decode cX9_tells 26 = .ok (.invokevirtual 93, 3) := by decide +kernel
theorem dX9_tells_29 : decode cX9_tells 29 = .ok (.aload_n 0, 1) := by decide +kernel
theorem dX9_tells_30 : decode cX9_tells 30 = .ok (.getfield 12, 3) := by decide +kernel
theorem dX9_tells_33 : decode cX9_tells 33 = .ok (.aload_n 0, 1) := by decide +kernel
theorem dX9_tells_34 : decode cX9_tells 34 = .ok (.getfield 26, 3) := by decide +kernel
theorem dX9_tells_37 : decode cX9_tells 37 = .ok (.invokevirtual 97, 3) := by decide +kernel
theorem dX9_tells_40 : decode cX9_tells 40 = .ok (.invokevirtual 101, 3) := by decide +kernel
theorem dX9_tells_43 : decode cX9_tells 43 = .ok (.aload_n 0, 1) := by decide +kernel
theorem dX9_tells_44 : decode cX9_tells 44 = .ok (.getfield 19, 3) := by decide +kernel
theorem dX9_tells_47 : decode cX9_tells 47 = .ok (.invokevirtual 86, 3) := by decide +kernel
theorem dX9_tells_50 : decode cX9_tells 50 = .ok (.aload_n 0, 1) := by decide +kernel
theorem dX9_tells_51 : decode cX9_tells 51 = .ok (.getfield 33, 3) := by decide +kernel
theorem dX9_tells_54 : decode cX9_tells 54 = .ok (.aload_n 0, 1) := by decide +kernel
theorem dX9_tells_55 : decode cX9_tells 55 = .ok (.getfield 12, 3) := by decide +kernel
theorem dX9_tells_58 : decode cX9_tells 58 = .ok (.invokevirtual 104, 3) := by decide +kernel
theorem dX9_tells_61 : decode cX9_tells 61 = .ok (.iload_n 1, 1) := by decide +kernel
theorem dX9_tells_62 : decode cX9_tells 62 = .ok (.ireturn, 1) := by decide +kernel
theorem dX9_paints_0 : decode cX9_paints 0 = .ok (.aload_n 0, 1) := by decide +kernel
theorem dX9_paints_1 : decode cX9_paints 1 = .ok (.getfield 12, 3) := by decide +kernel
theorem dX9_paints_4 : decode cX9_paints 4 = .ok (.iload_n 1, 1) := by decide +kernel
theorem dX9_paints_5 : decode cX9_paints 5 = .ok (.iload_n 2, 1) := by decide +kernel
theorem dX9_paints_6 : decode cX9_paints 6 = .ok (.invokevirtual 107, 3) := by decide +kernel
theorem dX9_paints_9 : decode cX9_paints 9 = .ok (.ifCond .eq 37, 3) := by decide +kernel
theorem dX9_paints_12 : decode cX9_paints 12 = .ok (.aload_n 0, 1) := by decide +kernel
theorem dX9_paints_13 : decode cX9_paints 13 = .ok (.getfield 12, 3) := by decide +kernel
theorem dX9_paints_16 : decode cX9_paints 16 = .ok (.iload_n 3, 1) := by decide +kernel
theorem dX9_paints_17 : decode cX9_paints 17 = .ok (.iload 4, 2) := by decide +kernel
theorem dX9_paints_19 : decode cX9_paints 19 = .ok (.invokevirtual 107, 3) := by decide +kernel
theorem dX9_paints_22 : decode cX9_paints 22 = .ok (.ifCond .eq 24, 3) := by decide +kernel
theorem dX9_paints_25 : decode cX9_paints 25 = .ok (.iload_n 3, 1) := by decide +kernel
theorem dX9_paints_26 : decode cX9_paints 26 = .ok (.iload_n 1, 1) := by decide +kernel
theorem dX9_paints_27 : decode cX9_paints 27 = .ok (.if_icmp .lt 19, 3) := by decide +kernel
theorem dX9_paints_30 : decode cX9_paints 30 = .ok (.iload 4, 2) := by decide +kernel
theorem dX9_paints_32 : decode cX9_paints 32 = .ok (.iload_n 2, 1) := by decide +kernel
theorem dX9_paints_33 : decode cX9_paints 33 = .ok (.if_icmp .lt 13, 3) := by decide +kernel
theorem dX9_paints_36 : decode cX9_paints 36 = .ok (.iload 5, 2) := by decide +kernel
theorem dX9_paints_38 : decode cX9_paints 38 = .ok (.iconst 0, 1) := by decide +kernel
theorem dX9_paints_39 : decode cX9_paints 39 = .ok (.iconst 3, 1) := by decide +kernel
theorem dX9_paints_40 : decode cX9_paints 40 = .ok (.invokestatic 74, 3) := by decide +kernel
theorem dX9_paints_43 : decode cX9_paints 43 = .ok (.ifCond .ne 5, 3) := by decide +kernel
theorem dX9_paints_46 : decode cX9_paints 46 = .ok (.iconst (-1), 1) := by decide +kernel
theorem dX9_paints_47 : decode cX9_paints 47 = .ok (.ireturn, 1) := by decide +kernel
theorem dX9_paints_48 : decode cX9_paints 48 = .ok (.aload_n 0, 1) := by decide +kernel
theorem dX9_paints_49 : decode cX9_paints 49 = .ok (.iload_n 1, 1) := by decide +kernel
theorem dX9_paints_50 : decode cX9_paints 50 = .ok (.iload_n 2, 1) := by decide +kernel
theorem dX9_paints_51 : decode cX9_paints 51 = .ok (.iload_n 3, 1) := by decide +kernel
theorem dX9_paints_52 : decode cX9_paints 52 = .ok (.iload 4, 2) := by decide +kernel
theorem dX9_paints_54 : decode cX9_paints 54 = .ok (.iload 5, 2) := by decide +kernel
theorem dX9_paints_56 : decode cX9_paints 56 = .ok (.invokevirtual 111, 3) := by decide +kernel
theorem dX9_paints_59 : decode cX9_paints 59 = .ok (.istore 6, 2) := by decide +kernel
theorem dX9_paints_61 : decode cX9_paints 61 = .ok (.iload 6, 2) := by decide +kernel
theorem dX9_paints_63 : decode cX9_paints 63 = .ok (.ifCond .ne 6, 3) := by decide +kernel
theorem dX9_paints_66 : decode cX9_paints 66 = .ok (.bipush (-2), 2) := by decide +kernel
theorem dX9_paints_68 : decode cX9_paints 68 = .ok (.ireturn, 1) := by decide +kernel
theorem dX9_paints_69 : decode cX9_paints 69 = .ok (.aload_n 0, 1) := by decide +kernel
theorem dX9_paints_70 : decode cX9_paints 70 = .ok (.getfield 61, 3) := by decide +kernel
theorem dX9_paints_73 : decode cX9_paints 73 = .ok (.aload_n 0, 1) := by decide +kernel
theorem dX9_paints_74 : decode cX9_paints 74 = .ok (.getfield 12, 3) := by decide +kernel
theorem dX9_paints_77 : decode cX9_paints 77 = .ok (.invokevirtual 93, 3) := by decide +kernel
theorem dX9_paints_80 : decode cX9_paints 80 = .ok (.iload_n 2, 1) := by decide +kernel
theorem dX9_paints_81 : decode cX9_paints 81 = .ok (.istore 7, 2) := by decide +kernel
theorem dX9_paints_83 : decode cX9_paints 83 = .ok (.iload 7, 2) := by decide +kernel
theorem dX9_paints_85 : decode cX9_paints 85 = .ok (.iload 4, 2) := by decide +kernel
theorem dX9_paints_87 : decode cX9_paints 87 = .ok (.if_icmp .gt 40, 3) := by decide +kernel
theorem dX9_paints_90 : decode cX9_paints 90 = .ok (.iload_n 1, 1) := by decide +kernel
theorem dX9_paints_91 : decode cX9_paints 91 = .ok (.istore 8, 2) := by decide +kernel
theorem dX9_paints_93 : decode cX9_paints 93 = .ok (.iload 8, 2) := by decide +kernel
theorem dX9_paints_95 : decode cX9_paints 95 = .ok (.iload_n 3, 1) := by decide +kernel
theorem dX9_paints_96 : decode cX9_paints 96 = .ok (.if_icmp .gt 25, 3) := by decide +kernel
theorem dX9_paints_99 : decode cX9_paints 99 = .ok (.aload_n 0, 1) := by decide +kernel
theorem dX9_paints_100 : decode cX9_paints 100 = .ok (.getfield 12, 3) := by decide +kernel
theorem dX9_paints_103 : decode cX9_paints 103 = .ok (.iload 8, 2) := by decide +kernel
theorem dX9_paints_105 : decode cX9_paints 105 = .ok (.iload 7, 2) := by decide +kernel
theorem dX9_paints_107 : decode cX9_paints 107 = .ok (.invokestatic 115, 3) := by decide +kernel
theorem dX9_paints_110 : decode cX9_paints 110 = .ok (.iload 5, 2) := by decide +kernel
theorem dX9_paints_112 : decode cX9_paints 112 = .ok (.invokevirtual 119, 3) := by decide +kernel
theorem dX9_paints_115 : decode cX9_paints 115 = .ok (.iinc 8 1, 3) := by decide +kernel
theorem dX9_paints_118 : decode cX9_paints 118 = .ok (.goto (-25), 3) := by decide +kernel
theorem dX9_paints_121 : decode cX9_paints 121 = .ok (.iinc 7 1, 3) := by decide +kernel
theorem dX9_paints_124 : decode cX9_paints 124 = .ok (.goto (-41), 3) := by decide +kernel
theorem dX9_paints_127 : decode cX9_paints 127 = .ok (.aload_n 0, 1) := by decide +kernel
theorem dX9_paints_128 : decode cX9_paints 128 = .ok (.getfield 33, 3) := by decide +kernel
theorem dX9_paints_131 : decode cX9_paints 131 = .ok (.aload_n 0, 1) := by decide +kernel
theorem dX9_paints_132 : decode cX9_paints 132 = .ok (.getfield 12, 3) := by decide +kernel
theorem dX9_paints_135 : decode cX9_paints 135 = .ok (.invokevirtual 104, 3) := by decide +kernel
theorem dX9_paints_138 : decode cX9_paints 138 = .ok (.iload 6, 2) := by decide +kernel
theorem dX9_paints_140 : decode cX9_paints 140 = .ok (.ireturn, 1) := by decide +kernel
theorem dX9_ways_0 : decode cX9_ways 0 = .ok (.iload_n 1, 1) := by decide +kernel
theorem dX9_ways_1 : decode cX9_ways 1 = .ok (.iconst 1, 1) := by decide +kernel
theorem dX9_ways_2 : decode cX9_ways 2 = .ok (.iconst 3, 1) := by decide +kernel
theorem dX9_ways_3 : decode cX9_ways 3 = .ok (.invokestatic 74, 3) := by decide +kernel
theorem dX9_ways_6 : decode cX9_ways 6 = .ok (.ifCond .eq 12, 3) := by decide +kernel
theorem dX9_ways_9 : decode cX9_ways 9 = .ok (.iload_n 2, 1) := by decide +kernel
theorem dX9_ways_10 : decode cX9_ways 10 = .ok (.iconst 0, 1) := by decide +kernel
theorem dX9_ways_11 : decode cX9_ways 11 = .ok (.iconst 1, 1) := by decide +kernel
theorem dX9_ways_12 : decode cX9_ways 12 = .ok (.invokestatic 74, 3) := by decide +kernel
theorem dX9_ways_15 : decode cX9_ways 15 = .ok (.ifCond .ne 5, 3) := by decide +kernel
theorem dX9_ways_18 : decode cX9_ways 18 = .ok (.iconst (-1), 1) := by decide +kernel
theorem dX9_ways_19 : decode cX9_ways 19 = .ok (.ireturn, 1) := by decide +kernel
theorem dX9_ways_20 : decode cX9_ways 20 = .ok (.aload_n 0, 1) := by decide +kernel
theorem dX9_ways_21 : decode cX9_ways 21 = .ok (.iconst 4, 1) := by decide +kernel
theorem dX9_ways_22 : decode cX9_ways 22 = .ok (.iload_n 1, 1) := by decide +kernel
theorem dX9_ways_23 : decode cX9_ways 23 = .ok (.iadd, 1) := by decide +kernel
theorem dX9_ways_24 : decode cX9_ways 24 = .ok (.iload_n 2, 1) := by decide +kernel
theorem dX9_ways_25 : decode cX9_ways 25 = .ok (.invokevirtual 123, 3) := by decide +kernel
theorem dX9_ways_28 : decode cX9_ways 28 = .ok (.ireturn, 1) := by decide +kernel
theorem dX9_ranks_0 : decode cX9_ranks 0 = .ok (.iload_n 1, 1) := by decide +kernel
theorem dX9_ranks_1 : decode cX9_ranks 1 = .ok (.iconst 1, 1) := by decide +kernel
theorem dX9_ranks_2 : decode cX9_ranks 2 = .ok (.iconst 3, 1) := by decide +kernel
theorem dX9_ranks_3 : decode cX9_ranks 3 = .ok (.invokestatic 74, 3) := by decide +kernel
theorem dX9_ranks_6 : decode cX9_ranks 6 = .ok (.ifCond .eq 13, 3) := by decide +kernel
theorem dX9_ranks_9 : decode cX9_ranks 9 = .ok (.iload_n 2, 1) := by decide +kernel
theorem dX9_ranks_10 : decode cX9_ranks 10 = .ok (.iconst 0, 1) := by decide +kernel
theorem dX9_ranks_11 : decode cX9_ranks 11 = .ok (.bipush 9, 2) := by decide +kernel
theorem dX9_ranks_13 : decode cX9_ranks 13 = .ok (.invokestatic 74, 3) := by decide +kernel
theorem dX9_ranks_16 : decode cX9_ranks 16 = .ok (.ifCond .ne 5, 3) := by decide +kernel
theorem dX9_ranks_19 : decode cX9_ranks 19 = .ok (.iconst (-1), 1) := by decide +kernel
theorem dX9_ranks_20 : decode cX9_ranks 20 = .ok (.ireturn, 1) := by decide +kernel
theorem dX9_ranks_21 : decode cX9_ranks 21 = .ok (.aload_n 0, 1) := by decide +kernel
theorem dX9_ranks_22 : decode cX9_ranks 22 = .ok (.bipush 8, 2) := by decide +kernel
theorem dX9_ranks_24 : decode cX9_ranks 24 = .ok (.iload_n 1, 1) := by decide +kernel
theorem dX9_ranks_25 : decode cX9_ranks 25 = .ok (.iadd, 1) := by decide +kernel
theorem dX9_ranks_26 : decode cX9_ranks 26 = .ok (.iload_n 2, 1) := by decide +kernel
theorem dX9_ranks_27 : decode cX9_ranks 27 = .ok (.invokevirtual 123, 3) := by decide +kernel
theorem dX9_ranks_30 : decode cX9_ranks 30 = .ok (.ireturn, 1) := by decide +kernel
theorem dX9_mosts_0 : decode cX9_mosts 0 = .ok (.iload_n 1, 1) := by decide +kernel
theorem dX9_mosts_1 : decode cX9_mosts 1 = .ok (.iconst 1, 1) := by decide +kernel
theorem dX9_mosts_2 : decode cX9_mosts 2 = .ok (.iconst 5, 1) := by decide +kernel
theorem dX9_mosts_3 : decode cX9_mosts 3 = .ok (.invokestatic 74, 3) := by decide +kernel
theorem dX9_mosts_6 : decode cX9_mosts 6 = .ok (.ifCond .eq 12, 3) := by decide +kernel
theorem dX9_mosts_9 : decode cX9_mosts 9 = .ok (.aload_n 0, 1) := by decide +kernel
theorem dX9_mosts_10 : decode cX9_mosts 10 = .ok (.iconst 2, 1) := by decide +kernel
theorem dX9_mosts_11 : decode cX9_mosts 11 = .ok (.iload_n 1, 1) := by decide +kernel
theorem dX9_mosts_12 : decode cX9_mosts 12 = .ok (.invokevirtual 123, 3) := by decide +kernel
theorem dX9_mosts_15 : decode cX9_mosts 15 = .ok (.goto 4, 3) := by decide +kernel
theorem dX9_mosts_18 : decode cX9_mosts 18 = .ok (.iconst (-1), 1) := by decide +kernel
theorem dX9_mosts_19 : decode cX9_mosts 19 = .ok (.ireturn, 1) := by decide +kernel
theorem dX9_pulls_0 : decode cX9_pulls 0 = .ok (.iload_n 1, 1) := by decide +kernel
theorem dX9_pulls_1 : decode cX9_pulls 1 = .ok (.iconst 0, 1) := by decide +kernel
theorem dX9_pulls_2 : decode cX9_pulls 2 = .ok (.iconst 2, 1) := by decide +kernel
theorem dX9_pulls_3 : decode cX9_pulls 3 = .ok (.invokestatic 74, 3) := by decide +kernel
theorem dX9_pulls_6 : decode cX9_pulls 6 = .ok (.ifCond .eq 12, 3) := by decide +kernel
theorem dX9_pulls_9 : decode cX9_pulls 9 = .ok (.aload_n 0, 1) := by decide +kernel
theorem dX9_pulls_10 : decode cX9_pulls 10 = .ok (.iconst 3, 1) := by decide +kernel
theorem dX9_pulls_11 : decode cX9_pulls 11 = .ok (.iload_n 1, 1) := by decide +kernel
theorem dX9_pulls_12 : decode cX9_pulls 12 = .ok (.invokevirtual 123, 3) := by decide +kernel
theorem dX9_pulls_15 : decode cX9_pulls 15 = .ok (.goto 4, 3) := by decide +kernel
theorem dX9_pulls_18 : decode cX9_pulls 18 = .ok (.iconst (-1), 1) := by decide +kernel
theorem dX9_pulls_19 : decode cX9_pulls 19 = .ok (.ireturn, 1) := by decide +kernel
theorem dX9_undo_0 : decode cX9_undo 0 = .ok (.aload_n 0, 1) := by decide +kernel
theorem dX9_undo_1 : decode cX9_undo 1 = .ok (.getfield 61, 3) := by decide +kernel
theorem dX9_undo_4 : decode cX9_undo 4 = .ok (.invokevirtual 126, 3) := by decide +kernel
theorem dX9_undo_7 : decode cX9_undo 7 = .ok (.ifCond .ne 6, 3) := by decide +kernel
theorem dX9_undo_10 : decode cX9_undo 10 = .ok (.bipush (-2), 2) := by decide +kernel
theorem dX9_undo_12 : decode cX9_undo 12 = .ok (.ireturn, 1) := by decide +kernel
theorem dX9_undo_13 : decode cX9_undo 13 = .ok (.aload_n 0, 1) := by decide +kernel
theorem dX9_undo_14 : decode cX9_undo 14 = .ok (.getfield 61, 3) := by decide +kernel
theorem dX9_undo_17 : decode cX9_undo 17 = .ok (.aload_n 0, 1) := by decide +kernel
theorem dX9_undo_18 : decode cX9_undo 18 = .ok (.getfield 12, 3) := by decide +kernel
theorem dX9_undo_21 : decode cX9_undo 21 = .ok (.invokevirtual 129, 3) := by decide +kernel
theorem dX9_undo_24 : decode cX9_undo 24 = .ok (.aload_n 0, 1) := by decide +kernel
theorem dX9_undo_25 : decode cX9_undo 25 = .ok (.getfield 33, 3) := by decide +kernel
theorem dX9_undo_28 : decode cX9_undo 28 = .ok (.aload_n 0, 1) := by decide +kernel
theorem dX9_undo_29 : decode cX9_undo 29 = .ok (.getfield 12, 3) := by decide +kernel
theorem dX9_undo_32 : decode cX9_undo 32 = .ok (.invokevirtual 104, 3) := by decide +kernel
theorem dX9_undo_35 : decode cX9_undo 35 = .ok (.aload_n 0, 1) := by decide +kernel
theorem dX9_undo_36 : decode cX9_undo 36 = .ok (.getfield 61, 3) := by decide +kernel
theorem dX9_undo_39 : decode cX9_undo 39 = .ok (.invokevirtual 126, 3) := by decide +kernel
theorem dX9_undo_42 : decode cX9_undo 42 = .ok (.ireturn, 1) := by decide +kernel
theorem dX9_cell_0 : decode cX9_cell 0 = .ok (.aload_n 0, 1) := by decide +kernel
theorem dX9_cell_1 : decode cX9_cell 1 = .ok (.getfield 12, 3) := by decide +kernel
theorem dX9_cell_4 : decode cX9_cell 4 = .ok (.iload_n 1, 1) := by decide +kernel
theorem dX9_cell_5 : decode cX9_cell 5 = .ok (.iload_n 2, 1) := by decide +kernel
theorem dX9_cell_6 : decode cX9_cell 6 = .ok (.invokevirtual 107, 3) := by decide +kernel
theorem dX9_cell_9 : decode cX9_cell 9 = .ok (.ifCond .eq 12, 3) := by decide +kernel
theorem dX9_cell_12 : decode cX9_cell 12 = .ok (.iload_n 3, 1) := by decide +kernel
theorem dX9_cell_13 : decode cX9_cell 13 = .ok (.iconst 0, 1) := by decide +kernel
theorem dX9_cell_14 : decode cX9_cell 14 = .ok (.iconst 1, 1) := by decide +kernel
theorem dX9_cell_15 : decode cX9_cell 15 = .ok (.invokestatic 74, 3) := by decide +kernel
theorem dX9_cell_18 : decode cX9_cell 18 = .ok (.ifCond .ne 5, 3) := by decide +kernel
theorem dX9_cell_21 : decode cX9_cell 21 = .ok (.iconst (-1), 1) := by decide +kernel
theorem dX9_cell_22 : decode cX9_cell 22 = .ok (.ireturn, 1) := by decide +kernel
theorem dX9_cell_23 : decode cX9_cell 23 = .ok (.iload_n 1, 1) := by decide +kernel
theorem dX9_cell_24 : decode cX9_cell 24 = .ok (.iload_n 2, 1) := by decide +kernel
theorem dX9_cell_25 : decode cX9_cell 25 = .ok (.invokestatic 115, 3) := by decide +kernel
theorem dX9_cell_28 : decode cX9_cell 28 = .ok (.istore 4, 2) := by decide +kernel
theorem dX9_cell_30 : decode cX9_cell 30 = .ok (.iload_n 3, 1) := by decide +kernel
theorem dX9_cell_31 : decode cX9_cell 31 = .ok (.ifCond .ne 15, 3) := by decide +kernel
theorem dX9_cell_34 : decode cX9_cell 34 = .ok (.aload_n 0, 1) := by decide +kernel
theorem dX9_cell_35 : decode cX9_cell 35 = .ok (.getfield 12, 3) := by decide +kernel
theorem dX9_cell_38 : decode cX9_cell 38 = .ok (.iload 4, 2) := by decide +kernel
theorem dX9_cell_40 : decode cX9_cell 40 = .ok (.invokevirtual 132, 3) := by decide +kernel
theorem dX9_cell_43 : decode cX9_cell 43 = .ok (.goto 12, 3) := by decide +kernel
theorem dX9_cell_46 : decode cX9_cell 46 = .ok (.aload_n 0, 1) := by decide +kernel
theorem dX9_cell_47 : decode cX9_cell 47 = .ok (.getfield 33, 3) := by decide +kernel
theorem dX9_cell_50 : decode cX9_cell 50 = .ok (.iload 4, 2) := by decide +kernel
theorem dX9_cell_52 : decode cX9_cell 52 = .ok (.invokevirtual 136, 3) := by decide +kernel
theorem dX9_cell_55 : decode cX9_cell 55 = .ok (.ireturn, 1) := by decide +kernel
theorem dX9_field_0 : decode cX9_field 0 = .ok (.aload_n 0, 1) := by decide +kernel
theorem dX9_field_1 : decode cX9_field 1 = .ok (.getfield 33, 3) := by decide +kernel
theorem dX9_field_4 : decode cX9_field 4 = .ok (.iload_n 1, 1) := by decide +kernel
theorem dX9_field_5 : decode cX9_field 5 = .ok (.invokevirtual 139, 3) := by decide +kernel
theorem dX9_field_8 : decode cX9_field 8 = .ok (.ifCond .eq 13, 3) := by decide +kernel
theorem dX9_field_11 : decode cX9_field 11 = .ok (.iload_n 2, 1) := by decide +kernel
theorem dX9_field_12 : decode cX9_field 12 = .ok (.iconst 0, 1) := by decide +kernel
theorem dX9_field_13 : decode cX9_field 13 = .ok (.bipush 7, 2) := by decide +kernel
theorem dX9_field_15 : decode cX9_field 15 = .ok (.invokestatic 74, 3) := by decide +kernel
theorem dX9_field_18 : decode cX9_field 18 = .ok (.ifCond .ne 5, 3) := by decide +kernel
theorem dX9_field_21 : decode cX9_field 21 = .ok (.iconst (-1), 1) := by decide +kernel
theorem dX9_field_22 : decode cX9_field 22 = .ok (.ireturn, 1) := by decide +kernel
theorem dX9_field_23 : decode cX9_field 23 = .ok (.iload_n 2, 1) := by decide +kernel
theorem dX9_field_24 : decode cX9_field 24 = .ok (.tableswitch 97 0 7 #[48, 57, 66, 82, 97, 97, 97, 88], 48) := by decide +kernel
theorem dX9_field_72 : decode cX9_field 72 = .ok (.aload_n 0, 1) := by decide +kernel
theorem dX9_field_73 : decode cX9_field 73 = .ok (.getfield 33, 3) := by decide +kernel
theorem dX9_field_76 : decode cX9_field 76 = .ok (.iload_n 1, 1) := by decide +kernel
theorem dX9_field_77 : decode cX9_field 77 = .ok (.invokevirtual 142, 3) := by decide +kernel
theorem dX9_field_80 : decode cX9_field 80 = .ok (.ireturn, 1) := by decide +kernel
theorem dX9_field_81 : decode cX9_field 81 = .ok (.aload_n 0, 1) := by decide +kernel
theorem dX9_field_82 : decode cX9_field 82 = .ok (.getfield 33, 3) := by decide +kernel
theorem dX9_field_85 : decode cX9_field 85 = .ok (.iload_n 1, 1) := by decide +kernel
theorem dX9_field_86 : decode cX9_field 86 = .ok (.invokevirtual 145, 3) := by decide +kernel
theorem dX9_field_89 : decode cX9_field 89 = .ok (.ireturn, 1) := by decide +kernel
theorem dX9_field_90 : decode cX9_field 90 = .ok (.aload_n 0, 1) := by decide +kernel
theorem dX9_field_91 : decode cX9_field 91 = .ok (.getfield 12, 3) := by decide +kernel
theorem dX9_field_94 : decode cX9_field 94 = .ok (.aload_n 0, 1) := by decide +kernel
theorem dX9_field_95 : decode cX9_field 95 = .ok (.getfield 33, 3) := by decide +kernel
theorem dX9_field_98 : decode cX9_field 98 = .ok (.iload_n 1, 1) := by decide +kernel
theorem dX9_field_99 : decode cX9_field 99 = .ok (.invokevirtual 148, 3) := by decide +kernel
theorem dX9_field_102 : decode cX9_field 102 = .ok (.invokevirtual 151, 3) := by decide +kernel
theorem dX9_field_105 : decode cX9_field 105 = .ok (.ireturn, 1) := by decide +kernel
theorem dX9_field_106 : decode cX9_field 106 = .ok (.aload_n 0, 1) := by decide +kernel
theorem dX9_field_107 : decode cX9_field 107 = .ok (.iload_n 1, 1) := by decide +kernel
theorem dX9_field_108 : decode cX9_field 108 = .ok (.invokevirtual 154, 3) := by decide +kernel
theorem dX9_field_111 : decode cX9_field 111 = .ok (.ireturn, 1) := by decide +kernel
theorem dX9_field_112 : decode cX9_field 112 = .ok (.aload_n 0, 1) := by decide +kernel
theorem dX9_field_113 : decode cX9_field 113 = .ok (.getfield 33, 3) := by decide +kernel
theorem dX9_field_116 : decode cX9_field 116 = .ok (.iload_n 1, 1) := by decide +kernel
theorem dX9_field_117 : decode cX9_field 117 = .ok (.invokevirtual 157, 3) := by decide +kernel
theorem dX9_field_120 : decode cX9_field 120 = .ok (.ireturn, 1) := by decide +kernel
theorem dX9_field_121 : decode cX9_field 121 = .ok (.aload_n 0, 1) := by decide +kernel
theorem dX9_field_122 : decode cX9_field 122 = .ok (.iload_n 1, 1) := by decide +kernel
theorem dX9_field_123 : decode cX9_field 123 = .ok (.iload_n 2, 1) := by decide +kernel
theorem dX9_field_124 : decode cX9_field 124 = .ok (.invokevirtual 160, 3) := by decide +kernel
theorem dX9_field_127 : decode cX9_field 127 = .ok (.ireturn, 1) := by decide +kernel
theorem dX9_sewn_0 : decode cX9_sewn 0 = .ok (.aload_n 0, 1) := by decide +kernel
theorem dX9_sewn_1 : decode cX9_sewn 1 = .ok (.getfield 33, 3) := by decide +kernel
theorem dX9_sewn_4 : decode cX9_sewn 4 = .ok (.iload_n 1, 1) := by decide +kernel
theorem dX9_sewn_5 : decode cX9_sewn 5 = .ok (.invokevirtual 139, 3) := by decide +kernel
theorem dX9_sewn_8 : decode cX9_sewn 8 = .ok (.ifCond .eq 21, 3) := by decide +kernel
theorem dX9_sewn_11 : decode cX9_sewn 11 = .ok (.iload_n 2, 1) := by decide +kernel
theorem dX9_sewn_12 : decode cX9_sewn 12 = .ok (.iconst 0, 1) := by decide +kernel
theorem dX9_sewn_13 : decode cX9_sewn 13 = .ok (.iconst 1, 1) := by decide +kernel
theorem dX9_sewn_14 : decode cX9_sewn 14 = .ok (.invokestatic 74, 3) := by decide +kernel
theorem dX9_sewn_17 : decode cX9_sewn 17 = .ok (.ifCond .eq 12, 3) := by decide +kernel
theorem dX9_sewn_20 : decode cX9_sewn 20 = .ok (.iload_n 3, 1) := by decide +kernel
theorem dX9_sewn_21 : decode cX9_sewn 21 = .ok (.iconst 0, 1) := by decide +kernel
theorem dX9_sewn_22 : decode cX9_sewn 22 = .ok (.iconst 3, 1) := by decide +kernel
theorem dX9_sewn_23 : decode cX9_sewn 23 = .ok (.invokestatic 74, 3) := by decide +kernel
theorem dX9_sewn_26 : decode cX9_sewn 26 = .ok (.ifCond .ne 5, 3) := by decide +kernel
theorem dX9_sewn_29 : decode cX9_sewn 29 = .ok (.iconst (-1), 1) := by decide +kernel
theorem dX9_sewn_30 : decode cX9_sewn 30 = .ok (.ireturn, 1) := by decide +kernel
theorem dX9_sewn_31 : decode cX9_sewn 31 = .ok (.aload_n 0, 1) := by decide +kernel
theorem dX9_sewn_32 : decode cX9_sewn 32 = .ok (.getfield 40, 3) := by decide +kernel
theorem dX9_sewn_35 : decode cX9_sewn 35 = .ok (.aload_n 0, 1) := by decide +kernel
theorem dX9_sewn_36 : decode cX9_sewn 36 = .ok (.getfield 12, 3) := by decide +kernel
theorem dX9_sewn_39 : decode cX9_sewn 39 = .ok (.aload_n 0, 1) := by decide +kernel
theorem dX9_sewn_40 : decode cX9_sewn 40 = .ok (.getfield 33, 3) := by decide +kernel
theorem dX9_sewn_43 : decode cX9_sewn 43 = .ok (.iload_n 1, 1) := by decide +kernel
theorem dX9_sewn_44 : decode cX9_sewn 44 = .ok (.iload_n 2, 1) := by decide +kernel
theorem dX9_sewn_45 : decode cX9_sewn 45 = .ok (.invokevirtual 163, 3) := by decide +kernel
theorem dX9_sewn_48 : decode cX9_sewn 48 = .ok (.aload_n 0, 1) := by decide +kernel
theorem dX9_sewn_49 : decode cX9_sewn 49 = .ok (.getfield 40, 3) := by decide +kernel
theorem dX9_sewn_52 : decode cX9_sewn 52 = .ok (.aload_n 0, 1) := by decide +kernel
theorem dX9_sewn_53 : decode cX9_sewn 53 = .ok (.getfield 12, 3) := by decide +kernel
theorem dX9_sewn_56 : decode cX9_sewn 56 = .ok (.iload_n 3, 1) := by decide +kernel
theorem dX9_sewn_57 : decode cX9_sewn 57 = .ok (.invokevirtual 167, 3) := by decide +kernel
theorem dX9_sewn_60 : decode cX9_sewn 60 = .ok (.ireturn, 1) := by decide +kernel
theorem dX9_row_0 : decode cX9_row 0 = .ok (.aload_n 0, 1) := by decide +kernel
theorem dX9_row_1 : decode cX9_row 1 = .ok (.getfield 33, 3) := by decide +kernel
theorem dX9_row_4 : decode cX9_row 4 = .ok (.iload_n 1, 1) := by decide +kernel
theorem dX9_row_5 : decode cX9_row 5 = .ok (.invokevirtual 139, 3) := by decide +kernel
theorem dX9_row_8 : decode cX9_row 8 = .ok (.ifCond .eq 26, 3) := by decide +kernel
theorem dX9_row_11 : decode cX9_row 11 = .ok (.iload_n 2, 1) := by decide +kernel
theorem dX9_row_12 : decode cX9_row 12 = .ok (.iconst 0, 1) := by decide +kernel
theorem dX9_row_13 : decode cX9_row 13 = .ok (.iconst 1, 1) := by decide +kernel
theorem dX9_row_14 : decode cX9_row 14 = .ok (.invokestatic 74, 3) := by decide +kernel
theorem dX9_row_17 : decode cX9_row 17 = .ok (.ifCond .eq 17, 3) := by decide +kernel
theorem dX9_row_20 : decode cX9_row 20 = .ok (.iload_n 3, 1) := by decide +kernel
theorem dX9_row_21 : decode cX9_row 21 = .ok (.ifCond .lt 13, 3) := by decide +kernel
theorem dX9_row_24 : decode cX9_row 24 = .ok (.iload 4, 2) := by decide +kernel
theorem dX9_row_26 : decode cX9_row 26 = .ok (.iconst 0, 1) := by decide +kernel
theorem dX9_row_27 : decode cX9_row 27 = .ok (.iconst 3, 1) := by decide +kernel
theorem dX9_row_28 : decode cX9_row 28 = .ok (.invokestatic 74, 3) := by decide +kernel
theorem dX9_row_31 : decode cX9_row 31 = .ok (.ifCond .ne 5, 3) := by decide +kernel
theorem dX9_row_34 : decode cX9_row 34 = .ok (.iconst (-1), 1) := by decide +kernel
theorem dX9_row_35 : decode cX9_row 35 = .ok (.ireturn, 1) := by decide +kernel
theorem dX9_row_36 : decode cX9_row 36 = .ok (.aload_n 0, 1) := by decide +kernel
theorem dX9_row_37 : decode cX9_row 37 = .ok (.getfield 40, 3) := by decide +kernel
theorem dX9_row_40 : decode cX9_row 40 = .ok (.aload_n 0, 1) := by decide +kernel
theorem dX9_row_41 : decode cX9_row 41 = .ok (.getfield 12, 3) := by decide +kernel
theorem dX9_row_44 : decode cX9_row 44 = .ok (.aload_n 0, 1) := by decide +kernel
theorem dX9_row_45 : decode cX9_row 45 = .ok (.getfield 33, 3) := by decide +kernel
theorem dX9_row_48 : decode cX9_row 48 = .ok (.iload_n 1, 1) := by decide +kernel
theorem dX9_row_49 : decode cX9_row 49 = .ok (.iload_n 2, 1) := by decide +kernel
theorem dX9_row_50 : decode cX9_row 50 = .ok (.invokevirtual 163, 3) := by decide +kernel
theorem dX9_row_53 : decode cX9_row 53 = .ok (.iload_n 3, 1) := by decide +kernel
theorem dX9_row_54 : decode cX9_row 54 = .ok (.aload_n 0, 1) := by decide +kernel
theorem dX9_row_55 : decode cX9_row 55 = .ok (.getfield 40, 3) := by decide +kernel
theorem dX9_row_58 : decode cX9_row 58 = .ok (.invokevirtual 171, 3) := by decide +kernel
theorem dX9_row_61 : decode cX9_row 61 = .ok (.if_icmp .lt 6, 3) := by decide +kernel
theorem dX9_row_64 : decode cX9_row 64 = .ok (.bipush (-9), 2) := by decide +kernel
theorem dX9_row_66 : decode cX9_row 66 = .ok (.ireturn, 1) := by decide +kernel
theorem dX9_row_67 : decode cX9_row 67 = .ok (.iload 4, 2) := by decide +kernel
theorem dX9_row_69 : decode cX9_row 69 = .ok (.tableswitch 61 0 2 #[27, 43, 52], 27) := by decide +kernel
theorem dX9_row_96 : decode cX9_row 96 = .ok (.aload_n 0, 1) := by decide +kernel
theorem dX9_row_97 : decode cX9_row 97 = .ok (.getfield 12, 3) := by decide +kernel
theorem dX9_row_100 : decode cX9_row 100 = .ok (.aload_n 0, 1) := by decide +kernel
theorem dX9_row_101 : decode cX9_row 101 = .ok (.getfield 40, 3) := by decide +kernel
theorem dX9_row_104 : decode cX9_row 104 = .ok (.iload_n 3, 1) := by decide +kernel
theorem dX9_row_105 : decode cX9_row 105 = .ok (.invokevirtual 174, 3) := by decide +kernel
theorem dX9_row_108 : decode cX9_row 108 = .ok (.invokevirtual 151, 3) := by decide +kernel
theorem dX9_row_111 : decode cX9_row 111 = .ok (.ireturn, 1) := by decide +kernel
theorem dX9_row_112 : decode cX9_row 112 = .ok (.aload_n 0, 1) := by decide +kernel
theorem dX9_row_113 : decode cX9_row 113 = .ok (.getfield 40, 3) := by decide +kernel
theorem dX9_row_116 : decode cX9_row 116 = .ok (.iload_n 3, 1) := by decide +kernel
theorem dX9_row_117 : decode cX9_row 117 = .ok (.invokevirtual 177, 3) := by decide +kernel
theorem dX9_row_120 : decode cX9_row 120 = .ok (.ireturn, 1) := by decide +kernel
theorem dX9_row_121 : decode cX9_row 121 = .ok (.aload_n 0, 1) := by decide +kernel
theorem dX9_row_122 : decode cX9_row 122 = .ok (.getfield 40, 3) := by decide +kernel
theorem dX9_row_125 : decode cX9_row 125 = .ok (.iload_n 3, 1) := by decide +kernel
theorem dX9_row_126 : decode cX9_row 126 = .ok (.invokevirtual 180, 3) := by decide +kernel
theorem dX9_row_129 : decode cX9_row 129 = .ok (.ireturn, 1) := by decide +kernel
theorem dX9_row_130 : decode cX9_row 130 = .ok (.aload_n 0, 1) := by decide +kernel
theorem dX9_row_131 : decode cX9_row 131 = .ok (.getfield 40, 3) := by decide +kernel
theorem dX9_row_134 : decode cX9_row 134 = .ok (.iload_n 3, 1) := by decide +kernel
theorem dX9_row_135 : decode cX9_row 135 = .ok (.invokevirtual 183, 3) := by decide +kernel
theorem dX9_row_138 : decode cX9_row 138 = .ok (.ireturn, 1) := by decide +kernel
theorem dX9_part_0 : decode cX9_part 0 = .ok (.aload_n 0, 1) := by decide +kernel
theorem dX9_part_1 : decode cX9_part 1 = .ok (.getfield 33, 3) := by decide +kernel
theorem dX9_part_4 : decode cX9_part 4 = .ok (.iload_n 1, 1) := by decide +kernel
theorem dX9_part_5 : decode cX9_part 5 = .ok (.invokevirtual 139, 3) := by decide +kernel
theorem dX9_part_8 : decode cX9_part 8 = .ok (.ifCond .eq 26, 3) := by decide +kernel
theorem dX9_part_11 : decode cX9_part 11 = .ok (.iload_n 2, 1) := by decide +kernel
theorem dX9_part_12 : decode cX9_part 12 = .ok (.iconst 0, 1) := by decide +kernel
theorem dX9_part_13 : decode cX9_part 13 = .ok (.iconst 1, 1) := by decide +kernel
theorem dX9_part_14 : decode cX9_part 14 = .ok (.invokestatic 74, 3) := by decide +kernel
theorem dX9_part_17 : decode cX9_part 17 = .ok (.ifCond .eq 17, 3) := by decide +kernel
theorem dX9_part_20 : decode cX9_part 20 = .ok (.iload_n 3, 1) := by decide +kernel
theorem dX9_part_21 : decode cX9_part 21 = .ok (.ifCond .lt 13, 3) := by decide +kernel
theorem dX9_part_24 : decode cX9_part 24 = .ok (.iload 4, 2) := by decide +kernel
theorem dX9_part_26 : decode cX9_part 26 = .ok (.iconst 0, 1) := by decide +kernel
theorem dX9_part_27 : decode cX9_part 27 = .ok (.iconst 3, 1) := by decide +kernel
theorem dX9_part_28 : decode cX9_part 28 = .ok (.invokestatic 74, 3) := by decide +kernel
theorem dX9_part_31 : decode cX9_part 31 = .ok (.ifCond .ne 5, 3) := by decide +kernel
theorem dX9_part_34 : decode cX9_part 34 = .ok (.iconst (-1), 1) := by decide +kernel
theorem dX9_part_35 : decode cX9_part 35 = .ok (.ireturn, 1) := by decide +kernel
theorem dX9_part_36 : decode cX9_part 36 = .ok (.aload_n 0, 1) := by decide +kernel
theorem dX9_part_37 : decode cX9_part 37 = .ok (.getfield 40, 3) := by decide +kernel
theorem dX9_part_40 : decode cX9_part 40 = .ok (.aload_n 0, 1) := by decide +kernel
theorem dX9_part_41 : decode cX9_part 41 = .ok (.getfield 12, 3) := by decide +kernel
theorem dX9_part_44 : decode cX9_part 44 = .ok (.aload_n 0, 1) := by decide +kernel
theorem dX9_part_45 : decode cX9_part 45 = .ok (.getfield 33, 3) := by decide +kernel
theorem dX9_part_48 : decode cX9_part 48 = .ok (.iload_n 1, 1) := by decide +kernel
theorem dX9_part_49 : decode cX9_part 49 = .ok (.iload_n 2, 1) := by decide +kernel
theorem dX9_part_50 : decode cX9_part 50 = .ok (.invokevirtual 163, 3) := by decide +kernel
theorem dX9_part_53 : decode cX9_part 53 = .ok (.iload_n 3, 1) := by decide +kernel
theorem dX9_part_54 : decode cX9_part 54 = .ok (.aload_n 0, 1) := by decide +kernel
theorem dX9_part_55 : decode cX9_part 55 = .ok (.getfield 40, 3) := by decide +kernel
theorem dX9_part_58 : decode cX9_part 58 = .ok (.invokevirtual 186, 3) := by decide +kernel
theorem dX9_part_61 : decode cX9_part 61 = .ok (.if_icmp .lt 6, 3) := by decide +kernel
theorem dX9_part_64 : decode cX9_part 64 = .ok (.bipush (-9), 2) := by decide +kernel
theorem dX9_part_66 : decode cX9_part 66 = .ok (.ireturn, 1) := by decide +kernel
theorem dX9_part_67 : decode cX9_part 67 = .ok (.iload 4, 2) := by decide +kernel
theorem dX9_part_69 : decode cX9_part 69 = .ok (.tableswitch 68 0 2 #[27, 36, 52], 27) := by decide +kernel
theorem dX9_part_96 : decode cX9_part 96 = .ok (.aload_n 0, 1) := by decide +kernel
theorem dX9_part_97 : decode cX9_part 97 = .ok (.getfield 40, 3) := by decide +kernel
theorem dX9_part_100 : decode cX9_part 100 = .ok (.iload_n 3, 1) := by decide +kernel
theorem dX9_part_101 : decode cX9_part 101 = .ok (.invokevirtual 189, 3) := by decide +kernel
theorem dX9_part_104 : decode cX9_part 104 = .ok (.ireturn, 1) := by decide +kernel
theorem dX9_part_105 : decode cX9_part 105 = .ok (.aload_n 0, 1) := by decide +kernel
theorem dX9_part_106 : decode cX9_part 106 = .ok (.getfield 12, 3) := by decide +kernel
theorem dX9_part_109 : decode cX9_part 109 = .ok (.aload_n 0, 1) := by decide +kernel
theorem dX9_part_110 : decode cX9_part 110 = .ok (.getfield 40, 3) := by decide +kernel
theorem dX9_part_113 : decode cX9_part 113 = .ok (.iload_n 3, 1) := by decide +kernel
theorem dX9_part_114 : decode cX9_part 114 = .ok (.invokevirtual 192, 3) := by decide +kernel
theorem dX9_part_117 : decode cX9_part 117 = .ok (.invokevirtual 151, 3) := by decide +kernel
theorem dX9_part_120 : decode cX9_part 120 = .ok (.ireturn, 1) := by decide +kernel
theorem dX9_part_121 : decode cX9_part 121 = .ok (.aload_n 0, 1) := by decide +kernel
theorem dX9_part_122 : decode cX9_part 122 = .ok (.getfield 12, 3) := by decide +kernel
theorem dX9_part_125 : decode cX9_part 125 = .ok (.aload_n 0, 1) := by decide +kernel
theorem dX9_part_126 : decode cX9_part 126 = .ok (.getfield 40, 3) := by decide +kernel
theorem dX9_part_129 : decode cX9_part 129 = .ok (.iload_n 3, 1) := by decide +kernel
theorem dX9_part_130 : decode cX9_part 130 = .ok (.invokevirtual 195, 3) := by decide +kernel
theorem dX9_part_133 : decode cX9_part 133 = .ok (.invokevirtual 151, 3) := by decide +kernel
theorem dX9_part_136 : decode cX9_part 136 = .ok (.ireturn, 1) := by decide +kernel
theorem dX9_part_137 : decode cX9_part 137 = .ok (.aload_n 0, 1) := by decide +kernel
theorem dX9_part_138 : decode cX9_part 138 = .ok (.getfield 40, 3) := by decide +kernel
theorem dX9_part_141 : decode cX9_part 141 = .ok (.aload_n 0, 1) := by decide +kernel
theorem dX9_part_142 : decode cX9_part 142 = .ok (.getfield 12, 3) := by decide +kernel
theorem dX9_part_145 : decode cX9_part 145 = .ok (.iload_n 3, 1) := by decide +kernel
theorem dX9_part_146 : decode cX9_part 146 = .ok (.invokevirtual 198, 3) := by decide +kernel
theorem dX9_part_149 : decode cX9_part 149 = .ok (.ireturn, 1) := by decide +kernel
theorem dX9_order_0 : decode cX9_order 0 = .ok (.iload_n 1, 1) := by decide +kernel
theorem dX9_order_1 : decode cX9_order 1 = .ok (.iconst (-1), 1) := by decide +kernel
theorem dX9_order_2 : decode cX9_order 2 = .ok (.if_icmp .ge 5, 3) := by decide +kernel
theorem dX9_order_5 : decode cX9_order 5 = .ok (.iconst (-1), 1) := by decide +kernel
theorem dX9_order_6 : decode cX9_order 6 = .ok (.ireturn, 1) := by decide +kernel
theorem dX9_order_7 : decode cX9_order 7 = .ok (.aload_n 0, 1) := by decide +kernel
theorem dX9_order_8 : decode cX9_order 8 = .ok (.getfield 33, 3) := by decide +kernel
theorem dX9_order_11 : decode cX9_order 11 = .ok (.invokevirtual 201, 3) := by decide +kernel
theorem dX9_order_14 : decode cX9_order 14 = .ok (.bipush 10, 2) := by decide +kernel
theorem dX9_order_16 : decode cX9_order 16 = .ok (.if_icmp .le 6, 3) := by decide +kernel
theorem dX9_order_19 : decode cX9_order 19 = .ok (.bipush (-3), 2) := by decide +kernel
theorem dX9_order_21 : decode cX9_order 21 = .ok (.ireturn, 1) := by decide +kernel
theorem dX9_order_22 : decode cX9_order 22 = .ok (.aload_n 0, 1) := by decide +kernel
theorem dX9_order_23 : decode cX9_order 23 = .ok (.getfield 33, 3) := by decide +kernel
theorem dX9_order_26 : decode cX9_order 26 = .ok (.invokevirtual 201, 3) := by decide +kernel
theorem dX9_order_29 : decode cX9_order 29 = .ok (.ifCond .ne 6, 3) := by decide +kernel
theorem dX9_order_32 : decode cX9_order 32 = .ok (.bipush (-9), 2) := by decide +kernel
theorem dX9_order_34 : decode cX9_order 34 = .ok (.ireturn, 1) := by decide +kernel
theorem dX9_order_35 : decode cX9_order 35 = .ok (.aload_n 0, 1) := by decide +kernel
theorem dX9_order_36 : decode cX9_order 36 = .ok (.getfield 47, 3) := by decide +kernel
theorem dX9_order_39 : decode cX9_order 39 = .ok (.aload_n 0, 1) := by decide +kernel
theorem dX9_order_40 : decode cX9_order 40 = .ok (.getfield 12, 3) := by decide +kernel
theorem dX9_order_43 : decode cX9_order 43 = .ok (.aload_n 0, 1) := by decide +kernel
theorem dX9_order_44 : decode cX9_order 44 = .ok (.getfield 33, 3) := by decide +kernel
theorem dX9_order_47 : decode cX9_order 47 = .ok (.invokevirtual 202, 3) := by decide +kernel
theorem dX9_order_50 : decode cX9_order 50 = .ok (.iload_n 1, 1) := by decide +kernel
theorem dX9_order_51 : decode cX9_order 51 = .ok (.iconst (-1), 1) := by decide +kernel
theorem dX9_order_52 : decode cX9_order 52 = .ok (.if_icmp .ne 13, 3) := by decide +kernel
theorem dX9_order_55 : decode cX9_order 55 = .ok (.aload_n 0, 1) := by decide +kernel
theorem dX9_order_56 : decode cX9_order 56 = .ok (.getfield 47, 3) := by decide +kernel
theorem dX9_order_59 : decode cX9_order 59 = .ok (.invokevirtual 205, 3) := by decide +kernel
theorem dX9_order_62 : decode cX9_order 62 = .ok (.goto 11, 3) := by decide +kernel
theorem dX9_order_65 : decode cX9_order 65 = .ok (.aload_n 0, 1) := by decide +kernel
theorem dX9_order_66 : decode cX9_order 66 = .ok (.getfield 47, 3) := by decide +kernel
theorem dX9_order_69 : decode cX9_order 69 = .ok (.iload_n 1, 1) := by decide +kernel
theorem dX9_order_70 : decode cX9_order 70 = .ok (.invokevirtual 208, 3) := by decide +kernel
theorem dX9_order_73 : decode cX9_order 73 = .ok (.ireturn, 1) := by decide +kernel
theorem dX9_sees_0 : decode cX9_sees 0 = .ok (.iload_n 1, 1) := by decide +kernel
theorem dX9_sees_1 : decode cX9_sees 1 = .ok (.iconst 0, 1) := by decide +kernel
theorem dX9_sees_2 : decode cX9_sees 2 = .ok (.iconst 1, 1) := by decide +kernel
theorem dX9_sees_3 : decode cX9_sees 3 = .ok (.invokestatic 74, 3) := by decide +kernel
theorem dX9_sees_6 : decode cX9_sees 6 = .ok (.ifCond .eq 22, 3) := by decide +kernel
theorem dX9_sees_9 : decode cX9_sees 9 = .ok (.iload_n 2, 1) := by decide +kernel
theorem dX9_sees_10 : decode cX9_sees 10 = .ok (.iconst 0, 1) := by decide +kernel
theorem dX9_sees_11 : decode cX9_sees 11 = .ok (.iconst 3, 1) := by decide +kernel
theorem dX9_sees_12 : decode cX9_sees 12 = .ok (.invokestatic 74, 3) := by decide +kernel
theorem dX9_sees_15 : decode cX9_sees 15 = .ok (.ifCond .eq 13, 3) := by decide +kernel
theorem dX9_sees_18 : decode cX9_sees 18 = .ok (.iload_n 3, 1) := by decide +kernel
theorem dX9_sees_19 : decode cX9_sees 19 = .ok (.iconst 0, 1) := by decide +kernel
theorem dX9_sees_20 : decode cX9_sees 20 = .ok (.bipush 99, 2) := by decide +kernel
theorem dX9_sees_22 : decode cX9_sees 22 = .ok (.invokestatic 74, 3) := by decide +kernel
theorem dX9_sees_25 : decode cX9_sees 25 = .ok (.ifCond .ne 5, 3) := by decide +kernel
theorem dX9_sees_28 : decode cX9_sees 28 = .ok (.iconst (-1), 1) := by decide +kernel
theorem dX9_sees_29 : decode cX9_sees 29 = .ok (.ireturn, 1) := by decide +kernel
theorem dX9_sees_30 : decode cX9_sees 30 = .ok (.aload_n 0, 1) := by decide +kernel
theorem dX9_sees_31 : decode cX9_sees 31 = .ok (.getfield 54, 3) := by decide +kernel
theorem dX9_sees_34 : decode cX9_sees 34 = .ok (.invokevirtual 209, 3) := by decide +kernel
theorem dX9_sees_37 : decode cX9_sees 37 = .ok (.bipush 6, 2) := by decide +kernel
theorem dX9_sees_39 : decode cX9_sees 39 = .ok (.if_icmp .lt 6, 3) := by decide +kernel
theorem dX9_sees_42 : decode cX9_sees 42 = .ok (.bipush (-3), 2) := by decide +kernel
theorem dX9_sees_44 : decode cX9_sees 44 = .ok (.ireturn, 1) := by decide +kernel
theorem dX9_sees_45 : decode cX9_sees 45 = .ok (.aload_n 0, 1) := by decide +kernel
theorem dX9_sees_46 : decode cX9_sees 46 = .ok (.getfield 54, 3) := by decide +kernel
theorem dX9_sees_49 : decode cX9_sees 49 = .ok (.iload_n 1, 1) := by decide +kernel
theorem dX9_sees_50 : decode cX9_sees 50 = .ok (.iload_n 2, 1) := by decide +kernel
theorem dX9_sees_51 : decode cX9_sees 51 = .ok (.iload_n 3, 1) := by decide +kernel
theorem dX9_sees_52 : decode cX9_sees 52 = .ok (.invokevirtual 210, 3) := by decide +kernel
theorem dX9_sees_55 : decode cX9_sees 55 = .ok (.aload_n 0, 1) := by decide +kernel
theorem dX9_sees_56 : decode cX9_sees 56 = .ok (.getfield 54, 3) := by decide +kernel
theorem dX9_sees_59 : decode cX9_sees 59 = .ok (.invokevirtual 209, 3) := by decide +kernel
theorem dX9_sees_62 : decode cX9_sees 62 = .ok (.ireturn, 1) := by decide +kernel
theorem dX9_forget_0 : decode cX9_forget 0 = .ok (.aload_n 0, 1) := by decide +kernel
theorem dX9_forget_1 : decode cX9_forget 1 = .ok (.getfield 54, 3) := by decide +kernel
theorem dX9_forget_4 : decode cX9_forget 4 = .ok (.invokevirtual 209, 3) := by decide +kernel
theorem dX9_forget_7 : decode cX9_forget 7 = .ok (.istore_n 1, 1) := by decide +kernel
theorem dX9_forget_8 : decode cX9_forget 8 = .ok (.aload_n 0, 1) := by decide +kernel
theorem dX9_forget_9 : decode cX9_forget 9 = .ok (.getfield 54, 3) := by decide +kernel
theorem dX9_forget_12 : decode cX9_forget 12 = .ok (.invokevirtual 214, 3) := by decide +kernel
theorem dX9_forget_15 : decode cX9_forget 15 = .ok (.iload_n 1, 1) := by decide +kernel
theorem dX9_forget_16 : decode cX9_forget 16 = .ok (.ireturn, 1) := by decide +kernel
theorem dX9_which_0 : decode cX9_which 0 = .ok (.iload_n 1, 1) := by decide +kernel
theorem dX9_which_1 : decode cX9_which 1 = .ok (.iconst 0, 1) := by decide +kernel
theorem dX9_which_2 : decode cX9_which 2 = .ok (.iconst 1, 1) := by decide +kernel
theorem dX9_which_3 : decode cX9_which 3 = .ok (.invokestatic 74, 3) := by decide +kernel
theorem dX9_which_6 : decode cX9_which 6 = .ok (.ifCond .ne 5, 3) := by decide +kernel
theorem dX9_which_9 : decode cX9_which 9 = .ok (.iconst (-1), 1) := by decide +kernel
theorem dX9_which_10 : decode cX9_which 10 = .ok (.ireturn, 1) := by decide +kernel
theorem dX9_which_11 : decode cX9_which 11 = .ok (.iconst 0, 1) := by decide +kernel
theorem dX9_which_12 : decode cX9_which 12 = .ok (.istore_n 2, 1) := by decide +kernel
theorem dX9_which_13 : decode cX9_which 13 = .ok (.bipush (-9), 2) := by decide +kernel
theorem dX9_which_15 : decode cX9_which 15 = .ok (.istore_n 3, 1) := by decide +kernel
theorem dX9_which_16 : decode cX9_which 16 = .ok (.iconst 0, 1) := by decide +kernel
theorem dX9_which_17 : decode cX9_which 17 = .ok (.istore 4, 2) := by decide +kernel
theorem dX9_which_19 : decode cX9_which 19 = .ok (.iload 4, 2) := by decide +kernel
theorem dX9_which_21 : decode cX9_which 21 = .ok (.aload_n 0, 1) := by decide +kernel
theorem dX9_which_22 : decode cX9_which 22 = .ok (.getfield 33, 3) := by decide +kernel
theorem dX9_which_25 : decode cX9_which 25 = .ok (.invokevirtual 201, 3) := by decide +kernel
theorem dX9_which_28 : decode cX9_which 28 = .ok (.if_icmp .ge 49, 3) := by decide +kernel
theorem dX9_which_31 : decode cX9_which 31 = .ok (.aload_n 0, 1) := by decide +kernel
theorem dX9_which_32 : decode cX9_which 32 = .ok (.getfield 54, 3) := by decide +kernel
theorem dX9_which_35 : decode cX9_which 35 = .ok (.aload_n 0, 1) := by decide +kernel
theorem dX9_which_36 : decode cX9_which 36 = .ok (.getfield 12, 3) := by decide +kernel
theorem dX9_which_39 : decode cX9_which 39 = .ok (.aload_n 0, 1) := by decide +kernel
theorem dX9_which_40 : decode cX9_which 40 = .ok (.getfield 33, 3) := by decide +kernel
theorem dX9_which_43 : decode cX9_which 43 = .ok (.aload_n 0, 1) := by decide +kernel
theorem dX9_which_44 : decode cX9_which 44 = .ok (.getfield 40, 3) := by decide +kernel
theorem dX9_which_47 : decode cX9_which 47 = .ok (.iload 4, 2) := by decide +kernel
theorem dX9_which_49 : decode cX9_which 49 = .ok (.invokevirtual 215, 3) := by decide +kernel
theorem dX9_which_52 : decode cX9_which 52 = .ok (.ifCond .eq 19, 3) := by decide +kernel
theorem dX9_which_55 : decode cX9_which 55 = .ok (.iinc 2 1, 3) := by decide +kernel
theorem dX9_which_58 : decode cX9_which 58 = .ok (.iload_n 3, 1) := by decide +kernel
theorem dX9_which_59 : decode cX9_which 59 = .ok (.bipush (-9), 2) := by decide +kernel
theorem dX9_which_61 : decode cX9_which 61 = .ok (.if_icmp .ne 8, 3) := by decide +kernel
theorem dX9_which_64 : decode cX9_which 64 = .ok (.iload 4, 2) := by decide +kernel
theorem dX9_which_66 : decode cX9_which 66 = .ok (.goto 4, 3) := by decide +kernel
theorem dX9_which_69 : decode cX9_which 69 = .ok (.iload_n 3, 1) := by decide +kernel
theorem dX9_which_70 : decode cX9_which 70 = .ok (.istore_n 3, 1) := by decide +kernel
theorem dX9_which_71 : decode cX9_which 71 = .ok (.iinc 4 1, 3) := by decide +kernel
theorem dX9_which_74 : decode cX9_which 74 = .ok (.goto (-55), 3) := by decide +kernel
theorem dX9_which_77 : decode cX9_which 77 = .ok (.iload_n 1, 1) := by decide +kernel
theorem dX9_which_78 : decode cX9_which 78 = .ok (.ifCond .ne 7, 3) := by decide +kernel
theorem dX9_which_81 : decode cX9_which 81 = .ok (.iload_n 2, 1) := by decide +kernel
theorem dX9_which_82 : decode cX9_which 82 = .ok (.goto 4, 3) := by decide +kernel
theorem dX9_which_85 : decode cX9_which 85 = .ok (.iload_n 3, 1) := by decide +kernel
theorem dX9_which_86 : decode cX9_which 86 = .ok (.ireturn, 1) := by decide +kernel
theorem dX9_keep_0 : decode cX9_keep 0 = .ok (.iload_n 1, 1) := by decide +kernel
theorem dX9_keep_1 : decode cX9_keep 1 = .ok (.ifCond .lt 8, 3) := by decide +kernel
theorem dX9_keep_4 : decode cX9_keep 4 = .ok (.iload_n 1, 1) := by decide +kernel
theorem dX9_keep_5 : decode cX9_keep 5 = .ok (.iconst 2, 1) := by decide +kernel
theorem dX9_keep_6 : decode cX9_keep 6 = .ok (.if_icmp .lt 5, 3) := by decide +kernel
theorem dX9_keep_9 : decode cX9_keep 9 = .ok (.iconst (-1), 1) := by decide +kernel
theorem dX9_keep_10 : decode cX9_keep 10 = .ok (.ireturn, 1) := by decide +kernel
theorem dX9_keep_11 : decode cX9_keep 11 = .ok (.aload_n 0, 1) := by decide +kernel
theorem dX9_keep_12 : decode cX9_keep 12 = .ok (.getfield 12, 3) := by decide +kernel
theorem dX9_keep_15 : decode cX9_keep 15 = .ok (.aload_n 0, 1) := by decide +kernel
theorem dX9_keep_16 : decode cX9_keep 16 = .ok (.getfield 67, 3) := by decide +kernel
theorem dX9_keep_19 : decode cX9_keep 19 = .ok (.iload_n 1, 1) := by decide +kernel
theorem dX9_keep_20 : decode cX9_keep 20 = .ok (.aaload, 1) := by decide +kernel
theorem dX9_keep_21 : decode cX9_keep 21 = .ok (.invokevirtual 219, 3) := by decide +kernel
theorem dX9_keep_24 : decode cX9_keep 24 = .ok (.aload_n 0, 1) := by decide +kernel
theorem dX9_keep_25 : decode cX9_keep 25 = .ok (.getfield 70, 3) := by decide +kernel
theorem dX9_keep_28 : decode cX9_keep 28 = .ok (.iload_n 1, 1) := by decide +kernel
theorem dX9_keep_29 : decode cX9_keep 29 = .ok (.iconst 1, 1) := by decide +kernel
theorem dX9_keep_30 : decode cX9_keep 30 = .ok (.bastore, 1) := by decide +kernel
theorem dX9_keep_31 : decode cX9_keep 31 = .ok (.aload_n 0, 1) := by decide +kernel
theorem dX9_keep_32 : decode cX9_keep 32 = .ok (.getfield 33, 3) := by decide +kernel
theorem dX9_keep_35 : decode cX9_keep 35 = .ok (.invokevirtual 201, 3) := by decide +kernel
theorem dX9_keep_38 : decode cX9_keep 38 = .ok (.ireturn, 1) := by decide +kernel
theorem dX9_back_0 : decode cX9_back 0 = .ok (.iload_n 1, 1) := by decide +kernel
theorem dX9_back_1 : decode cX9_back 1 = .ok (.ifCond .lt 8, 3) := by decide +kernel
theorem dX9_back_4 : decode cX9_back 4 = .ok (.iload_n 1, 1) := by decide +kernel
theorem dX9_back_5 : decode cX9_back 5 = .ok (.iconst 2, 1) := by decide +kernel
theorem dX9_back_6 : decode cX9_back 6 = .ok (.if_icmp .lt 5, 3) := by decide +kernel
theorem dX9_back_9 : decode cX9_back 9 = .ok (.iconst (-1), 1) := by decide +kernel
theorem dX9_back_10 : decode cX9_back 10 = .ok (.ireturn, 1) := by decide +kernel
theorem dX9_back_11 : decode cX9_back 11 = .ok (.aload_n 0, 1) := by decide +kernel
theorem dX9_back_12 : decode cX9_back 12 = .ok (.getfield 70, 3) := by decide +kernel
theorem dX9_back_15 : decode cX9_back 15 = .ok (.iload_n 1, 1) := by decide +kernel
theorem dX9_back_16 : decode cX9_back 16 = .ok (.baload, 1) := by decide +kernel
theorem dX9_back_17 : decode cX9_back 17 = .ok (.ifCond .ne 6, 3) := by decide +kernel
theorem dX9_back_20 : decode cX9_back 20 = .ok (.bipush (-2), 2) := by decide +kernel
theorem dX9_back_22 : decode cX9_back 22 = .ok (.ireturn, 1) := by decide +kernel
theorem dX9_back_23 : decode cX9_back 23 = .ok (.aload_n 0, 1) := by decide +kernel
theorem dX9_back_24 : decode cX9_back 24 = .ok (.getfield 12, 3) := by decide +kernel
theorem dX9_back_27 : decode cX9_back 27 = .ok (.aload_n 0, 1) := by decide +kernel
theorem dX9_back_28 : decode cX9_back 28 = .ok (.getfield 67, 3) := by decide +kernel
theorem dX9_back_31 : decode cX9_back 31 = .ok (.iload_n 1, 1) := by decide +kernel
theorem dX9_back_32 : decode cX9_back 32 = .ok (.aaload, 1) := by decide +kernel
theorem dX9_back_33 : decode cX9_back 33 = .ok (.invokevirtual 223, 3) := by decide +kernel
theorem dX9_back_36 : decode cX9_back 36 = .ok (.aload_n 0, 1) := by decide +kernel
theorem dX9_back_37 : decode cX9_back 37 = .ok (.getfield 61, 3) := by decide +kernel
theorem dX9_back_40 : decode cX9_back 40 = .ok (.invokevirtual 226, 3) := by decide +kernel
theorem dX9_back_43 : decode cX9_back 43 = .ok (.aload_n 0, 1) := by decide +kernel
theorem dX9_back_44 : decode cX9_back 44 = .ok (.getfield 33, 3) := by decide +kernel
theorem dX9_back_47 : decode cX9_back 47 = .ok (.aload_n 0, 1) := by decide +kernel
theorem dX9_back_48 : decode cX9_back 48 = .ok (.getfield 12, 3) := by decide +kernel
theorem dX9_back_51 : decode cX9_back 51 = .ok (.invokevirtual 104, 3) := by decide +kernel
theorem dX9_back_54 : decode cX9_back 54 = .ok (.aload_n 0, 1) := by decide +kernel
theorem dX9_back_55 : decode cX9_back 55 = .ok (.getfield 33, 3) := by decide +kernel
theorem dX9_back_58 : decode cX9_back 58 = .ok (.invokevirtual 201, 3) := by decide +kernel
theorem dX9_back_61 : decode cX9_back 61 = .ok (.ireturn, 1) := by decide +kernel
theorem dX9_count_0 : decode cX9_count 0 = .ok (.iload_n 1, 1) := by decide +kernel
theorem dX9_count_1 : decode cX9_count 1 = .ok (.tableswitch 123 0 8 #[51, 59, 67, 75, 83, 91, 99, 107, 115], 51) := by decide +kernel
theorem dX9_count_52 : decode cX9_count 52 = .ok (.aload_n 0, 1) := by decide +kernel
theorem dX9_count_53 : decode cX9_count 53 = .ok (.getfield 12, 3) := by decide +kernel
theorem dX9_count_56 : decode cX9_count 56 = .ok (.invokevirtual 227, 3) := by decide +kernel
theorem dX9_count_59 : decode cX9_count 59 = .ok (.ireturn, 1) := by decide +kernel
theorem dX9_count_60 : decode cX9_count 60 = .ok (.aload_n 0, 1) := by decide +kernel
theorem dX9_count_61 : decode cX9_count 61 = .ok (.getfield 12, 3) := by decide +kernel
theorem dX9_count_64 : decode cX9_count 64 = .ok (.invokevirtual 230, 3) := by decide +kernel
theorem dX9_count_67 : decode cX9_count 67 = .ok (.ireturn, 1) := by decide +kernel
theorem dX9_count_68 : decode cX9_count 68 = .ok (.aload_n 0, 1) := by decide +kernel
theorem dX9_count_69 : decode cX9_count 69 = .ok (.getfield 33, 3) := by decide +kernel
theorem dX9_count_72 : decode cX9_count 72 = .ok (.invokevirtual 201, 3) := by decide +kernel
theorem dX9_count_75 : decode cX9_count 75 = .ok (.ireturn, 1) := by decide +kernel
theorem dX9_count_76 : decode cX9_count 76 = .ok (.aload_n 0, 1) := by decide +kernel
theorem dX9_count_77 : decode cX9_count 77 = .ok (.getfield 12, 3) := by decide +kernel
theorem dX9_count_80 : decode cX9_count 80 = .ok (.invokevirtual 233, 3) := by decide +kernel
theorem dX9_count_83 : decode cX9_count 83 = .ok (.ireturn, 1) := by decide +kernel
theorem dX9_count_84 : decode cX9_count 84 = .ok (.aload_n 0, 1) := by decide +kernel
theorem dX9_count_85 : decode cX9_count 85 = .ok (.getfield 12, 3) := by decide +kernel
theorem dX9_count_88 : decode cX9_count 88 = .ok (.invokevirtual 236, 3) := by decide +kernel
theorem dX9_count_91 : decode cX9_count 91 = .ok (.ireturn, 1) := by decide +kernel
theorem dX9_count_92 : decode cX9_count 92 = .ok (.aload_n 0, 1) := by decide +kernel
theorem dX9_count_93 : decode cX9_count 93 = .ok (.getfield 33, 3) := by decide +kernel
theorem dX9_count_96 : decode cX9_count 96 = .ok (.invokevirtual 239, 3) := by decide +kernel
theorem dX9_count_99 : decode cX9_count 99 = .ok (.ireturn, 1) := by decide +kernel
theorem dX9_count_100 : decode cX9_count 100 = .ok (.aload_n 0, 1) := by decide +kernel
theorem dX9_count_101 : decode cX9_count 101 = .ok (.getfield 54, 3) := by decide +kernel
theorem dX9_count_104 : decode cX9_count 104 = .ok (.invokevirtual 209, 3) := by decide +kernel
theorem dX9_count_107 : decode cX9_count 107 = .ok (.ireturn, 1) := by decide +kernel
theorem dX9_count_108 : decode cX9_count 108 = .ok (.aload_n 0, 1) := by decide +kernel
theorem dX9_count_109 : decode cX9_count 109 = .ok (.getfield 19, 3) := by decide +kernel
theorem dX9_count_112 : decode cX9_count 112 = .ok (.invokevirtual 78, 3) := by decide +kernel
theorem dX9_count_115 : decode cX9_count 115 = .ok (.ireturn, 1) := by decide +kernel
theorem dX9_count_116 : decode cX9_count 116 = .ok (.aload_n 0, 1) := by decide +kernel
theorem dX9_count_117 : decode cX9_count 117 = .ok (.getfield 61, 3) := by decide +kernel
theorem dX9_count_120 : decode cX9_count 120 = .ok (.invokevirtual 126, 3) := by decide +kernel
theorem dX9_count_123 : decode cX9_count 123 = .ok (.ireturn, 1) := by decide +kernel
theorem dX9_count_124 : decode cX9_count 124 = .ok (.iconst (-1), 1) := by decide +kernel
theorem dX9_count_125 : decode cX9_count 125 = .ok (.ireturn, 1) := by decide +kernel
theorem dX9_change_0 : decode cX9_change 0 = .ok (.aload_n 0, 1) := by decide +kernel
theorem dX9_change_1 : decode cX9_change 1 = .ok (.getfield 12, 3) := by decide +kernel
theorem dX9_change_4 : decode cX9_change 4 = .ok (.iload_n 1, 1) := by decide +kernel
theorem dX9_change_5 : decode cX9_change 5 = .ok (.invokevirtual 242, 3) := by decide +kernel
theorem dX9_change_8 : decode cX9_change 8 = .ok (.istore_n 3, 1) := by decide +kernel
theorem dX9_change_9 : decode cX9_change 9 = .ok (.iload_n 3, 1) := by decide +kernel
theorem dX9_change_10 : decode cX9_change 10 = .ok (.iload_n 2, 1) := by decide +kernel
theorem dX9_change_11 : decode cX9_change 11 = .ok (.if_icmp .ne 6, 3) := by decide +kernel
theorem dX9_change_14 : decode cX9_change 14 = .ok (.bipush (-2), 2) := by decide +kernel
theorem dX9_change_16 : decode cX9_change 16 = .ok (.ireturn, 1) := by decide +kernel
theorem dX9_change_17 : decode cX9_change 17 = .ok (.aload_n 0, 1) := by decide +kernel
theorem dX9_change_18 : decode cX9_change 18 = .ok (.getfield 61, 3) := by decide +kernel
theorem dX9_change_21 : decode cX9_change 21 = .ok (.aload_n 0, 1) := by decide +kernel
theorem dX9_change_22 : decode cX9_change 22 = .ok (.getfield 12, 3) := by decide +kernel
theorem dX9_change_25 : decode cX9_change 25 = .ok (.invokevirtual 93, 3) := by decide +kernel
theorem dX9_change_28 : decode cX9_change 28 = .ok (.aload_n 0, 1) := by decide +kernel
theorem dX9_change_29 : decode cX9_change 29 = .ok (.getfield 12, 3) := by decide +kernel
theorem dX9_change_32 : decode cX9_change 32 = .ok (.iload_n 1, 1) := by decide +kernel
theorem dX9_change_33 : decode cX9_change 33 = .ok (.iload_n 2, 1) := by decide +kernel
theorem dX9_change_34 : decode cX9_change 34 = .ok (.invokevirtual 245, 3) := by decide +kernel
theorem dX9_change_37 : decode cX9_change 37 = .ok (.iload_n 3, 1) := by decide +kernel
theorem dX9_change_38 : decode cX9_change 38 = .ok (.ireturn, 1) := by decide +kernel
theorem dX9_cellsOfOtherColour_0 : decode cX9_cellsOfOtherColour 0 = .ok (.iconst 0, 1) := by decide +kernel
theorem dX9_cellsOfOtherColour_1 : decode cX9_cellsOfOtherColour 1 = .ok (.istore 6, 2) := by decide +kernel
theorem dX9_cellsOfOtherColour_3 : decode cX9_cellsOfOtherColour 3 = .ok (.iload_n 2, 1) := by decide +kernel
theorem dX9_cellsOfOtherColour_4 : decode cX9_cellsOfOtherColour 4 = .ok (.istore 7, 2) := by decide +kernel
theorem dX9_cellsOfOtherColour_6 : decode cX9_cellsOfOtherColour 6 = .ok (.iload 7, 2) := by decide +kernel
theorem dX9_cellsOfOtherColour_8 : decode cX9_cellsOfOtherColour 8 = .ok (.iload 4, 2) := by decide +kernel
theorem dX9_cellsOfOtherColour_10 : decode cX9_cellsOfOtherColour 10 = .ok (.if_icmp .gt 46, 3) := by decide +kernel
theorem dX9_cellsOfOtherColour_13 : decode cX9_cellsOfOtherColour 13 = .ok (.iload_n 1, 1) := by decide +kernel
theorem dX9_cellsOfOtherColour_14 : decode cX9_cellsOfOtherColour 14 = .ok (.istore 8, 2) := by decide +kernel
theorem dX9_cellsOfOtherColour_16 : decode cX9_cellsOfOtherColour 16 = .ok (.iload 8, 2) := by decide +kernel
theorem dX9_cellsOfOtherColour_18 : decode cX9_cellsOfOtherColour 18 = .ok (.iload_n 3, 1) := by decide +kernel
theorem dX9_cellsOfOtherColour_19 : decode cX9_cellsOfOtherColour 19 = .ok (.if_icmp .gt 31, 3) := by decide +kernel
theorem dX9_cellsOfOtherColour_22 : decode cX9_cellsOfOtherColour 22 = .ok (.aload_n 0, 1) := by decide +kernel
theorem dX9_cellsOfOtherColour_23 : decode cX9_cellsOfOtherColour 23 = .ok (.getfield 12, 3) := by decide +kernel
theorem dX9_cellsOfOtherColour_26 : decode cX9_cellsOfOtherColour 26 = .ok (.iload 8, 2) := by decide +kernel
theorem dX9_cellsOfOtherColour_28 : decode cX9_cellsOfOtherColour 28 = .ok (.iload 7, 2) := by decide +kernel
theorem dX9_cellsOfOtherColour_30 : decode cX9_cellsOfOtherColour 30 = .ok (.invokestatic 115, 3) := by decide +kernel
theorem dX9_cellsOfOtherColour_33 : decode cX9_cellsOfOtherColour 33 = .ok (.invokevirtual 132, 3) := by decide +kernel
theorem dX9_cellsOfOtherColour_36 : decode cX9_cellsOfOtherColour 36 = .ok (.iload 5, 2) := by decide +kernel
theorem dX9_cellsOfOtherColour_38 : decode cX9_cellsOfOtherColour 38 = .ok (.if_icmp .eq 6, 3) := by decide +kernel
theorem dX9_cellsOfOtherColour_41 : decode cX9_cellsOfOtherColour 41 = .ok (.iinc 6 1, 3) := by decide +kernel
theorem dX9_cellsOfOtherColour_44 : decode cX9_cellsOfOtherColour 44 = .ok (.iinc 8 1, 3) := by decide +kernel
theorem dX9_cellsOfOtherColour_47 : decode cX9_cellsOfOtherColour 47 = .ok (.goto (-31), 3) := by decide +kernel
theorem dX9_cellsOfOtherColour_50 : decode cX9_cellsOfOtherColour 50 = .ok (.iinc 7 1, 3) := by decide +kernel
theorem dX9_cellsOfOtherColour_53 : decode cX9_cellsOfOtherColour 53 = .ok (.goto (-47), 3) := by decide +kernel
theorem dX9_cellsOfOtherColour_56 : decode cX9_cellsOfOtherColour 56 = .ok (.iload 6, 2) := by decide +kernel
theorem dX9_cellsOfOtherColour_58 : decode cX9_cellsOfOtherColour 58 = .ok (.ireturn, 1) := by decide +kernel
theorem dX9_betterWay_0 : decode cX9_betterWay 0 = .ok (.iconst 1, 1) := by decide +kernel
theorem dX9_betterWay_1 : decode cX9_betterWay 1 = .ok (.istore_n 2, 1) := by decide +kernel
theorem dX9_betterWay_2 : decode cX9_betterWay 2 = .ok (.iload_n 2, 1) := by decide +kernel
theorem dX9_betterWay_3 : decode cX9_betterWay 3 = .ok (.iconst 3, 1) := by decide +kernel
theorem dX9_betterWay_4 : decode cX9_betterWay 4 = .ok (.if_icmp .gt 88, 3) := by decide +kernel
theorem dX9_betterWay_7 : decode cX9_betterWay 7 = .ok (.aload_n 0, 1) := by decide +kernel
theorem dX9_betterWay_8 : decode cX9_betterWay 8 = .ok (.getfield 40, 3) := by decide +kernel
theorem dX9_betterWay_11 : decode cX9_betterWay 11 = .ok (.aload_n 0, 1) := by decide +kernel
theorem dX9_betterWay_12 : decode cX9_betterWay 12 = .ok (.getfield 12, 3) := by decide +kernel
theorem dX9_betterWay_15 : decode cX9_betterWay 15 = .ok (.aload_n 0, 1) := by decide +kernel
theorem dX9_betterWay_16 : decode cX9_betterWay 16 = .ok (.getfield 33, 3) := by decide +kernel
theorem dX9_betterWay_19 : decode cX9_betterWay 19 = .ok (.iload_n 1, 1) := by decide +kernel
theorem dX9_betterWay_20 : decode cX9_betterWay 20 = .ok (.iconst 0, 1) := by decide +kernel
theorem dX9_betterWay_21 : decode cX9_betterWay 21 = .ok (.invokevirtual 163, 3) := by decide +kernel
theorem dX9_betterWay_24 : decode cX9_betterWay 24 = .ok (.aload_n 0, 1) := by decide +kernel
theorem dX9_betterWay_25 : decode cX9_betterWay 25 = .ok (.getfield 40, 3) := by decide +kernel
theorem dX9_betterWay_28 : decode cX9_betterWay 28 = .ok (.aload_n 0, 1) := by decide +kernel
theorem dX9_betterWay_29 : decode cX9_betterWay 29 = .ok (.getfield 12, 3) := by decide +kernel
theorem dX9_betterWay_32 : decode cX9_betterWay 32 = .ok (.iload_n 2, 1) := by decide +kernel
theorem dX9_betterWay_33 : decode cX9_betterWay 33 = .ok (.invokevirtual 167, 3) := by decide +kernel
theorem dX9_betterWay_36 : decode cX9_betterWay 36 = .ok (.istore_n 3, 1) := by decide +kernel
theorem dX9_betterWay_37 : decode cX9_betterWay 37 = .ok (.aload_n 0, 1) := by decide +kernel
theorem dX9_betterWay_38 : decode cX9_betterWay 38 = .ok (.getfield 40, 3) := by decide +kernel
theorem dX9_betterWay_41 : decode cX9_betterWay 41 = .ok (.aload_n 0, 1) := by decide +kernel
theorem dX9_betterWay_42 : decode cX9_betterWay 42 = .ok (.getfield 12, 3) := by decide +kernel
theorem dX9_betterWay_45 : decode cX9_betterWay 45 = .ok (.aload_n 0, 1) := by decide +kernel
theorem dX9_betterWay_46 : decode cX9_betterWay 46 = .ok (.getfield 33, 3) := by decide +kernel
theorem dX9_betterWay_49 : decode cX9_betterWay 49 = .ok (.iload_n 1, 1) := by decide +kernel
theorem dX9_betterWay_50 : decode cX9_betterWay 50 = .ok (.iconst 1, 1) := by decide +kernel
theorem dX9_betterWay_51 : decode cX9_betterWay 51 = .ok (.invokevirtual 163, 3) := by decide +kernel
theorem dX9_betterWay_54 : decode cX9_betterWay 54 = .ok (.aload_n 0, 1) := by decide +kernel
theorem dX9_betterWay_55 : decode cX9_betterWay 55 = .ok (.getfield 40, 3) := by decide +kernel
theorem dX9_betterWay_58 : decode cX9_betterWay 58 = .ok (.aload_n 0, 1) := by decide +kernel
theorem dX9_betterWay_59 : decode cX9_betterWay 59 = .ok (.getfield 12, 3) := by decide +kernel
theorem dX9_betterWay_62 : decode cX9_betterWay 62 = .ok (.iload_n 2, 1) := by decide +kernel
theorem dX9_betterWay_63 : decode cX9_betterWay 63 = .ok (.invokevirtual 167, 3) := by decide +kernel
theorem dX9_betterWay_66 : decode cX9_betterWay 66 = .ok (.istore 4, 2) := by decide +kernel
theorem dX9_betterWay_68 : decode cX9_betterWay 68 = .ok (.iload_n 3, 1) := by decide +kernel
theorem dX9_betterWay_69 : decode cX9_betterWay 69 = .ok (.iload 4, 2) := by decide +kernel
theorem dX9_betterWay_71 : decode cX9_betterWay 71 = .ok (.if_icmp .eq 15, 3) := by decide +kernel
theorem dX9_betterWay_74 : decode cX9_betterWay 74 = .ok (.iload_n 3, 1) := by decide +kernel
theorem dX9_betterWay_75 : decode cX9_betterWay 75 = .ok (.iload 4, 2) := by decide +kernel
theorem dX9_betterWay_77 : decode cX9_betterWay 77 = .ok (.if_icmp .ge 7, 3) := by decide +kernel
theorem dX9_betterWay_80 : decode cX9_betterWay 80 = .ok (.iconst 0, 1) := by decide +kernel
theorem dX9_betterWay_81 : decode cX9_betterWay 81 = .ok (.goto 4, 3) := by decide +kernel
theorem dX9_betterWay_84 : decode cX9_betterWay 84 = .ok (.iconst 1, 1) := by decide +kernel
theorem dX9_betterWay_85 : decode cX9_betterWay 85 = .ok (.ireturn, 1) := by decide +kernel
theorem dX9_betterWay_86 : decode cX9_betterWay 86 = .ok (.iinc 2 1, 3) := by decide +kernel
theorem dX9_betterWay_89 : decode cX9_betterWay 89 = .ok (.goto (-87), 3) := by decide +kernel
theorem dX9_betterWay_92 : decode cX9_betterWay 92 = .ok (.iconst 0, 1) := by decide +kernel
theorem dX9_betterWay_93 : decode cX9_betterWay 93 = .ok (.ireturn, 1) := by decide +kernel
theorem dX9_covered_0 : decode cX9_covered 0 = .ok (.aload_n 0, 1) := by decide +kernel
theorem dX9_covered_1 : decode cX9_covered 1 = .ok (.getfield 33, 3) := by decide +kernel
theorem dX9_covered_4 : decode cX9_covered 4 = .ok (.iload_n 1, 1) := by decide +kernel
theorem dX9_covered_5 : decode cX9_covered 5 = .ok (.invokevirtual 142, 3) := by decide +kernel
theorem dX9_covered_8 : decode cX9_covered 8 = .ok (.istore_n 3, 1) := by decide +kernel
theorem dX9_covered_9 : decode cX9_covered 9 = .ok (.aload_n 0, 1) := by decide +kernel
theorem dX9_covered_10 : decode cX9_covered 10 = .ok (.getfield 40, 3) := by decide +kernel
theorem dX9_covered_13 : decode cX9_covered 13 = .ok (.aload_n 0, 1) := by decide +kernel
theorem dX9_covered_14 : decode cX9_covered 14 = .ok (.getfield 12, 3) := by decide +kernel
theorem dX9_covered_17 : decode cX9_covered 17 = .ok (.aload_n 0, 1) := by decide +kernel
theorem dX9_covered_18 : decode cX9_covered 18 = .ok (.getfield 33, 3) := by decide +kernel
theorem dX9_covered_21 : decode cX9_covered 21 = .ok (.iload_n 1, 1) := by decide +kernel
theorem dX9_covered_22 : decode cX9_covered 22 = .ok (.aload_n 0, 1) := by decide +kernel
theorem dX9_covered_23 : decode cX9_covered 23 = .ok (.getfield 12, 3) := by decide +kernel
theorem dX9_covered_26 : decode cX9_covered 26 = .ok (.iload_n 3, 1) := by decide +kernel
theorem dX9_covered_27 : decode cX9_covered 27 = .ok (.invokevirtual 248, 3) := by decide +kernel
theorem dX9_covered_30 : decode cX9_covered 30 = .ok (.invokevirtual 163, 3) := by decide +kernel
theorem dX9_covered_33 : decode cX9_covered 33 = .ok (.aload_n 0, 1) := by decide +kernel
theorem dX9_covered_34 : decode cX9_covered 34 = .ok (.getfield 40, 3) := by decide +kernel
theorem dX9_covered_37 : decode cX9_covered 37 = .ok (.aload_n 0, 1) := by decide +kernel
theorem dX9_covered_38 : decode cX9_covered 38 = .ok (.getfield 12, 3) := by decide +kernel
theorem dX9_covered_41 : decode cX9_covered 41 = .ok (.invokevirtual 251, 3) := by decide +kernel
theorem dX9_covered_44 : decode cX9_covered 44 = .ok (.iload_n 2, 1) := by decide +kernel
theorem dX9_covered_45 : decode cX9_covered 45 = .ok (.iconst 4, 1) := by decide +kernel
theorem dX9_covered_46 : decode cX9_covered 46 = .ok (.if_icmp .ne 11, 3) := by decide +kernel
theorem dX9_covered_49 : decode cX9_covered 49 = .ok (.aload_n 0, 1) := by decide +kernel
theorem dX9_covered_50 : decode cX9_covered 50 = .ok (.getfield 40, 3) := by decide +kernel
theorem dX9_covered_53 : decode cX9_covered 53 = .ok (.invokevirtual 254, 3) := by decide +kernel
theorem dX9_covered_56 : decode cX9_covered 56 = .ok (.ireturn, 1) := by decide +kernel
theorem dX9_covered_57 : decode cX9_covered 57 = .ok (.aload_n 0, 1) := by decide +kernel
theorem dX9_covered_58 : decode cX9_covered 58 = .ok (.getfield 40, 3) := by decide +kernel
theorem dX9_covered_61 : decode cX9_covered 61 = .ok (.aload_n 0, 1) := by decide +kernel
theorem dX9_covered_62 : decode cX9_covered 62 = .ok (.getfield 12, 3) := by decide +kernel
theorem dX9_covered_65 : decode cX9_covered 65 = .ok (.iconst 0, 1) := by decide +kernel
theorem dX9_covered_66 : decode cX9_covered 66 = .ok (.invokevirtual 257, 3) := by decide +kernel
theorem dX9_covered_69 : decode cX9_covered 69 = .ok (.istore 4, 2) := by decide +kernel
theorem dX9_covered_71 : decode cX9_covered 71 = .ok (.iload_n 2, 1) := by decide +kernel
theorem dX9_covered_72 : decode cX9_covered 72 = .ok (.bipush 6, 2) := by decide +kernel
theorem dX9_covered_74 : decode cX9_covered 74 = .ok (.if_icmp .ne 8, 3) := by decide +kernel
theorem dX9_covered_77 : decode cX9_covered 77 = .ok (.iload 4, 2) := by decide +kernel
theorem dX9_covered_79 : decode cX9_covered 79 = .ok (.goto 26, 3) := by decide +kernel
theorem dX9_covered_82 : decode cX9_covered 82 = .ok (.aload_n 0, 1) := by decide +kernel
theorem dX9_covered_83 : decode cX9_covered 83 = .ok (.getfield 40, 3) := by decide +kernel
theorem dX9_covered_86 : decode cX9_covered 86 = .ok (.invokevirtual 254, 3) := by decide +kernel
theorem dX9_covered_89 : decode cX9_covered 89 = .ok (.iload 4, 2) := by decide +kernel
theorem dX9_covered_91 : decode cX9_covered 91 = .ok (.isub, 1) := by decide +kernel
theorem dX9_covered_92 : decode cX9_covered 92 = .ok (.aload_n 0, 1) := by decide +kernel
theorem dX9_covered_93 : decode cX9_covered 93 = .ok (.getfield 40, 3) := by decide +kernel
theorem dX9_covered_96 : decode cX9_covered 96 = .ok (.aload_n 0, 1) := by decide +kernel
theorem dX9_covered_97 : decode cX9_covered 97 = .ok (.getfield 12, 3) := by decide +kernel
theorem dX9_covered_100 : decode cX9_covered 100 = .ok (.iload_n 3, 1) := by decide +kernel
theorem dX9_covered_101 : decode cX9_covered 101 = .ok (.invokevirtual 257, 3) := by decide +kernel
theorem dX9_covered_104 : decode cX9_covered 104 = .ok (.isub, 1) := by decide +kernel
theorem dX9_covered_105 : decode cX9_covered 105 = .ok (.ireturn, 1) := by decide +kernel
theorem dX9_within_0 : decode cX9_within 0 = .ok (.iload_n 0, 1) := by decide +kernel
theorem dX9_within_1 : decode cX9_within 1 = .ok (.iload_n 1, 1) := by decide +kernel
theorem dX9_within_2 : decode cX9_within 2 = .ok (.if_icmp .lt 12, 3) := by decide +kernel
theorem dX9_within_5 : decode cX9_within 5 = .ok (.iload_n 0, 1) := by decide +kernel
theorem dX9_within_6 : decode cX9_within 6 = .ok (.iload_n 2, 1) := by decide +kernel
theorem dX9_within_7 : decode cX9_within 7 = .ok (.if_icmp .gt 7, 3) := by decide +kernel
theorem dX9_within_10 : decode cX9_within 10 = .ok (.iconst 1, 1) := by decide +kernel
theorem dX9_within_11 : decode cX9_within 11 = .ok (.goto 4, 3) := by decide +kernel
theorem dX9_within_14 : decode cX9_within 14 = .ok (.iconst 0, 1) := by decide +kernel
theorem dX9_within_15 : decode cX9_within 15 = .ok (.ireturn, 1) := by decide +kernel
theorem dX9_at_0 : decode cX9_at 0 = .ok (.iload_n 1, 1) := by decide +kernel
theorem dX9_at_1 : decode cX9_at 1 = .ok (.ifCond .lt 15, 3) := by decide +kernel
theorem dX9_at_4 : decode cX9_at 4 = .ok (.iload_n 1, 1) := by decide +kernel
theorem dX9_at_5 : decode cX9_at 5 = .ok (.aload_n 0, 1) := by decide +kernel
theorem dX9_at_6 : decode cX9_at 6 = .ok (.arraylength, 1) := by decide +kernel
theorem dX9_at_7 : decode cX9_at 7 = .ok (.if_icmp .ge 9, 3) := by decide +kernel
theorem dX9_at_10 : decode cX9_at 10 = .ok (.aload_n 0, 1) := by decide +kernel
theorem dX9_at_11 : decode cX9_at 11 = .ok (.iload_n 1, 1) := by decide +kernel
theorem dX9_at_12 : decode cX9_at 12 = .ok (.iaload, 1) := by decide +kernel
theorem dX9_at_13 : decode cX9_at 13 = .ok (.goto 5, 3) := by decide +kernel
theorem dX9_at_16 : decode cX9_at 16 = .ok (.bipush (-9), 2) := by decide +kernel
theorem dX9_at_18 : decode cX9_at 18 = .ok (.ireturn, 1) := by decide +kernel
theorem dX9_put_0 : decode cX9_put 0 = .ok (.iload_n 1, 1) := by decide +kernel
theorem dX9_put_1 : decode cX9_put 1 = .ok (.ifCond .lt 13, 3) := by decide +kernel
theorem dX9_put_4 : decode cX9_put 4 = .ok (.iload_n 1, 1) := by decide +kernel
theorem dX9_put_5 : decode cX9_put 5 = .ok (.aload_n 0, 1) := by decide +kernel
theorem dX9_put_6 : decode cX9_put 6 = .ok (.arraylength, 1) := by decide +kernel
theorem dX9_put_7 : decode cX9_put 7 = .ok (.if_icmp .ge 7, 3) := by decide +kernel
theorem dX9_put_10 : decode cX9_put 10 = .ok (.aload_n 0, 1) := by decide +kernel
theorem dX9_put_11 : decode cX9_put 11 = .ok (.iload_n 1, 1) := by decide +kernel
theorem dX9_put_12 : decode cX9_put 12 = .ok (.iload_n 2, 1) := by decide +kernel
theorem dX9_put_13 : decode cX9_put 13 = .ok (.iastore, 1) := by decide +kernel
theorem dX9_put_14 : decode cX9_put 14 = .ok (.return_, 1) := by decide +kernel
theorem dX9_wipe_0 : decode cX9_wipe 0 = .ok (.iconst 0, 1) := by decide +kernel
theorem dX9_wipe_1 : decode cX9_wipe 1 = .ok (.istore_n 1, 1) := by decide +kernel
theorem dX9_wipe_2 : decode cX9_wipe 2 = .ok (.iload_n 1, 1) := by decide +kernel
theorem dX9_wipe_3 : decode cX9_wipe 3 = .ok (.aload_n 0, 1) := by decide +kernel
theorem dX9_wipe_4 : decode cX9_wipe 4 = .ok (.arraylength, 1) := by decide +kernel
theorem dX9_wipe_5 : decode cX9_wipe 5 = .ok (.if_icmp .ge 13, 3) := by decide +kernel
theorem dX9_wipe_8 : decode cX9_wipe 8 = .ok (.aload_n 0, 1) := by decide +kernel
theorem dX9_wipe_9 : decode cX9_wipe 9 = .ok (.iload_n 1, 1) := by decide +kernel
theorem dX9_wipe_10 : decode cX9_wipe 10 = .ok (.iconst 0, 1) := by decide +kernel
theorem dX9_wipe_11 : decode cX9_wipe 11 = .ok (.bastore, 1) := by decide +kernel
theorem dX9_wipe_12 : decode cX9_wipe 12 = .ok (.iinc 1 1, 3) := by decide +kernel
theorem dX9_wipe_15 : decode cX9_wipe 15 = .ok (.goto (-13), 3) := by decide +kernel
theorem dX9_wipe_18 : decode cX9_wipe 18 = .ok (.return_, 1) := by decide +kernel
theorem dX9_countTrue_0 : decode cX9_countTrue 0 = .ok (.iconst 0, 1) := by decide +kernel
theorem dX9_countTrue_1 : decode cX9_countTrue 1 = .ok (.istore_n 1, 1) := by decide +kernel
theorem dX9_countTrue_2 : decode cX9_countTrue 2 = .ok (.aload_n 0, 1) := by decide +kernel
theorem dX9_countTrue_3 : decode cX9_countTrue 3 = .ok (.astore_n 2, 1) := by decide +kernel
theorem dX9_countTrue_4 : decode cX9_countTrue 4 = .ok (.aload_n 2, 1) := by decide +kernel
theorem dX9_countTrue_5 : decode cX9_countTrue 5 = .ok (.arraylength, 1) := by decide +kernel
theorem dX9_countTrue_6 : decode cX9_countTrue 6 = .ok (.istore_n 3, 1) := by decide +kernel
theorem dX9_countTrue_7 : decode cX9_countTrue 7 = .ok (.iconst 0, 1) := by decide +kernel
theorem dX9_countTrue_8 : decode cX9_countTrue 8 = .ok (.istore 4, 2) := by decide +kernel
theorem dX9_countTrue_10 : decode cX9_countTrue 10 = .ok (.iload 4, 2) := by decide +kernel
theorem dX9_countTrue_12 : decode cX9_countTrue 12 = .ok (.iload_n 3, 1) := by decide +kernel
theorem dX9_countTrue_13 : decode cX9_countTrue 13 = .ok (.if_icmp .ge 28, 3) := by decide +kernel
theorem dX9_countTrue_16 : decode cX9_countTrue 16 = .ok (.aload_n 2, 1) := by decide +kernel
theorem dX9_countTrue_17 : decode cX9_countTrue 17 = .ok (.iload 4, 2) := by decide +kernel
theorem dX9_countTrue_19 : decode cX9_countTrue 19 = .ok (.baload, 1) := by decide +kernel
theorem dX9_countTrue_20 : decode cX9_countTrue 20 = .ok (.istore 5, 2) := by decide +kernel
theorem dX9_countTrue_22 : decode cX9_countTrue 22 = .ok (.iload_n 1, 1) := by decide +kernel
theorem dX9_countTrue_23 : decode cX9_countTrue 23 = .ok (.iload 5, 2) := by decide +kernel
theorem dX9_countTrue_25 : decode cX9_countTrue 25 = .ok (.ifCond .eq 7, 3) := by decide +kernel
theorem dX9_countTrue_28 : decode cX9_countTrue 28 = .ok (.iconst 1, 1) := by decide +kernel
theorem dX9_countTrue_29 : decode cX9_countTrue 29 = .ok (.goto 4, 3) := by decide +kernel
theorem dX9_countTrue_32 : decode cX9_countTrue 32 = .ok (.iconst 0, 1) := by decide +kernel
theorem dX9_countTrue_33 : decode cX9_countTrue 33 = .ok (.iadd, 1) := by decide +kernel
theorem dX9_countTrue_34 : decode cX9_countTrue 34 = .ok (.istore_n 1, 1) := by decide +kernel
theorem dX9_countTrue_35 : decode cX9_countTrue 35 = .ok (.iinc 4 1, 3) := by decide +kernel
theorem dX9_countTrue_38 : decode cX9_countTrue 38 = .ok (.goto (-28), 3) := by decide +kernel
theorem dX9_countTrue_41 : decode cX9_countTrue 41 = .ok (.iload_n 1, 1) := by decide +kernel
theorem dX9_countTrue_42 : decode cX9_countTrue 42 = .ok (.ireturn, 1) := by decide +kernel
theorem dX9_placeOf_0 : decode cX9_placeOf 0 = .ok (.iload_n 0, 1) := by decide +kernel
theorem dX9_placeOf_1 : decode cX9_placeOf 1 = .ok (.iconst 0, 1) := by decide +kernel
theorem dX9_placeOf_2 : decode cX9_placeOf 2 = .ok (.bipush 7, 2) := by decide +kernel
theorem dX9_placeOf_4 : decode cX9_placeOf 4 = .ok (.invokestatic 74, 3) := by decide +kernel
theorem dX9_placeOf_7 : decode cX9_placeOf 7 = .ok (.ifCond .eq 21, 3) := by decide +kernel
theorem dX9_placeOf_10 : decode cX9_placeOf 10 = .ok (.iload_n 1, 1) := by decide +kernel
theorem dX9_placeOf_11 : decode cX9_placeOf 11 = .ok (.iconst 0, 1) := by decide +kernel
theorem dX9_placeOf_12 : decode cX9_placeOf 12 = .ok (.iconst 5, 1) := by decide +kernel
theorem dX9_placeOf_13 : decode cX9_placeOf 13 = .ok (.invokestatic 74, 3) := by decide +kernel
theorem dX9_placeOf_16 : decode cX9_placeOf 16 = .ok (.ifCond .eq 12, 3) := by decide +kernel
theorem dX9_placeOf_19 : decode cX9_placeOf 19 = .ok (.bipush 8, 2) := by decide +kernel
theorem dX9_placeOf_21 : decode cX9_placeOf 21 = .ok (.iload_n 1, 1) := by decide +kernel
theorem dX9_placeOf_22 : decode cX9_placeOf 22 = .ok (.imul, 1) := by decide +kernel
theorem dX9_placeOf_23 : decode cX9_placeOf 23 = .ok (.iload_n 0, 1) := by decide +kernel
theorem dX9_placeOf_24 : decode cX9_placeOf 24 = .ok (.iadd, 1) := by decide +kernel
theorem dX9_placeOf_25 : decode cX9_placeOf 25 = .ok (.goto 5, 3) := by decide +kernel
theorem dX9_placeOf_28 : decode cX9_placeOf 28 = .ok (.bipush (-9), 2) := by decide +kernel
theorem dX9_placeOf_30 : decode cX9_placeOf 30 = .ok (.ireturn, 1) := by decide +kernel
theorem dX9_beside_0 : decode cX9_beside 0 = .ok (.iload_n 0, 1) := by decide +kernel
theorem dX9_beside_1 : decode cX9_beside 1 = .ok (.ifCond .lt 9, 3) := by decide +kernel
theorem dX9_beside_4 : decode cX9_beside 4 = .ok (.iload_n 0, 1) := by decide +kernel
theorem dX9_beside_5 : decode cX9_beside 5 = .ok (.bipush 48, 2) := by decide +kernel
theorem dX9_beside_7 : decode cX9_beside 7 = .ok (.if_icmp .lt 6, 3) := by decide +kernel
theorem dX9_beside_10 : decode cX9_beside 10 = .ok (.bipush (-9), 2) := by decide +kernel
theorem dX9_beside_12 : decode cX9_beside 12 = .ok (.ireturn, 1) := by decide +kernel
theorem dX9_beside_13 : decode cX9_beside 13 = .ok (.iload_n 1, 1) := by decide +kernel
theorem dX9_beside_14 : decode cX9_beside 14 = .ok (.tableswitch 96 0 3 #[30, 46, 62, 80], 30) := by decide +kernel
theorem dX9_beside_44 : decode cX9_beside 44 = .ok (.iload_n 0, 1) := by decide +kernel
theorem dX9_beside_45 : decode cX9_beside 45 = .ok (.bipush 8, 2) := by decide +kernel
theorem dX9_beside_47 : decode cX9_beside 47 = .ok (.if_icmp .lt 10, 3) := by decide +kernel
theorem dX9_beside_50 : decode cX9_beside 50 = .ok (.iload_n 0, 1) := by decide +kernel
theorem dX9_beside_51 : decode cX9_beside 51 = .ok (.bipush 8, 2) := by decide +kernel
theorem dX9_beside_53 : decode cX9_beside 53 = .ok (.isub, 1) := by decide +kernel
theorem dX9_beside_54 : decode cX9_beside 54 = .ok (.goto 5, 3) := by decide +kernel
theorem dX9_beside_57 : decode cX9_beside 57 = .ok (.bipush (-9), 2) := by decide +kernel
theorem dX9_beside_59 : decode cX9_beside 59 = .ok (.ireturn, 1) := by decide +kernel
theorem dX9_beside_60 : decode cX9_beside 60 = .ok (.iload_n 0, 1) := by decide +kernel
theorem dX9_beside_61 : decode cX9_beside 61 = .ok (.bipush 8, 2) := by decide +kernel
theorem dX9_beside_63 : decode cX9_beside 63 = .ok (.irem, 1) := by decide +kernel
theorem dX9_beside_64 : decode cX9_beside 64 = .ok (.ifCond .le 9, 3) := by decide +kernel
theorem dX9_beside_67 : decode cX9_beside 67 = .ok (.iload_n 0, 1) := by decide +kernel
theorem dX9_beside_68 : decode cX9_beside 68 = .ok (.iconst 1, 1) := by decide +kernel
theorem dX9_beside_69 : decode cX9_beside 69 = .ok (.isub, 1) := by decide +kernel
theorem dX9_beside_70 : decode cX9_beside 70 = .ok (.goto 5, 3) := by decide +kernel
theorem dX9_beside_73 : decode cX9_beside 73 = .ok (.bipush (-9), 2) := by decide +kernel
theorem dX9_beside_75 : decode cX9_beside 75 = .ok (.ireturn, 1) := by decide +kernel
theorem dX9_beside_76 : decode cX9_beside 76 = .ok (.iload_n 0, 1) := by decide +kernel
theorem dX9_beside_77 : decode cX9_beside 77 = .ok (.bipush 8, 2) := by decide +kernel
theorem dX9_beside_79 : decode cX9_beside 79 = .ok (.irem, 1) := by decide +kernel
theorem dX9_beside_80 : decode cX9_beside 80 = .ok (.bipush 7, 2) := by decide +kernel
theorem dX9_beside_82 : decode cX9_beside 82 = .ok (.if_icmp .ge 9, 3) := by decide +kernel
theorem dX9_beside_85 : decode cX9_beside 85 = .ok (.iload_n 0, 1) := by decide +kernel
theorem dX9_beside_86 : decode cX9_beside 86 = .ok (.iconst 1, 1) := by decide +kernel
theorem dX9_beside_87 : decode cX9_beside 87 = .ok (.iadd, 1) := by decide +kernel
theorem dX9_beside_88 : decode cX9_beside 88 = .ok (.goto 5, 3) := by decide +kernel
theorem dX9_beside_91 : decode cX9_beside 91 = .ok (.bipush (-9), 2) := by decide +kernel
theorem dX9_beside_93 : decode cX9_beside 93 = .ok (.ireturn, 1) := by decide +kernel
theorem dX9_beside_94 : decode cX9_beside 94 = .ok (.iload_n 0, 1) := by decide +kernel
theorem dX9_beside_95 : decode cX9_beside 95 = .ok (.bipush 40, 2) := by decide +kernel
theorem dX9_beside_97 : decode cX9_beside 97 = .ok (.if_icmp .ge 10, 3) := by decide +kernel
theorem dX9_beside_100 : decode cX9_beside 100 = .ok (.iload_n 0, 1) := by decide +kernel
theorem dX9_beside_101 : decode cX9_beside 101 = .ok (.bipush 8, 2) := by decide +kernel
theorem dX9_beside_103 : decode cX9_beside 103 = .ok (.iadd, 1) := by decide +kernel
theorem dX9_beside_104 : decode cX9_beside 104 = .ok (.goto 5, 3) := by decide +kernel
theorem dX9_beside_107 : decode cX9_beside 107 = .ok (.bipush (-9), 2) := by decide +kernel
theorem dX9_beside_109 : decode cX9_beside 109 = .ok (.ireturn, 1) := by decide +kernel
theorem dX9_beside_110 : decode cX9_beside 110 = .ok (.bipush (-9), 2) := by decide +kernel
theorem dX9_beside_112 : decode cX9_beside 112 = .ok (.ireturn, 1) := by decide +kernel
theorem dX10_init_0 : decode cX10_init 0 = .ok (.aload_n 0, 1) := by decide +kernel
theorem dX10_init_1 : decode cX10_init 1 = .ok (.invokespecial 1, 3) := by decide +kernel
theorem dX10_init_4 : decode cX10_init 4 = .ok (.aload_n 0, 1) := by decide +kernel
theorem dX10_init_5 : decode cX10_init 5 = .ok (.bipush 60, 2) := by decide +kernel
theorem dX10_init_7 : decode cX10_init 7 = .ok (.newarray .int, 2) := by decide +kernel
theorem dX10_init_9 : decode cX10_init 9 = .ok (.putfield 7, 3) := by decide +kernel
theorem dX10_init_12 : decode cX10_init 12 = .ok (.aload_n 0, 1) := by decide +kernel
theorem dX10_init_13 : decode cX10_init 13 = .ok (.bipush 60, 2) := by decide +kernel
theorem dX10_init_15 : decode cX10_init 15 = .ok (.newarray .int, 2) := by decide +kernel
theorem dX10_init_17 : decode cX10_init 17 = .ok (.putfield 13, 3) := by decide +kernel
theorem dX10_init_20 : decode cX10_init 20 = .ok (.aload_n 0, 1) := by decide +kernel
theorem dX10_init_21 : decode cX10_init 21 = .ok (.sipush 360, 3) := by decide +kernel
theorem dX10_init_24 : decode cX10_init 24 = .ok (.newarray .int, 2) := by decide +kernel
theorem dX10_init_26 : decode cX10_init 26 = .ok (.putfield 16, 3) := by decide +kernel
theorem dX10_init_29 : decode cX10_init 29 = .ok (.aload_n 0, 1) := by decide +kernel
theorem dX10_init_30 : decode cX10_init 30 = .ok (.bipush 120, 2) := by decide +kernel
theorem dX10_init_32 : decode cX10_init 32 = .ok (.newarray .int, 2) := by decide +kernel
theorem dX10_init_34 : decode cX10_init 34 = .ok (.putfield 19, 3) := by decide +kernel
theorem dX10_init_37 : decode cX10_init 37 = .ok (.aload_n 0, 1) := by decide +kernel
theorem dX10_init_38 : decode cX10_init 38 = .ok (.iconst 2, 1) := by decide +kernel
theorem dX10_init_39 : decode cX10_init 39 = .ok (.newarray .boolean, 2) := by decide +kernel
theorem dX10_init_41 : decode cX10_init 41 = .ok (.putfield 22, 3) := by decide +kernel
theorem dX10_init_44 : decode cX10_init 44 = .ok (.aload_n 0, 1) := by decide +kernel
theorem dX10_init_45 : decode cX10_init 45 = .ok (.bipush 18, 2) := by decide +kernel
theorem dX10_init_47 : decode cX10_init 47 = .ok (.newarray .int, 2) := by decide +kernel
theorem dX10_init_49 : decode cX10_init 49 = .ok (.putfield 26, 3) := by decide +kernel
theorem dX10_init_52 : decode cX10_init 52 = .ok (.aload_n 0, 1) := by decide +kernel
theorem dX10_init_53 : decode cX10_init 53 = .ok (.bipush 120, 2) := by decide +kernel
theorem dX10_init_55 : decode cX10_init 55 = .ok (.newarray .byte, 2) := by decide +kernel
theorem dX10_init_57 : decode cX10_init 57 = .ok (.putfield 29, 3) := by decide +kernel
theorem dX10_init_60 : decode cX10_init 60 = .ok (.aload_n 0, 1) := by decide +kernel
theorem dX10_init_61 : decode cX10_init 61 = .ok (.bipush 48, 2) := by decide +kernel
theorem dX10_init_63 : decode cX10_init 63 = .ok (.newarray .int, 2) := by decide +kernel
theorem dX10_init_65 : decode cX10_init 65 = .ok (.putfield 33, 3) := by decide +kernel
theorem dX10_init_68 : decode cX10_init 68 = .ok (.aload_n 0, 1) := by decide +kernel
theorem dX10_init_69 : decode cX10_init 69 = .ok (.bipush 48, 2) := by decide +kernel
theorem dX10_init_71 : decode cX10_init 71 = .ok (.newarray .int, 2) := by decide +kernel
theorem dX10_init_73 : decode cX10_init 73 = .ok (.putfield 36, 3) := by decide +kernel
theorem dX10_init_76 : decode cX10_init 76 = .ok (.aload_n 0, 1) := by decide +kernel
theorem dX10_init_77 : decode cX10_init 77 = .ok (.bipush 48, 2) := by decide +kernel
theorem dX10_init_79 : decode cX10_init 79 = .ok (.newarray .int, 2) := by decide +kernel
theorem dX10_init_81 : decode cX10_init 81 = .ok (.putfield 39, 3) := by decide +kernel
theorem dX10_init_84 : decode cX10_init 84 = .ok (.aload_n 0, 1) := by decide +kernel
theorem dX10_init_85 : decode cX10_init 85 = .ok (.bipush 48, 2) := by decide +kernel
theorem dX10_init_87 : decode cX10_init 87 = .ok (.newarray .int, 2) := by decide +kernel
theorem dX10_init_89 : decode cX10_init 89 = .ok (.putfield 42, 3) := by decide +kernel
theorem dX10_init_92 : decode cX10_init 92 = .ok (.aload_n 0, 1) := by decide +kernel
theorem dX10_init_93 : decode cX10_init 93 = .ok (.bipush 48, 2) := by decide +kernel
theorem dX10_init_95 : decode cX10_init 95 = .ok (.newarray .int, 2) := by decide +kernel
theorem dX10_init_97 : decode cX10_init 97 = .ok (.putfield 45, 3) := by decide +kernel
theorem dX10_init_100 : decode cX10_init 100 = .ok (.aload_n 0, 1) := by decide +kernel
theorem dX10_init_101 : decode cX10_init 101 = .ok (.bipush 48, 2) := by decide +kernel
theorem dX10_init_103 : decode cX10_init 103 = .ok (.newarray .int, 2) := by decide +kernel
theorem dX10_init_105 : decode cX10_init 105 = .ok (.putfield 48, 3) := by decide +kernel
theorem dX10_init_108 : decode cX10_init 108 = .ok (.aload_n 0, 1) := by decide +kernel
theorem dX10_init_109 : decode cX10_init 109 = .ok (.bipush 48, 2) := by decide +kernel
theorem dX10_init_111 : decode cX10_init 111 = .ok (.newarray .int, 2) := by decide +kernel
theorem dX10_init_113 : decode cX10_init 113 = .ok (.putfield 51, 3) := by decide +kernel
theorem dX10_init_116 : decode cX10_init 116 = .ok (.aload_n 0, 1) := by decide +kernel
theorem dX10_init_117 : decode cX10_init 117 = .ok (.bipush 48, 2) := by decide +kernel
theorem dX10_init_119 : decode cX10_init 119 = .ok (.newarray .int, 2) := by decide +kernel
theorem dX10_init_121 : decode cX10_init 121 = .ok (.putfield 54, 3) := by decide +kernel
theorem dX10_init_124 : decode cX10_init 124 = .ok (.aload_n 0, 1) := by decide +kernel
theorem dX10_init_125 : decode cX10_init 125 = .ok (.bipush 48, 2) := by decide +kernel
theorem dX10_init_127 : decode cX10_init 127 = .ok (.newarray .int, 2) := by decide +kernel
theorem dX10_init_129 : decode cX10_init 129 = .ok (.putfield 57, 3) := by decide +kernel
theorem dX10_init_132 : decode cX10_init 132 = .ok (.aload_n 0, 1) := by decide +kernel
theorem dX10_init_133 : decode cX10_init 133 = .ok (.bipush 48, 2) := by decide +kernel
theorem dX10_init_135 : decode cX10_init 135 = .ok (.newarray .int, 2) := by decide +kernel
theorem dX10_init_137 : decode cX10_init 137 = .ok (.putfield 60, 3) := by decide +kernel
theorem dX10_init_140 : decode cX10_init 140 = .ok (.aload_n 0, 1) := by decide +kernel
theorem dX10_init_141 : decode cX10_init 141 = .ok (.bipush 48, 2) := by decide +kernel
theorem dX10_init_143 : decode cX10_init 143 = .ok (.newarray .int, 2) := by decide +kernel
theorem dX10_init_145 : decode cX10_init 145 = .ok (.putfield 63, 3) := by decide +kernel
theorem dX10_init_148 : decode cX10_init 148 = .ok (.aload_n 0, 1) := by decide +kernel
theorem dX10_init_149 : decode cX10_init 149 = .ok (.bipush 48, 2) := by decide +kernel
theorem dX10_init_151 : decode cX10_init 151 = .ok (.newarray .int, 2) := by decide +kernel
theorem dX10_init_153 : decode cX10_init 153 = .ok (.putfield 66, 3) := by decide +kernel
theorem dX10_init_156 : decode cX10_init 156 = .ok (.aload_n 0, 1) := by decide +kernel
theorem dX10_init_157 : decode cX10_init 157 = .ok (.bipush 48, 2) := by decide +kernel
theorem dX10_init_159 : decode cX10_init 159 = .ok (.newarray .boolean, 2) := by decide +kernel
theorem dX10_init_161 : decode cX10_init 161 = .ok (.putfield 69, 3) := by decide +kernel
theorem dX10_init_164 : decode cX10_init 164 = .ok (.aload_n 0, 1) := by decide +kernel
theorem dX10_init_165 : decode cX10_init 165 = .ok (.bipush 10, 2) := by decide +kernel
theorem dX10_init_167 : decode cX10_init 167 = .ok (.newarray .int, 2) := by decide +kernel
theorem dX10_init_169 : decode cX10_init 169 = .ok (.putfield 72, 3) := by decide +kernel
theorem dX10_init_172 : decode cX10_init 172 = .ok (.aload_n 0, 1) := by decide +kernel
theorem dX10_init_173 : decode cX10_init 173 = .ok (.bipush 10, 2) := by decide +kernel
theorem dX10_init_175 : decode cX10_init 175 = .ok (.newarray .int, 2) := by decide +kernel
theorem dX10_init_177 : decode cX10_init 177 = .ok (.putfield 75, 3) := by decide +kernel
theorem dX10_init_180 : decode cX10_init 180 = .ok (.aload_n 0, 1) := by decide +kernel
theorem dX10_init_181 : decode cX10_init 181 = .ok (.sipush 4096, 3) := by decide +kernel
theorem dX10_init_184 : decode cX10_init 184 = .ok (.newarray .int, 2) := by decide +kernel
theorem dX10_init_186 : decode cX10_init 186 = .ok (.putfield 78, 3) := by decide +kernel
theorem dX10_init_189 : decode cX10_init 189 = .ok (.aload_n 0, 1) := by decide +kernel
theorem dX10_init_190 : decode cX10_init 190 = .ok (.getfield 7, 3) := by decide +kernel
theorem dX10_init_193 : decode cX10_init 193 = .ok (.iconst 0, 1) := by decide +kernel
theorem dX10_init_194 : decode cX10_init 194 = .ok (.iconst 1, 1) := by decide +kernel
theorem dX10_init_195 : decode cX10_init 195 = .ok (.iastore, 1) := by decide +kernel
theorem dX10_init_196 : decode cX10_init 196 = .ok (.aload_n 0, 1) := by decide +kernel
theorem dX10_init_197 : decode cX10_init 197 = .ok (.getfield 7, 3) := by decide +kernel
theorem dX10_init_200 : decode cX10_init 200 = .ok (.iconst 1, 1) := by decide +kernel
theorem dX10_init_201 : decode cX10_init 201 = .ok (.iconst 1, 1) := by decide +kernel
theorem dX10_init_202 : decode cX10_init 202 = .ok (.iastore, 1) := by decide +kernel
theorem dX10_init_203 : decode cX10_init 203 = .ok (.aload_n 0, 1) := by decide +kernel
theorem dX10_init_204 : decode cX10_init 204 = .ok (.getfield 7, 3) := by decide +kernel
theorem dX10_init_207 : decode cX10_init 207 = .ok (.iconst 2, 1) := by decide +kernel
theorem dX10_init_208 : decode cX10_init 208 = .ok (.iconst 3, 1) := by decide +kernel
theorem dX10_init_209 : decode cX10_init 209 = .ok (.iastore, 1) := by decide +kernel
theorem dX10_init_210 : decode cX10_init 210 = .ok (.return_, 1) := by decide +kernel
theorem dX10_in_0 : decode cX10_in 0 = .ok (.iload_n 0, 1) := by decide +kernel
theorem dX10_in_1 : decode cX10_in 1 = .ok (.iload_n 1, 1) := by decide +kernel
theorem dX10_in_2 : decode cX10_in 2 = .ok (.if_icmp .lt 12, 3) := by decide +kernel
theorem dX10_in_5 : decode cX10_in 5 = .ok (.iload_n 0, 1) := by decide +kernel
theorem dX10_in_6 : decode cX10_in 6 = .ok (.iload_n 2, 1) := by decide +kernel
theorem dX10_in_7 : decode cX10_in 7 = .ok (.if_icmp .gt 7, 3) := by decide +kernel
theorem dX10_in_10 : decode cX10_in 10 = .ok (.iconst 1, 1) := by decide +kernel
theorem dX10_in_11 : decode cX10_in 11 = .ok (.goto 4, 3) := by decide +kernel
theorem dX10_in_14 : decode cX10_in 14 = .ok (.iconst 0, 1) := by decide +kernel
theorem dX10_in_15 : decode cX10_in 15 = .ok (.ireturn, 1) := by decide +kernel
theorem dX10_type_0 : decode cX10_type 0 = .ok (.aload_n 0, 1) := by decide +kernel
theorem dX10_type_1 : decode cX10_type 1 = .ok (.iconst 0, 1) := by decide +kernel
theorem dX10_type_2 : decode cX10_type 2 = .ok (.putfield 81, 3) := by decide +kernel
theorem dX10_type_5 : decode cX10_type 5 = .ok (.iload_n 1, 1) := by decide +kernel
theorem dX10_type_6 : decode cX10_type 6 = .ok (.iconst 0, 1) := by decide +kernel
theorem dX10_type_7 : decode cX10_type 7 = .ok (.sipush 255, 3) := by decide +kernel
theorem dX10_type_10 : decode cX10_type 10 = .ok (.invokestatic 85, 3) := by decide +kernel
theorem dX10_type_13 : decode cX10_type 13 = .ok (.ifCond .ne 5, 3) := by decide +kernel
theorem dX10_type_16 : decode cX10_type 16 = .ok (.iconst (-1), 1) := by decide +kernel
theorem dX10_type_17 : decode cX10_type 17 = .ok (.ireturn, 1) := by decide +kernel
theorem dX10_type_18 : decode cX10_type 18 = .ok (.aload_n 0, 1) := by decide +kernel
theorem dX10_type_19 : decode cX10_type 19 = .ok (.getfield 89, 3) := by decide +kernel
theorem dX10_type_22 : decode cX10_type 22 = .ok (.bipush 120, 2) := by decide +kernel
theorem dX10_type_24 : decode cX10_type 24 = .ok (.if_icmp .ne 6, 3) := by decide +kernel
theorem dX10_type_27 : decode cX10_type 27 = .ok (.bipush (-3), 2) := by decide +kernel
theorem dX10_type_29 : decode cX10_type 29 = .ok (.ireturn, 1) := by decide +kernel
theorem dX10_type_30 : decode cX10_type 30 = .ok (.aload_n 0, 1) := by decide +kernel
theorem dX10_type_31 : decode cX10_type 31 = .ok (.getfield 29, 3) := by decide +kernel
theorem dX10_type_34 : decode cX10_type 34 = .ok (.aload_n 0, 1) := by decide +kernel
theorem dX10_type_35 : decode cX10_type 35 = .ok (.getfield 89, 3) := by decide +kernel
theorem dX10_type_38 : decode cX10_type 38 = .ok (.iload_n 1, 1) := by decide +kernel
theorem dX10_type_39 : decode cX10_type 39 = .ok (.i2b, 1) := by decide +kernel
theorem dX10_type_40 : decode cX10_type 40 = .ok (.bastore, 1) := by decide +kernel
theorem dX10_type_41 : decode cX10_type 41 = .ok (.aload_n 0, 1) := by decide +kernel
theorem dX10_type_42 : decode cX10_type 42 = .ok (.dup, 1) := by decide +kernel
theorem dX10_type_43 : decode cX10_type 43 = .ok (.getfield 89, 3) := by decide +kernel
theorem dX10_type_46 : decode cX10_type 46 = .ok (.iconst 1, 1) := by decide +kernel
theorem dX10_type_47 : decode cX10_type 47 = .ok (.iadd, 1) := by decide +kernel
theorem dX10_type_48 : decode cX10_type 48 = .ok (.putfield 89, 3) := by decide +kernel
theorem dX10_type_51 : decode cX10_type 51 = .ok (.aload_n 0, 1) := by decide +kernel
theorem dX10_type_52 : decode cX10_type 52 = .ok (.getfield 89, 3) := by decide +kernel
theorem dX10_type_55 : decode cX10_type 55 = .ok (.ireturn, 1) := by decide +kernel
theorem dX10_clear_0 : decode cX10_clear 0 = .ok (.aload_n 0, 1) := by decide +kernel
theorem dX10_clear_1 : decode cX10_clear 1 = .ok (.iconst 0, 1) := by decide +kernel
theorem dX10_clear_2 : decode cX10_clear 2 = .ok (.putfield 81, 3) := by decide +kernel
theorem dX10_clear_5 : decode cX10_clear 5 = .ok (.aload_n 0, 1) := by decide +kernel
theorem dX10_clear_6 : decode cX10_clear 6 = .ok (.getfield 89, 3) := by decide +kernel
theorem dX10_clear_9 : decode cX10_clear 9 = .ok (.istore_n 1, 1) := by decide +kernel
theorem dX10_clear_10 : decode cX10_clear 10 = .ok (.aload_n 0, 1) := by decide +kernel
theorem dX10_clear_11 : decode cX10_clear 11 = .ok (.iconst 0, 1) := by decide +kernel
theorem dX10_clear_12 : decode cX10_clear 12 = .ok (.putfield 89, 3) := by decide +kernel
theorem dX10_clear_15 : decode cX10_clear 15 = .ok (.iload_n 1, 1) := by decide +kernel
theorem dX10_clear_16 : decode cX10_clear 16 = .ok (.ireturn, 1) := by decide +kernel
theorem dX10_at_0 : decode cX10_at 0 = .ok (.iload_n 1, 1) := by decide +kernel
theorem dX10_at_1 : decode cX10_at 1 = .ok (.aload_n 0, 1) := by decide +kernel
theorem dX10_at_2 : decode cX10_at 2 = .ok (.getfield 89, 3) := by decide +kernel
theorem dX10_at_5 : decode cX10_at 5 = .ok (.if_icmp .ge 16, 3) := by decide +kernel
theorem dX10_at_8 : decode cX10_at 8 = .ok (.aload_n 0, 1) := by decide +kernel
theorem dX10_at_9 : decode cX10_at 9 = .ok (.getfield 29, 3) := by decide +kernel
theorem dX10_at_12 : decode cX10_at 12 = .ok (.iload_n 1, 1) := by decide +kernel
theorem dX10_at_13 : decode cX10_at 13 = .ok (.baload, 1) := by decide +kernel
theorem dX10_at_14 : decode cX10_at 14 = .ok (.sipush 255, 3) := by decide +kernel
theorem dX10_at_17 : decode cX10_at 17 = .ok (.iand, 1) := by decide +kernel
theorem dX10_at_18 : decode cX10_at 18 = .ok (.goto 4, 3) := by decide +kernel
theorem dX10_at_21 : decode cX10_at 21 = .ok (.iconst (-1), 1) := by decide +kernel
theorem dX10_at_22 : decode cX10_at 22 = .ok (.ireturn, 1) := by decide +kernel
theorem dX10_isWord_0 : decode cX10_isWord 0 = .ok (.iload 4, 2) := by decide +kernel
theorem dX10_isWord_2 : decode cX10_isWord 2 = .ok (.ifCond .ne 7, 3) := by decide +kernel
theorem dX10_isWord_5 : decode cX10_isWord 5 = .ok (.iconst 3, 1) := by decide +kernel
theorem dX10_isWord_6 : decode cX10_isWord 6 = .ok (.goto 4, 3) := by decide +kernel
theorem dX10_isWord_9 : decode cX10_isWord 9 = .ok (.iconst 4, 1) := by decide +kernel
theorem dX10_isWord_10 : decode cX10_isWord 10 = .ok (.istore 5, 2) := by decide +kernel
theorem dX10_isWord_12 : decode cX10_isWord 12 = .ok (.aload_n 0, 1) := by decide +kernel
theorem dX10_isWord_13 : decode cX10_isWord 13 = .ok (.getfield 92, 3) := by decide +kernel
theorem dX10_isWord_16 : decode cX10_isWord 16 = .ok (.aload_n 0, 1) := by decide +kernel
theorem dX10_isWord_17 : decode cX10_isWord 17 = .ok (.getfield 95, 3) := by decide +kernel
theorem dX10_isWord_20 : decode cX10_isWord 20 = .ok (.isub, 1) := by decide +kernel
theorem dX10_isWord_21 : decode cX10_isWord 21 = .ok (.iload 5, 2) := by decide +kernel
theorem dX10_isWord_23 : decode cX10_isWord 23 = .ok (.if_icmp .ne 67, 3) := by decide +kernel
theorem dX10_isWord_26 : decode cX10_isWord 26 = .ok (.aload_n 0, 1) := by decide +kernel
theorem dX10_isWord_27 : decode cX10_isWord 27 = .ok (.aload_n 0, 1) := by decide +kernel
theorem dX10_isWord_28 : decode cX10_isWord 28 = .ok (.getfield 95, 3) := by decide +kernel
theorem dX10_isWord_31 : decode cX10_isWord 31 = .ok (.invokevirtual 98, 3) := by decide +kernel
theorem dX10_isWord_34 : decode cX10_isWord 34 = .ok (.iload_n 1, 1) := by decide +kernel
theorem dX10_isWord_35 : decode cX10_isWord 35 = .ok (.if_icmp .ne 55, 3) := by decide +kernel
theorem dX10_isWord_38 : decode cX10_isWord 38 = .ok (.aload_n 0, 1) := by decide +kernel
theorem dX10_isWord_39 : decode cX10_isWord 39 = .ok (.aload_n 0, 1) := by decide +kernel
theorem dX10_isWord_40 : decode cX10_isWord 40 = .ok (.getfield 95, 3) := by decide +kernel
theorem dX10_isWord_43 : decode cX10_isWord 43 = .ok (.iconst 1, 1) := by decide +kernel
theorem dX10_isWord_44 : decode cX10_isWord 44 = .ok (.iadd, 1) := by decide +kernel
theorem dX10_isWord_45 : decode cX10_isWord 45 = .ok (.invokevirtual 98, 3) := by decide +kernel
theorem dX10_isWord_48 : decode cX10_isWord 48 = .ok (.iload_n 2, 1) := by decide +kernel
theorem dX10_isWord_49 : decode cX10_isWord 49 = .ok (.if_icmp .ne 41, 3) := by decide +kernel
theorem dX10_isWord_52 : decode cX10_isWord 52 = .ok (.aload_n 0, 1) := by decide +kernel
theorem dX10_isWord_53 : decode cX10_isWord 53 = .ok (.aload_n 0, 1) := by decide +kernel
theorem dX10_isWord_54 : decode cX10_isWord 54 = .ok (.getfield 95, 3) := by decide +kernel
theorem dX10_isWord_57 : decode cX10_isWord 57 = .ok (.iconst 2, 1) := by decide +kernel
theorem dX10_isWord_58 : decode cX10_isWord 58 = .ok (.iadd, 1) := by decide +kernel
theorem dX10_isWord_59 : decode cX10_isWord 59 = .ok (.invokevirtual 98, 3) := by decide +kernel
theorem dX10_isWord_62 : decode cX10_isWord 62 = .ok (.iload_n 3, 1) := by decide +kernel
theorem dX10_isWord_63 : decode cX10_isWord 63 = .ok (.if_icmp .ne 27, 3) := by decide +kernel
theorem dX10_isWord_66 : decode cX10_isWord 66 = .ok (.iload 4, 2) := by decide +kernel
theorem dX10_isWord_68 : decode cX10_isWord 68 = .ok (.ifCond .eq 18, 3) := by decide +kernel
theorem dX10_isWord_71 : decode cX10_isWord 71 = .ok (.aload_n 0, 1) := by decide +kernel
theorem dX10_isWord_72 : decode cX10_isWord 72 = .ok (.aload_n 0, 1) := by decide +kernel
theorem dX10_isWord_73 : decode cX10_isWord 73 = .ok (.getfield 95, 3) := by decide +kernel
theorem dX10_isWord_76 : decode cX10_isWord 76 = .ok (.iconst 3, 1) := by decide +kernel
theorem dX10_isWord_77 : decode cX10_isWord 77 = .ok (.iadd, 1) := by decide +kernel
theorem dX10_isWord_78 : decode cX10_isWord 78 = .ok (.invokevirtual 98, 3) := by decide +kernel
theorem dX10_isWord_81 : decode cX10_isWord 81 = .ok (.iload 4, 2) := by decide +kernel
theorem dX10_isWord_83 : decode cX10_isWord 83 = .ok (.if_icmp .ne 7, 3) := by decide +kernel
theorem dX10_isWord_86 : decode cX10_isWord 86 = .ok (.iconst 1, 1) := by decide +kernel
theorem dX10_isWord_87 : decode cX10_isWord 87 = .ok (.goto 4, 3) := by decide +kernel
theorem dX10_isWord_90 : decode cX10_isWord 90 = .ok (.iconst 0, 1) := by decide +kernel
theorem dX10_isWord_91 : decode cX10_isWord 91 = .ok (.ireturn, 1) := by decide +kernel
theorem dX10_wordOf_0 : decode cX10_wordOf 0 = .ok (.aload_n 0, 1) := by decide +kernel
theorem dX10_wordOf_1 : decode cX10_wordOf 1 = .ok (.bipush 114, 2) := by decide +kernel
theorem dX10_wordOf_3 : decode cX10_wordOf 3 = .ok (.bipush 111, 2) := by decide +kernel
theorem dX10_wordOf_5 : decode cX10_wordOf 5 = .ok (.bipush 119, 2) := by decide +kernel
theorem dX10_wordOf_7 : decode cX10_wordOf 7 = .ok (.iconst 0, 1) := by decide +kernel
theorem dX10_wordOf_8 : decode cX10_wordOf 8 = .ok (.invokevirtual 102, 3) := by decide +kernel
theorem dX10_wordOf_11 : decode cX10_wordOf 11 = .ok (.ifCond .eq 5, 3) := by decide +kernel
theorem dX10_wordOf_14 : decode cX10_wordOf 14 = .ok (.iconst 1, 1) := by decide +kernel
theorem dX10_wordOf_15 : decode cX10_wordOf 15 = .ok (.ireturn, 1) := by decide +kernel
theorem dX10_wordOf_16 : decode cX10_wordOf 16 = .ok (.aload_n 0, 1) := by decide +kernel
theorem dX10_wordOf_17 : decode cX10_wordOf 17 = .ok (.bipush 119, 2) := by decide +kernel
theorem dX10_wordOf_19 : decode cX10_wordOf 19 = .ok (.bipush 97, 2) := by decide +kernel
theorem dX10_wordOf_21 : decode cX10_wordOf 21 = .ok (.bipush 121, 2) := by decide +kernel
theorem dX10_wordOf_23 : decode cX10_wordOf 23 = .ok (.iconst 0, 1) := by decide +kernel
theorem dX10_wordOf_24 : decode cX10_wordOf 24 = .ok (.invokevirtual 102, 3) := by decide +kernel
theorem dX10_wordOf_27 : decode cX10_wordOf 27 = .ok (.ifCond .eq 5, 3) := by decide +kernel
theorem dX10_wordOf_30 : decode cX10_wordOf 30 = .ok (.iconst 2, 1) := by decide +kernel
theorem dX10_wordOf_31 : decode cX10_wordOf 31 = .ok (.ireturn, 1) := by decide +kernel
theorem dX10_wordOf_32 : decode cX10_wordOf 32 = .ok (.aload_n 0, 1) := by decide +kernel
theorem dX10_wordOf_33 : decode cX10_wordOf 33 = .ok (.bipush 114, 2) := by decide +kernel
theorem dX10_wordOf_35 : decode cX10_wordOf 35 = .ok (.bipush 97, 2) := by decide +kernel
theorem dX10_wordOf_37 : decode cX10_wordOf 37 = .ok (.bipush 110, 2) := by decide +kernel
theorem dX10_wordOf_39 : decode cX10_wordOf 39 = .ok (.bipush 107, 2) := by decide +kernel
theorem dX10_wordOf_41 : decode cX10_wordOf 41 = .ok (.invokevirtual 102, 3) := by decide +kernel
theorem dX10_wordOf_44 : decode cX10_wordOf 44 = .ok (.ifCond .eq 5, 3) := by decide +kernel
theorem dX10_wordOf_47 : decode cX10_wordOf 47 = .ok (.iconst 3, 1) := by decide +kernel
theorem dX10_wordOf_48 : decode cX10_wordOf 48 = .ok (.ireturn, 1) := by decide +kernel
theorem dX10_wordOf_49 : decode cX10_wordOf 49 = .ok (.aload_n 0, 1) := by decide +kernel
theorem dX10_wordOf_50 : decode cX10_wordOf 50 = .ok (.bipush 109, 2) := by decide +kernel
theorem dX10_wordOf_52 : decode cX10_wordOf 52 = .ok (.bipush 111, 2) := by decide +kernel
theorem dX10_wordOf_54 : decode cX10_wordOf 54 = .ok (.bipush 115, 2) := by decide +kernel
theorem dX10_wordOf_56 : decode cX10_wordOf 56 = .ok (.bipush 116, 2) := by decide +kernel
theorem dX10_wordOf_58 : decode cX10_wordOf 58 = .ok (.invokevirtual 102, 3) := by decide +kernel
theorem dX10_wordOf_61 : decode cX10_wordOf 61 = .ok (.ifCond .eq 7, 3) := by decide +kernel
theorem dX10_wordOf_64 : decode cX10_wordOf 64 = .ok (.iconst 4, 1) := by decide +kernel
theorem dX10_wordOf_65 : decode cX10_wordOf 65 = .ok (.goto 24, 3) := by decide +kernel
theorem dX10_wordOf_68 : decode cX10_wordOf 68 = .ok (.aload_n 0, 1) := by decide +kernel
theorem dX10_wordOf_69 : decode cX10_wordOf 69 = .ok (.bipush 112, 2) := by decide +kernel
theorem dX10_wordOf_71 : decode cX10_wordOf 71 = .ok (.bipush 117, 2) := by decide +kernel
theorem dX10_wordOf_73 : decode cX10_wordOf 73 = .ok (.bipush 108, 2) := by decide +kernel
theorem dX10_wordOf_75 : decode cX10_wordOf 75 = .ok (.bipush 108, 2) := by decide +kernel
theorem dX10_wordOf_77 : decode cX10_wordOf 77 = .ok (.invokevirtual 102, 3) := by decide +kernel
theorem dX10_wordOf_80 : decode cX10_wordOf 80 = .ok (.ifCond .eq 7, 3) := by decide +kernel
theorem dX10_wordOf_83 : decode cX10_wordOf 83 = .ok (.iconst 5, 1) := by decide +kernel
theorem dX10_wordOf_84 : decode cX10_wordOf 84 = .ok (.goto 5, 3) := by decide +kernel
theorem dX10_wordOf_87 : decode cX10_wordOf 87 = .ok (.bipush 8, 2) := by decide +kernel
theorem dX10_wordOf_89 : decode cX10_wordOf 89 = .ok (.ireturn, 1) := by decide +kernel
theorem dX10_steps_0 : decode cX10_steps 0 = .ok (.aload_n 0, 1) := by decide +kernel
theorem dX10_steps_1 : decode cX10_steps 1 = .ok (.aload_n 0, 1) := by decide +kernel
theorem dX10_steps_2 : decode cX10_steps 2 = .ok (.getfield 92, 3) := by decide +kernel
theorem dX10_steps_5 : decode cX10_steps 5 = .ok (.putfield 95, 3) := by decide +kernel
theorem dX10_steps_8 : decode cX10_steps 8 = .ok (.aload_n 0, 1) := by decide +kernel
theorem dX10_steps_9 : decode cX10_steps 9 = .ok (.aload_n 0, 1) := by decide +kernel
theorem dX10_steps_10 : decode cX10_steps 10 = .ok (.getfield 95, 3) := by decide +kernel
theorem dX10_steps_13 : decode cX10_steps 13 = .ok (.invokevirtual 98, 3) := by decide +kernel
theorem dX10_steps_16 : decode cX10_steps 16 = .ok (.bipush 32, 2) := by decide +kernel
theorem dX10_steps_18 : decode cX10_steps 18 = .ok (.if_icmp .ne 16, 3) := by decide +kernel
theorem dX10_steps_21 : decode cX10_steps 21 = .ok (.aload_n 0, 1) := by decide +kernel
theorem dX10_steps_22 : decode cX10_steps 22 = .ok (.dup, 1) := by decide +kernel
theorem dX10_steps_23 : decode cX10_steps 23 = .ok (.getfield 95, 3) := by decide +kernel
theorem dX10_steps_26 : decode cX10_steps 26 = .ok (.iconst 1, 1) := by decide +kernel
theorem dX10_steps_27 : decode cX10_steps 27 = .ok (.iadd, 1) := by decide +kernel
theorem dX10_steps_28 : decode cX10_steps 28 = .ok (.putfield 95, 3) := by decide +kernel
theorem dX10_steps_31 : decode cX10_steps 31 = .ok (.goto (-23), 3) := by decide +kernel
theorem dX10_steps_34 : decode cX10_steps 34 = .ok (.aload_n 0, 1) := by decide +kernel
theorem dX10_steps_35 : decode cX10_steps 35 = .ok (.aload_n 0, 1) := by decide +kernel
theorem dX10_steps_36 : decode cX10_steps 36 = .ok (.getfield 95, 3) := by decide +kernel
theorem dX10_steps_39 : decode cX10_steps 39 = .ok (.putfield 92, 3) := by decide +kernel
theorem dX10_steps_42 : decode cX10_steps 42 = .ok (.aload_n 0, 1) := by decide +kernel
theorem dX10_steps_43 : decode cX10_steps 43 = .ok (.aload_n 0, 1) := by decide +kernel
theorem dX10_steps_44 : decode cX10_steps 44 = .ok (.getfield 92, 3) := by decide +kernel
theorem dX10_steps_47 : decode cX10_steps 47 = .ok (.invokevirtual 98, 3) := by decide +kernel
theorem dX10_steps_50 : decode cX10_steps 50 = .ok (.ifCond .ge 11, 3) := by decide +kernel
theorem dX10_steps_53 : decode cX10_steps 53 = .ok (.aload_n 0, 1) := by decide +kernel
theorem dX10_steps_54 : decode cX10_steps 54 = .ok (.iconst 0, 1) := by decide +kernel
theorem dX10_steps_55 : decode cX10_steps 55 = .ok (.putfield 106, 3) := by decide +kernel
theorem dX10_steps_58 : decode cX10_steps 58 = .ok (.goto 155, 3) := by decide +kernel
theorem dX10_steps_61 : decode cX10_steps 61 = .ok (.aload_n 0, 1) := by decide +kernel
theorem dX10_steps_62 : decode cX10_steps 62 = .ok (.aload_n 0, 1) := by decide +kernel
theorem dX10_steps_63 : decode cX10_steps 63 = .ok (.getfield 92, 3) := by decide +kernel
theorem dX10_steps_66 : decode cX10_steps 66 = .ok (.invokevirtual 98, 3) := by decide +kernel
theorem dX10_steps_69 : decode cX10_steps 69 = .ok (.bipush 48, 2) := by decide +kernel
theorem dX10_steps_71 : decode cX10_steps 71 = .ok (.bipush 57, 2) := by decide +kernel
theorem dX10_steps_73 : decode cX10_steps 73 = .ok (.invokestatic 85, 3) := by decide +kernel
theorem dX10_steps_76 : decode cX10_steps 76 = .ok (.ifCond .eq 43, 3) := by decide +kernel
theorem dX10_steps_79 : decode cX10_steps 79 = .ok (.aload_n 0, 1) := by decide +kernel
theorem dX10_steps_80 : decode cX10_steps 80 = .ok (.aload_n 0, 1) := by decide +kernel
theorem dX10_steps_81 : decode cX10_steps 81 = .ok (.getfield 92, 3) := by decide +kernel
theorem dX10_steps_84 : decode cX10_steps 84 = .ok (.invokevirtual 98, 3) := by decide +kernel
theorem dX10_steps_87 : decode cX10_steps 87 = .ok (.bipush 48, 2) := by decide +kernel
theorem dX10_steps_89 : decode cX10_steps 89 = .ok (.bipush 57, 2) := by decide +kernel
theorem dX10_steps_91 : decode cX10_steps 91 = .ok (.invokestatic 85, 3) := by decide +kernel
theorem dX10_steps_94 : decode cX10_steps 94 = .ok (.ifCond .eq 16, 3) := by decide +kernel
theorem dX10_steps_97 : decode cX10_steps 97 = .ok (.aload_n 0, 1) := by decide +kernel
theorem dX10_steps_98 : decode cX10_steps 98 = .ok (.dup, 1) := by decide +kernel
theorem dX10_steps_99 : decode cX10_steps 99 = .ok (.getfield 92, 3) := by decide +kernel
theorem dX10_steps_102 : decode cX10_steps 102 = .ok (.iconst 1, 1) := by decide +kernel
theorem dX10_steps_103 : decode cX10_steps 103 = .ok (.iadd, 1) := by decide +kernel
theorem dX10_steps_104 : decode cX10_steps 104 = .ok (.putfield 92, 3) := by decide +kernel
theorem dX10_steps_107 : decode cX10_steps 107 = .ok (.goto (-28), 3) := by decide +kernel
theorem dX10_steps_110 : decode cX10_steps 110 = .ok (.aload_n 0, 1) := by decide +kernel
theorem dX10_steps_111 : decode cX10_steps 111 = .ok (.bipush 6, 2) := by decide +kernel
theorem dX10_steps_113 : decode cX10_steps 113 = .ok (.putfield 106, 3) := by decide +kernel
theorem dX10_steps_116 : decode cX10_steps 116 = .ok (.goto 97, 3) := by decide +kernel
theorem dX10_steps_119 : decode cX10_steps 119 = .ok (.aload_n 0, 1) := by decide +kernel
theorem dX10_steps_120 : decode cX10_steps 120 = .ok (.aload_n 0, 1) := by decide +kernel
theorem dX10_steps_121 : decode cX10_steps 121 = .ok (.getfield 92, 3) := by decide +kernel
theorem dX10_steps_124 : decode cX10_steps 124 = .ok (.invokevirtual 98, 3) := by decide +kernel
theorem dX10_steps_127 : decode cX10_steps 127 = .ok (.bipush 97, 2) := by decide +kernel
theorem dX10_steps_129 : decode cX10_steps 129 = .ok (.bipush 122, 2) := by decide +kernel
theorem dX10_steps_131 : decode cX10_steps 131 = .ok (.invokestatic 85, 3) := by decide +kernel
theorem dX10_steps_134 : decode cX10_steps 134 = .ok (.ifCond .eq 45, 3) := by decide +kernel
theorem dX10_steps_137 : decode cX10_steps 137 = .ok (.aload_n 0, 1) := by decide +kernel
theorem dX10_steps_138 : decode cX10_steps 138 = .ok (.aload_n 0, 1) := by decide +kernel
theorem dX10_steps_139 : decode cX10_steps 139 = .ok (.getfield 92, 3) := by decide +kernel
theorem dX10_steps_142 : decode cX10_steps 142 = .ok (.invokevirtual 98, 3) := by decide +kernel
theorem dX10_steps_145 : decode cX10_steps 145 = .ok (.bipush 97, 2) := by decide +kernel
theorem dX10_steps_147 : decode cX10_steps 147 = .ok (.bipush 122, 2) := by decide +kernel
theorem dX10_steps_149 : decode cX10_steps 149 = .ok (.invokestatic 85, 3) := by decide +kernel
theorem dX10_steps_152 : decode cX10_steps 152 = .ok (.ifCond .eq 16, 3) := by decide +kernel
theorem dX10_steps_155 : decode cX10_steps 155 = .ok (.aload_n 0, 1) := by decide +kernel
theorem dX10_steps_156 : decode cX10_steps 156 = .ok (.dup, 1) := by decide +kernel
theorem dX10_steps_157 : decode cX10_steps 157 = .ok (.getfield 92, 3) := by decide +kernel
theorem dX10_steps_160 : decode cX10_steps 160 = .ok (.iconst 1, 1) := by decide +kernel
theorem dX10_steps_161 : decode cX10_steps 161 = .ok (.iadd, 1) := by decide +kernel
theorem dX10_steps_162 : decode cX10_steps 162 = .ok (.putfield 92, 3) := by decide +kernel
theorem dX10_steps_165 : decode cX10_steps 165 = .ok (.goto (-28), 3) := by decide +kernel
theorem dX10_steps_168 : decode cX10_steps 168 = .ok (.aload_n 0, 1) := by decide +kernel
theorem dX10_steps_169 : decode cX10_steps 169 = .ok (.aload_n 0, 1) := by decide +kernel
theorem dX10_steps_170 : decode cX10_steps 170 = .ok (.invokevirtual 109, 3) := by decide +kernel
theorem dX10_steps_173 : decode cX10_steps 173 = .ok (.putfield 106, 3) := by decide +kernel
theorem dX10_steps_176 : decode cX10_steps 176 = .ok (.goto 37, 3) := by decide +kernel
theorem dX10_steps_179 : decode cX10_steps 179 = .ok (.aload_n 0, 1) := by decide +kernel
theorem dX10_steps_180 : decode cX10_steps 180 = .ok (.aload_n 0, 1) := by decide +kernel
theorem dX10_steps_181 : decode cX10_steps 181 = .ok (.aload_n 0, 1) := by decide +kernel
theorem dX10_steps_182 : decode cX10_steps 182 = .ok (.getfield 92, 3) := by decide +kernel
theorem dX10_steps_185 : decode cX10_steps 185 = .ok (.invokevirtual 98, 3) := by decide +kernel
theorem dX10_steps_188 : decode cX10_steps 188 = .ok (.bipush 59, 2) := by decide +kernel
theorem dX10_steps_190 : decode cX10_steps 190 = .ok (.if_icmp .ne 8, 3) := by decide +kernel
theorem dX10_steps_193 : decode cX10_steps 193 = .ok (.bipush 7, 2) := by decide +kernel
theorem dX10_steps_195 : decode cX10_steps 195 = .ok (.goto 5, 3) := by decide +kernel
theorem dX10_steps_198 : decode cX10_steps 198 = .ok (.bipush 8, 2) := by decide +kernel
theorem dX10_steps_200 : decode cX10_steps 200 = .ok (.putfield 106, 3) := by decide +kernel
theorem dX10_steps_203 : decode cX10_steps 203 = .ok (.aload_n 0, 1) := by decide +kernel
theorem dX10_steps_204 : decode cX10_steps 204 = .ok (.dup, 1) := by decide +kernel
theorem dX10_steps_205 : decode cX10_steps 205 = .ok (.getfield 92, 3) := by decide +kernel
theorem dX10_steps_208 : decode cX10_steps 208 = .ok (.iconst 1, 1) := by decide +kernel
theorem dX10_steps_209 : decode cX10_steps 209 = .ok (.iadd, 1) := by decide +kernel
theorem dX10_steps_210 : decode cX10_steps 210 = .ok (.putfield 92, 3) := by decide +kernel
theorem dX10_steps_213 : decode cX10_steps 213 = .ok (.return_, 1) := by decide +kernel
theorem dX10_takes_0 : decode cX10_takes 0 = .ok (.aload_n 0, 1) := by decide +kernel
theorem dX10_takes_1 : decode cX10_takes 1 = .ok (.getfield 113, 3) := by decide +kernel
theorem dX10_takes_4 : decode cX10_takes 4 = .ok (.bipush (-9), 2) := by decide +kernel
theorem dX10_takes_6 : decode cX10_takes 6 = .ok (.if_icmp .ne 22, 3) := by decide +kernel
theorem dX10_takes_9 : decode cX10_takes 9 = .ok (.iload_n 1, 1) := by decide +kernel
theorem dX10_takes_10 : decode cX10_takes 10 = .ok (.ifCond .eq 10, 3) := by decide +kernel
theorem dX10_takes_13 : decode cX10_takes 13 = .ok (.aload_n 0, 1) := by decide +kernel
theorem dX10_takes_14 : decode cX10_takes 14 = .ok (.invokevirtual 116, 3) := by decide +kernel
theorem dX10_takes_17 : decode cX10_takes 17 = .ok (.goto 11, 3) := by decide +kernel
theorem dX10_takes_20 : decode cX10_takes 20 = .ok (.aload_n 0, 1) := by decide +kernel
theorem dX10_takes_21 : decode cX10_takes 21 = .ok (.aload_n 0, 1) := by decide +kernel
theorem dX10_takes_22 : decode cX10_takes 22 = .ok (.getfield 95, 3) := by decide +kernel
theorem dX10_takes_25 : decode cX10_takes 25 = .ok (.putfield 113, 3) := by decide +kernel
theorem dX10_takes_28 : decode cX10_takes 28 = .ok (.return_, 1) := by decide +kernel
theorem dX10_readsRow_0 : decode cX10_readsRow 0 = .ok (.aload_n 0, 1) := by decide +kernel
theorem dX10_readsRow_1 : decode cX10_readsRow 1 = .ok (.aload_n 0, 1) := by decide +kernel
theorem dX10_readsRow_2 : decode cX10_readsRow 2 = .ok (.getfield 13, 3) := by decide +kernel
theorem dX10_readsRow_5 : decode cX10_readsRow 5 = .ok (.iconst 1, 1) := by decide +kernel
theorem dX10_readsRow_6 : decode cX10_readsRow 6 = .ok (.iaload, 1) := by decide +kernel
theorem dX10_readsRow_7 : decode cX10_readsRow 7 = .ok (.bipush 6, 2) := by decide +kernel
theorem dX10_readsRow_9 : decode cX10_readsRow 9 = .ok (.if_icmp .ge 7, 3) := by decide +kernel
theorem dX10_readsRow_12 : decode cX10_readsRow 12 = .ok (.iconst 1, 1) := by decide +kernel
theorem dX10_readsRow_13 : decode cX10_readsRow 13 = .ok (.goto 4, 3) := by decide +kernel
theorem dX10_readsRow_16 : decode cX10_readsRow 16 = .ok (.iconst 0, 1) := by decide +kernel
theorem dX10_readsRow_17 : decode cX10_readsRow 17 = .ok (.invokevirtual 119, 3) := by decide +kernel
theorem dX10_readsRow_20 : decode cX10_readsRow 20 = .ok (.aload_n 0, 1) := by decide +kernel
theorem dX10_readsRow_21 : decode cX10_readsRow 21 = .ok (.getfield 92, 3) := by decide +kernel
theorem dX10_readsRow_24 : decode cX10_readsRow 24 = .ok (.aload_n 0, 1) := by decide +kernel
theorem dX10_readsRow_25 : decode cX10_readsRow 25 = .ok (.getfield 95, 3) := by decide +kernel
theorem dX10_readsRow_28 : decode cX10_readsRow 28 = .ok (.isub, 1) := by decide +kernel
theorem dX10_readsRow_29 : decode cX10_readsRow 29 = .ok (.istore_n 1, 1) := by decide +kernel
theorem dX10_readsRow_30 : decode cX10_readsRow 30 = .ok (.aload_n 0, 1) := by decide +kernel
theorem dX10_readsRow_31 : decode cX10_readsRow 31 = .ok (.getfield 106, 3) := by decide +kernel
theorem dX10_readsRow_34 : decode cX10_readsRow 34 = .ok (.bipush 6, 2) := by decide +kernel
theorem dX10_readsRow_36 : decode cX10_readsRow 36 = .ok (.if_icmp .ne 36, 3) := by decide +kernel
theorem dX10_readsRow_39 : decode cX10_readsRow 39 = .ok (.iload_n 1, 1) := by decide +kernel
theorem dX10_readsRow_40 : decode cX10_readsRow 40 = .ok (.iconst 1, 1) := by decide +kernel
theorem dX10_readsRow_41 : decode cX10_readsRow 41 = .ok (.bipush 8, 2) := by decide +kernel
theorem dX10_readsRow_43 : decode cX10_readsRow 43 = .ok (.invokestatic 85, 3) := by decide +kernel
theorem dX10_readsRow_46 : decode cX10_readsRow 46 = .ok (.ifCond .eq 26, 3) := by decide +kernel
theorem dX10_readsRow_49 : decode cX10_readsRow 49 = .ok (.aload_n 0, 1) := by decide +kernel
theorem dX10_readsRow_50 : decode cX10_readsRow 50 = .ok (.getfield 13, 3) := by decide +kernel
theorem dX10_readsRow_53 : decode cX10_readsRow 53 = .ok (.iconst 1, 1) := by decide +kernel
theorem dX10_readsRow_54 : decode cX10_readsRow 54 = .ok (.iaload, 1) := by decide +kernel
theorem dX10_readsRow_55 : decode cX10_readsRow 55 = .ok (.ifCond .eq 13, 3) := by decide +kernel
theorem dX10_readsRow_58 : decode cX10_readsRow 58 = .ok (.iload_n 1, 1) := by decide +kernel
theorem dX10_readsRow_59 : decode cX10_readsRow 59 = .ok (.aload_n 0, 1) := by decide +kernel
theorem dX10_readsRow_60 : decode cX10_readsRow 60 = .ok (.getfield 13, 3) := by decide +kernel
theorem dX10_readsRow_63 : decode cX10_readsRow 63 = .ok (.iconst 0, 1) := by decide +kernel
theorem dX10_readsRow_64 : decode cX10_readsRow 64 = .ok (.iaload, 1) := by decide +kernel
theorem dX10_readsRow_65 : decode cX10_readsRow 65 = .ok (.if_icmp .ne 7, 3) := by decide +kernel
theorem dX10_readsRow_68 : decode cX10_readsRow 68 = .ok (.iconst 1, 1) := by decide +kernel
theorem dX10_readsRow_69 : decode cX10_readsRow 69 = .ok (.goto 4, 3) := by decide +kernel
theorem dX10_readsRow_72 : decode cX10_readsRow 72 = .ok (.iconst 0, 1) := by decide +kernel
theorem dX10_readsRow_73 : decode cX10_readsRow 73 = .ok (.istore_n 2, 1) := by decide +kernel
theorem dX10_readsRow_74 : decode cX10_readsRow 74 = .ok (.aload_n 0, 1) := by decide +kernel
theorem dX10_readsRow_75 : decode cX10_readsRow 75 = .ok (.getfield 95, 3) := by decide +kernel
theorem dX10_readsRow_78 : decode cX10_readsRow 78 = .ok (.istore_n 3, 1) := by decide +kernel
theorem dX10_readsRow_79 : decode cX10_readsRow 79 = .ok (.iload_n 3, 1) := by decide +kernel
theorem dX10_readsRow_80 : decode cX10_readsRow 80 = .ok (.aload_n 0, 1) := by decide +kernel
theorem dX10_readsRow_81 : decode cX10_readsRow 81 = .ok (.getfield 92, 3) := by decide +kernel
theorem dX10_readsRow_84 : decode cX10_readsRow 84 = .ok (.if_icmp .ge 29, 3) := by decide +kernel
theorem dX10_readsRow_87 : decode cX10_readsRow 87 = .ok (.iload_n 2, 1) := by decide +kernel
theorem dX10_readsRow_88 : decode cX10_readsRow 88 = .ok (.ifCond .eq 25, 3) := by decide +kernel
theorem dX10_readsRow_91 : decode cX10_readsRow 91 = .ok (.aload_n 0, 1) := by decide +kernel
theorem dX10_readsRow_92 : decode cX10_readsRow 92 = .ok (.iload_n 3, 1) := by decide +kernel
theorem dX10_readsRow_93 : decode cX10_readsRow 93 = .ok (.invokevirtual 98, 3) := by decide +kernel
theorem dX10_readsRow_96 : decode cX10_readsRow 96 = .ok (.bipush 51, 2) := by decide +kernel
theorem dX10_readsRow_98 : decode cX10_readsRow 98 = .ok (.if_icmp .gt 7, 3) := by decide +kernel
theorem dX10_readsRow_101 : decode cX10_readsRow 101 = .ok (.iconst 1, 1) := by decide +kernel
theorem dX10_readsRow_102 : decode cX10_readsRow 102 = .ok (.goto 4, 3) := by decide +kernel
theorem dX10_readsRow_105 : decode cX10_readsRow 105 = .ok (.iconst 0, 1) := by decide +kernel
theorem dX10_readsRow_106 : decode cX10_readsRow 106 = .ok (.istore_n 2, 1) := by decide +kernel
theorem dX10_readsRow_107 : decode cX10_readsRow 107 = .ok (.iinc 3 1, 3) := by decide +kernel
theorem dX10_readsRow_110 : decode cX10_readsRow 110 = .ok (.goto (-31), 3) := by decide +kernel
theorem dX10_readsRow_113 : decode cX10_readsRow 113 = .ok (.aload_n 0, 1) := by decide +kernel
theorem dX10_readsRow_114 : decode cX10_readsRow 114 = .ok (.getfield 113, 3) := by decide +kernel
theorem dX10_readsRow_117 : decode cX10_readsRow 117 = .ok (.bipush (-9), 2) := by decide +kernel
theorem dX10_readsRow_119 : decode cX10_readsRow 119 = .ok (.if_icmp .ne 68, 3) := by decide +kernel
theorem dX10_readsRow_122 : decode cX10_readsRow 122 = .ok (.iload_n 2, 1) := by decide +kernel
theorem dX10_readsRow_123 : decode cX10_readsRow 123 = .ok (.ifCond .eq 64, 3) := by decide +kernel
theorem dX10_readsRow_126 : decode cX10_readsRow 126 = .ok (.aload_n 0, 1) := by decide +kernel
theorem dX10_readsRow_127 : decode cX10_readsRow 127 = .ok (.getfield 13, 3) := by decide +kernel
theorem dX10_readsRow_130 : decode cX10_readsRow 130 = .ok (.iconst 0, 1) := by decide +kernel
theorem dX10_readsRow_131 : decode cX10_readsRow 131 = .ok (.iload_n 1, 1) := by decide +kernel
theorem dX10_readsRow_132 : decode cX10_readsRow 132 = .ok (.iastore, 1) := by decide +kernel
theorem dX10_readsRow_133 : decode cX10_readsRow 133 = .ok (.iconst 0, 1) := by decide +kernel
theorem dX10_readsRow_134 : decode cX10_readsRow 134 = .ok (.istore_n 3, 1) := by decide +kernel
theorem dX10_readsRow_135 : decode cX10_readsRow 135 = .ok (.iload_n 3, 1) := by decide +kernel
theorem dX10_readsRow_136 : decode cX10_readsRow 136 = .ok (.iload_n 1, 1) := by decide +kernel
theorem dX10_readsRow_137 : decode cX10_readsRow 137 = .ok (.if_icmp .ge 40, 3) := by decide +kernel
theorem dX10_readsRow_140 : decode cX10_readsRow 140 = .ok (.aload_n 0, 1) := by decide +kernel
theorem dX10_readsRow_141 : decode cX10_readsRow 141 = .ok (.getfield 13, 3) := by decide +kernel
theorem dX10_readsRow_144 : decode cX10_readsRow 144 = .ok (.bipush 12, 2) := by decide +kernel
theorem dX10_readsRow_146 : decode cX10_readsRow 146 = .ok (.iload_n 1, 1) := by decide +kernel
theorem dX10_readsRow_147 : decode cX10_readsRow 147 = .ok (.aload_n 0, 1) := by decide +kernel
theorem dX10_readsRow_148 : decode cX10_readsRow 148 = .ok (.getfield 13, 3) := by decide +kernel
theorem dX10_readsRow_151 : decode cX10_readsRow 151 = .ok (.iconst 1, 1) := by decide +kernel
theorem dX10_readsRow_152 : decode cX10_readsRow 152 = .ok (.iaload, 1) := by decide +kernel
theorem dX10_readsRow_153 : decode cX10_readsRow 153 = .ok (.imul, 1) := by decide +kernel
theorem dX10_readsRow_154 : decode cX10_readsRow 154 = .ok (.iadd, 1) := by decide +kernel
theorem dX10_readsRow_155 : decode cX10_readsRow 155 = .ok (.iload_n 3, 1) := by decide +kernel
theorem dX10_readsRow_156 : decode cX10_readsRow 156 = .ok (.iadd, 1) := by decide +kernel
theorem dX10_readsRow_157 : decode cX10_readsRow 157 = .ok (.aload_n 0, 1) := by decide +kernel
theorem dX10_readsRow_158 : decode cX10_readsRow 158 = .ok (.aload_n 0, 1) := by decide +kernel
theorem dX10_readsRow_159 : decode cX10_readsRow 159 = .ok (.getfield 95, 3) := by decide +kernel
theorem dX10_readsRow_162 : decode cX10_readsRow 162 = .ok (.iload_n 3, 1) := by decide +kernel
theorem dX10_readsRow_163 : decode cX10_readsRow 163 = .ok (.iadd, 1) := by decide +kernel
theorem dX10_readsRow_164 : decode cX10_readsRow 164 = .ok (.invokevirtual 98, 3) := by decide +kernel
theorem dX10_readsRow_167 : decode cX10_readsRow 167 = .ok (.bipush 48, 2) := by decide +kernel
theorem dX10_readsRow_169 : decode cX10_readsRow 169 = .ok (.isub, 1) := by decide +kernel
theorem dX10_readsRow_170 : decode cX10_readsRow 170 = .ok (.iastore, 1) := by decide +kernel
theorem dX10_readsRow_171 : decode cX10_readsRow 171 = .ok (.iinc 3 1, 3) := by decide +kernel
theorem dX10_readsRow_174 : decode cX10_readsRow 174 = .ok (.goto (-39), 3) := by decide +kernel
theorem dX10_readsRow_177 : decode cX10_readsRow 177 = .ok (.aload_n 0, 1) := by decide +kernel
theorem dX10_readsRow_178 : decode cX10_readsRow 178 = .ok (.getfield 13, 3) := by decide +kernel
theorem dX10_readsRow_181 : decode cX10_readsRow 181 = .ok (.iconst 1, 1) := by decide +kernel
theorem dX10_readsRow_182 : decode cX10_readsRow 182 = .ok (.dup2, 1) := by decide +kernel
theorem dX10_readsRow_183 : decode cX10_readsRow 183 = .ok (.iaload, 1) := by decide +kernel
theorem dX10_readsRow_184 : decode cX10_readsRow 184 = .ok (.iconst 1, 1) := by decide +kernel
theorem dX10_readsRow_185 : decode cX10_readsRow 185 = .ok (.iadd, 1) := by decide +kernel
theorem dX10_readsRow_186 : decode cX10_readsRow 186 = .ok (.iastore, 1) := by decide +kernel
theorem dX10_readsRow_187 : decode cX10_readsRow 187 = .ok (.aload_n 0, 1) := by decide +kernel
theorem dX10_readsRow_188 : decode cX10_readsRow 188 = .ok (.iload_n 2, 1) := by decide +kernel
theorem dX10_readsRow_189 : decode cX10_readsRow 189 = .ok (.invokevirtual 119, 3) := by decide +kernel
theorem dX10_readsRow_192 : decode cX10_readsRow 192 = .ok (.return_, 1) := by decide +kernel
theorem dX10_figure_0 : decode cX10_figure 0 = .ok (.aload_n 0, 1) := by decide +kernel
theorem dX10_figure_1 : decode cX10_figure 1 = .ok (.aload_n 0, 1) := by decide +kernel
theorem dX10_figure_2 : decode cX10_figure 2 = .ok (.getfield 95, 3) := by decide +kernel
theorem dX10_figure_5 : decode cX10_figure 5 = .ok (.invokevirtual 98, 3) := by decide +kernel
theorem dX10_figure_8 : decode cX10_figure 8 = .ok (.bipush 48, 2) := by decide +kernel
theorem dX10_figure_10 : decode cX10_figure 10 = .ok (.isub, 1) := by decide +kernel
theorem dX10_figure_11 : decode cX10_figure 11 = .ok (.istore_n 3, 1) := by decide +kernel
theorem dX10_figure_12 : decode cX10_figure 12 = .ok (.aload_n 0, 1) := by decide +kernel
theorem dX10_figure_13 : decode cX10_figure 13 = .ok (.aload_n 0, 1) := by decide +kernel
theorem dX10_figure_14 : decode cX10_figure 14 = .ok (.getfield 106, 3) := by decide +kernel
theorem dX10_figure_17 : decode cX10_figure 17 = .ok (.bipush 6, 2) := by decide +kernel
theorem dX10_figure_19 : decode cX10_figure 19 = .ok (.if_icmp .ne 29, 3) := by decide +kernel
theorem dX10_figure_22 : decode cX10_figure 22 = .ok (.aload_n 0, 1) := by decide +kernel
theorem dX10_figure_23 : decode cX10_figure 23 = .ok (.getfield 92, 3) := by decide +kernel
theorem dX10_figure_26 : decode cX10_figure 26 = .ok (.aload_n 0, 1) := by decide +kernel
theorem dX10_figure_27 : decode cX10_figure 27 = .ok (.getfield 95, 3) := by decide +kernel
theorem dX10_figure_30 : decode cX10_figure 30 = .ok (.isub, 1) := by decide +kernel
theorem dX10_figure_31 : decode cX10_figure 31 = .ok (.iconst 1, 1) := by decide +kernel
theorem dX10_figure_32 : decode cX10_figure 32 = .ok (.if_icmp .ne 16, 3) := by decide +kernel
theorem dX10_figure_35 : decode cX10_figure 35 = .ok (.iload_n 3, 1) := by decide +kernel
theorem dX10_figure_36 : decode cX10_figure 36 = .ok (.iload_n 1, 1) := by decide +kernel
theorem dX10_figure_37 : decode cX10_figure 37 = .ok (.iload_n 2, 1) := by decide +kernel
theorem dX10_figure_38 : decode cX10_figure 38 = .ok (.invokestatic 85, 3) := by decide +kernel
theorem dX10_figure_41 : decode cX10_figure 41 = .ok (.ifCond .eq 7, 3) := by decide +kernel
theorem dX10_figure_44 : decode cX10_figure 44 = .ok (.iconst 1, 1) := by decide +kernel
theorem dX10_figure_45 : decode cX10_figure 45 = .ok (.goto 4, 3) := by decide +kernel
theorem dX10_figure_48 : decode cX10_figure 48 = .ok (.iconst 0, 1) := by decide +kernel
theorem dX10_figure_49 : decode cX10_figure 49 = .ok (.invokevirtual 119, 3) := by decide +kernel
theorem dX10_figure_52 : decode cX10_figure 52 = .ok (.iload_n 3, 1) := by decide +kernel
theorem dX10_figure_53 : decode cX10_figure 53 = .ok (.ireturn, 1) := by decide +kernel
theorem dX10_readsOf_0 : decode cX10_readsOf 0 = .ok (.aload_n 0, 1) := by decide +kernel
theorem dX10_readsOf_1 : decode cX10_readsOf 1 = .ok (.iconst 1, 1) := by decide +kernel
theorem dX10_readsOf_2 : decode cX10_readsOf 2 = .ok (.invokevirtual 119, 3) := by decide +kernel
theorem dX10_readsOf_5 : decode cX10_readsOf 5 = .ok (.aload_n 0, 1) := by decide +kernel
theorem dX10_readsOf_6 : decode cX10_readsOf 6 = .ok (.iconst 1, 1) := by decide +kernel
theorem dX10_readsOf_7 : decode cX10_readsOf 7 = .ok (.iconst 3, 1) := by decide +kernel
theorem dX10_readsOf_8 : decode cX10_readsOf 8 = .ok (.invokevirtual 123, 3) := by decide +kernel
theorem dX10_readsOf_11 : decode cX10_readsOf 11 = .ok (.istore_n 3, 1) := by decide +kernel
theorem dX10_readsOf_12 : decode cX10_readsOf 12 = .ok (.aload_n 0, 1) := by decide +kernel
theorem dX10_readsOf_13 : decode cX10_readsOf 13 = .ok (.iconst 0, 1) := by decide +kernel
theorem dX10_readsOf_14 : decode cX10_readsOf 14 = .ok (.iload_n 2, 1) := by decide +kernel
theorem dX10_readsOf_15 : decode cX10_readsOf 15 = .ok (.invokevirtual 123, 3) := by decide +kernel
theorem dX10_readsOf_18 : decode cX10_readsOf 18 = .ok (.istore 4, 2) := by decide +kernel
theorem dX10_readsOf_20 : decode cX10_readsOf 20 = .ok (.aload_n 0, 1) := by decide +kernel
theorem dX10_readsOf_21 : decode cX10_readsOf 21 = .ok (.getfield 113, 3) := by decide +kernel
theorem dX10_readsOf_24 : decode cX10_readsOf 24 = .ok (.bipush (-9), 2) := by decide +kernel
theorem dX10_readsOf_26 : decode cX10_readsOf 26 = .ok (.if_icmp .ne 13, 3) := by decide +kernel
theorem dX10_readsOf_29 : decode cX10_readsOf 29 = .ok (.aload_n 0, 1) := by decide +kernel
theorem dX10_readsOf_30 : decode cX10_readsOf 30 = .ok (.getfield 13, 3) := by decide +kernel
theorem dX10_readsOf_33 : decode cX10_readsOf 33 = .ok (.iload_n 1, 1) := by decide +kernel
theorem dX10_readsOf_34 : decode cX10_readsOf 34 = .ok (.iload_n 3, 1) := by decide +kernel
theorem dX10_readsOf_35 : decode cX10_readsOf 35 = .ok (.iadd, 1) := by decide +kernel
theorem dX10_readsOf_36 : decode cX10_readsOf 36 = .ok (.iload 4, 2) := by decide +kernel
theorem dX10_readsOf_38 : decode cX10_readsOf 38 = .ok (.iastore, 1) := by decide +kernel
theorem dX10_readsOf_39 : decode cX10_readsOf 39 = .ok (.return_, 1) := by decide +kernel
theorem dX10_readsOne_0 : decode cX10_readsOne 0 = .ok (.aload_n 0, 1) := by decide +kernel
theorem dX10_readsOne_1 : decode cX10_readsOne 1 = .ok (.iconst 1, 1) := by decide +kernel
theorem dX10_readsOne_2 : decode cX10_readsOne 2 = .ok (.invokevirtual 119, 3) := by decide +kernel
theorem dX10_readsOne_5 : decode cX10_readsOne 5 = .ok (.aload_n 0, 1) := by decide +kernel
theorem dX10_readsOne_6 : decode cX10_readsOne 6 = .ok (.iload_n 2, 1) := by decide +kernel
theorem dX10_readsOne_7 : decode cX10_readsOne 7 = .ok (.iload_n 3, 1) := by decide +kernel
theorem dX10_readsOne_8 : decode cX10_readsOne 8 = .ok (.invokevirtual 123, 3) := by decide +kernel
theorem dX10_readsOne_11 : decode cX10_readsOne 11 = .ok (.istore 4, 2) := by decide +kernel
theorem dX10_readsOne_13 : decode cX10_readsOne 13 = .ok (.aload_n 0, 1) := by decide +kernel
theorem dX10_readsOne_14 : decode cX10_readsOne 14 = .ok (.getfield 13, 3) := by decide +kernel
theorem dX10_readsOne_17 : decode cX10_readsOne 17 = .ok (.iload_n 1, 1) := by decide +kernel
theorem dX10_readsOne_18 : decode cX10_readsOne 18 = .ok (.aload_n 0, 1) := by decide +kernel
theorem dX10_readsOne_19 : decode cX10_readsOne 19 = .ok (.getfield 113, 3) := by decide +kernel
theorem dX10_readsOne_22 : decode cX10_readsOne 22 = .ok (.bipush (-9), 2) := by decide +kernel
theorem dX10_readsOne_24 : decode cX10_readsOne 24 = .ok (.if_icmp .ne 8, 3) := by decide +kernel
theorem dX10_readsOne_27 : decode cX10_readsOne 27 = .ok (.iload 4, 2) := by decide +kernel
theorem dX10_readsOne_29 : decode cX10_readsOne 29 = .ok (.goto 4, 3) := by decide +kernel
theorem dX10_readsOne_32 : decode cX10_readsOne 32 = .ok (.iconst 0, 1) := by decide +kernel
theorem dX10_readsOne_33 : decode cX10_readsOne 33 = .ok (.iastore, 1) := by decide +kernel
theorem dX10_readsOne_34 : decode cX10_readsOne 34 = .ok (.return_, 1) := by decide +kernel
theorem dX10_reads_0 : decode cX10_reads 0 = .ok (.iconst 0, 1) := by decide +kernel
theorem dX10_reads_1 : decode cX10_reads 1 = .ok (.istore_n 1, 1) := by decide +kernel
theorem dX10_reads_2 : decode cX10_reads 2 = .ok (.iload_n 1, 1) := by decide +kernel
theorem dX10_reads_3 : decode cX10_reads 3 = .ok (.bipush 60, 2) := by decide +kernel
theorem dX10_reads_5 : decode cX10_reads 5 = .ok (.if_icmp .ge 16, 3) := by decide +kernel
theorem dX10_reads_8 : decode cX10_reads 8 = .ok (.aload_n 0, 1) := by decide +kernel
theorem dX10_reads_9 : decode cX10_reads 9 = .ok (.getfield 13, 3) := by decide +kernel
theorem dX10_reads_12 : decode cX10_reads 12 = .ok (.iload_n 1, 1) := by decide +kernel
theorem dX10_reads_13 : decode cX10_reads 13 = .ok (.iconst 0, 1) := by decide +kernel
theorem dX10_reads_14 : decode cX10_reads 14 = .ok (.iastore, 1) := by decide +kernel
theorem dX10_reads_15 : decode cX10_reads 15 = .ok (.iinc 1 1, 3) := by decide +kernel
theorem dX10_reads_18 : decode cX10_reads 18 = .ok (.goto (-16), 3) := by decide +kernel
theorem dX10_reads_21 : decode cX10_reads 21 = .ok (.aload_n 0, 1) := by decide +kernel
theorem dX10_reads_22 : decode cX10_reads 22 = .ok (.getfield 13, 3) := by decide +kernel
theorem dX10_reads_25 : decode cX10_reads 25 = .ok (.iconst 2, 1) := by decide +kernel
theorem dX10_reads_26 : decode cX10_reads 26 = .ok (.iconst 3, 1) := by decide +kernel
theorem dX10_reads_27 : decode cX10_reads 27 = .ok (.iastore, 1) := by decide +kernel
theorem dX10_reads_28 : decode cX10_reads 28 = .ok (.aload_n 0, 1) := by decide +kernel
theorem dX10_reads_29 : decode cX10_reads 29 = .ok (.bipush (-9), 2) := by decide +kernel
theorem dX10_reads_31 : decode cX10_reads 31 = .ok (.putfield 113, 3) := by decide +kernel
theorem dX10_reads_34 : decode cX10_reads 34 = .ok (.aload_n 0, 1) := by decide +kernel
theorem dX10_reads_35 : decode cX10_reads 35 = .ok (.iconst 0, 1) := by decide +kernel
theorem dX10_reads_36 : decode cX10_reads 36 = .ok (.putfield 92, 3) := by decide +kernel
theorem dX10_reads_39 : decode cX10_reads 39 = .ok (.aload_n 0, 1) := by decide +kernel
theorem dX10_reads_40 : decode cX10_reads 40 = .ok (.invokevirtual 116, 3) := by decide +kernel
theorem dX10_reads_43 : decode cX10_reads 43 = .ok (.iconst 0, 1) := by decide +kernel
theorem dX10_reads_44 : decode cX10_reads 44 = .ok (.istore_n 1, 1) := by decide +kernel
theorem dX10_reads_45 : decode cX10_reads 45 = .ok (.aload_n 0, 1) := by decide +kernel
theorem dX10_reads_46 : decode cX10_reads 46 = .ok (.getfield 113, 3) := by decide +kernel
theorem dX10_reads_49 : decode cX10_reads 49 = .ok (.bipush (-9), 2) := by decide +kernel
theorem dX10_reads_51 : decode cX10_reads 51 = .ok (.if_icmp .ne 125, 3) := by decide +kernel
theorem dX10_reads_54 : decode cX10_reads 54 = .ok (.aload_n 0, 1) := by decide +kernel
theorem dX10_reads_55 : decode cX10_reads 55 = .ok (.getfield 106, 3) := by decide +kernel
theorem dX10_reads_58 : decode cX10_reads 58 = .ok (.ifCond .eq 118, 3) := by decide +kernel
theorem dX10_reads_61 : decode cX10_reads 61 = .ok (.aload_n 0, 1) := by decide +kernel
theorem dX10_reads_62 : decode cX10_reads 62 = .ok (.getfield 106, 3) := by decide +kernel
theorem dX10_reads_65 : decode cX10_reads 65 = .ok (.tableswitch 82 1 5 #[35, 42, 51, 62, 72], 35) := by decide +kernel
theorem dX10_reads_100 : decode cX10_reads 100 = .ok (.aload_n 0, 1) := by decide +kernel
theorem dX10_reads_101 : decode cX10_reads 101 = .ok (.invokevirtual 127, 3) := by decide +kernel
theorem dX10_reads_104 : decode cX10_reads 104 = .ok (.goto 48, 3) := by decide +kernel
theorem dX10_reads_107 : decode cX10_reads 107 = .ok (.aload_n 0, 1) := by decide +kernel
theorem dX10_reads_108 : decode cX10_reads 108 = .ok (.iconst 4, 1) := by decide +kernel
theorem dX10_reads_109 : decode cX10_reads 109 = .ok (.iconst 1, 1) := by decide +kernel
theorem dX10_reads_110 : decode cX10_reads 110 = .ok (.invokevirtual 130, 3) := by decide +kernel
theorem dX10_reads_113 : decode cX10_reads 113 = .ok (.goto 39, 3) := by decide +kernel
theorem dX10_reads_116 : decode cX10_reads 116 = .ok (.aload_n 0, 1) := by decide +kernel
theorem dX10_reads_117 : decode cX10_reads 117 = .ok (.bipush 8, 2) := by decide +kernel
theorem dX10_reads_119 : decode cX10_reads 119 = .ok (.bipush 9, 2) := by decide +kernel
theorem dX10_reads_121 : decode cX10_reads 121 = .ok (.invokevirtual 130, 3) := by decide +kernel
theorem dX10_reads_124 : decode cX10_reads 124 = .ok (.goto 28, 3) := by decide +kernel
theorem dX10_reads_127 : decode cX10_reads 127 = .ok (.aload_n 0, 1) := by decide +kernel
theorem dX10_reads_128 : decode cX10_reads 128 = .ok (.iconst 2, 1) := by decide +kernel
theorem dX10_reads_129 : decode cX10_reads 129 = .ok (.iconst 1, 1) := by decide +kernel
theorem dX10_reads_130 : decode cX10_reads 130 = .ok (.iconst 5, 1) := by decide +kernel
theorem dX10_reads_131 : decode cX10_reads 131 = .ok (.invokevirtual 134, 3) := by decide +kernel
theorem dX10_reads_134 : decode cX10_reads 134 = .ok (.goto 18, 3) := by decide +kernel
theorem dX10_reads_137 : decode cX10_reads 137 = .ok (.aload_n 0, 1) := by decide +kernel
theorem dX10_reads_138 : decode cX10_reads 138 = .ok (.iconst 3, 1) := by decide +kernel
theorem dX10_reads_139 : decode cX10_reads 139 = .ok (.iconst 0, 1) := by decide +kernel
theorem dX10_reads_140 : decode cX10_reads 140 = .ok (.iconst 2, 1) := by decide +kernel
theorem dX10_reads_141 : decode cX10_reads 141 = .ok (.invokevirtual 134, 3) := by decide +kernel
theorem dX10_reads_144 : decode cX10_reads 144 = .ok (.goto 8, 3) := by decide +kernel
theorem dX10_reads_147 : decode cX10_reads 147 = .ok (.aload_n 0, 1) := by decide +kernel
theorem dX10_reads_148 : decode cX10_reads 148 = .ok (.iconst 0, 1) := by decide +kernel
theorem dX10_reads_149 : decode cX10_reads 149 = .ok (.invokevirtual 119, 3) := by decide +kernel
theorem dX10_reads_152 : decode cX10_reads 152 = .ok (.aload_n 0, 1) := by decide +kernel
theorem dX10_reads_153 : decode cX10_reads 153 = .ok (.aload_n 0, 1) := by decide +kernel
theorem dX10_reads_154 : decode cX10_reads 154 = .ok (.getfield 106, 3) := by decide +kernel
theorem dX10_reads_157 : decode cX10_reads 157 = .ok (.bipush 7, 2) := by decide +kernel
theorem dX10_reads_159 : decode cX10_reads 159 = .ok (.if_icmp .ne 7, 3) := by decide +kernel
theorem dX10_reads_162 : decode cX10_reads 162 = .ok (.iconst 1, 1) := by decide +kernel
theorem dX10_reads_163 : decode cX10_reads 163 = .ok (.goto 4, 3) := by decide +kernel
theorem dX10_reads_166 : decode cX10_reads 166 = .ok (.iconst 0, 1) := by decide +kernel
theorem dX10_reads_167 : decode cX10_reads 167 = .ok (.invokevirtual 119, 3) := by decide +kernel
theorem dX10_reads_170 : decode cX10_reads 170 = .ok (.iinc 1 1, 3) := by decide +kernel
theorem dX10_reads_173 : decode cX10_reads 173 = .ok (.goto (-128), 3) := by decide +kernel
theorem dX10_reads_176 : decode cX10_reads 176 = .ok (.aload_n 0, 1) := by decide +kernel
theorem dX10_reads_177 : decode cX10_reads 177 = .ok (.aload_n 0, 1) := by decide +kernel
theorem dX10_reads_178 : decode cX10_reads 178 = .ok (.getfield 13, 3) := by decide +kernel
theorem dX10_reads_181 : decode cX10_reads 181 = .ok (.iconst 1, 1) := by decide +kernel
theorem dX10_reads_182 : decode cX10_reads 182 = .ok (.iaload, 1) := by decide +kernel
theorem dX10_reads_183 : decode cX10_reads 183 = .ok (.ifCond .le 7, 3) := by decide +kernel
theorem dX10_reads_186 : decode cX10_reads 186 = .ok (.iconst 1, 1) := by decide +kernel
theorem dX10_reads_187 : decode cX10_reads 187 = .ok (.goto 4, 3) := by decide +kernel
theorem dX10_reads_190 : decode cX10_reads 190 = .ok (.iconst 0, 1) := by decide +kernel
theorem dX10_reads_191 : decode cX10_reads 191 = .ok (.invokevirtual 119, 3) := by decide +kernel
theorem dX10_reads_194 : decode cX10_reads 194 = .ok (.iload_n 1, 1) := by decide +kernel
theorem dX10_reads_195 : decode cX10_reads 195 = .ok (.ireturn, 1) := by decide +kernel
theorem dX10_tells_0 : decode cX10_tells 0 = .ok (.aload_n 0, 1) := by decide +kernel
theorem dX10_tells_1 : decode cX10_tells 1 = .ok (.iconst 0, 1) := by decide +kernel
theorem dX10_tells_2 : decode cX10_tells 2 = .ok (.putfield 81, 3) := by decide +kernel
theorem dX10_tells_5 : decode cX10_tells 5 = .ok (.aload_n 0, 1) := by decide +kernel
theorem dX10_tells_6 : decode cX10_tells 6 = .ok (.invokevirtual 138, 3) := by decide +kernel
theorem dX10_tells_9 : decode cX10_tells 9 = .ok (.istore_n 1, 1) := by decide +kernel
theorem dX10_tells_10 : decode cX10_tells 10 = .ok (.aload_n 0, 1) := by decide +kernel
theorem dX10_tells_11 : decode cX10_tells 11 = .ok (.getfield 113, 3) := by decide +kernel
theorem dX10_tells_14 : decode cX10_tells 14 = .ok (.bipush (-9), 2) := by decide +kernel
theorem dX10_tells_16 : decode cX10_tells 16 = .ok (.if_icmp .eq 11, 3) := by decide +kernel
theorem dX10_tells_19 : decode cX10_tells 19 = .ok (.bipush (-10), 2) := by decide +kernel
theorem dX10_tells_21 : decode cX10_tells 21 = .ok (.aload_n 0, 1) := by decide +kernel
theorem dX10_tells_22 : decode cX10_tells 22 = .ok (.getfield 113, 3) := by decide +kernel
theorem dX10_tells_25 : decode cX10_tells 25 = .ok (.isub, 1) := by decide +kernel
theorem dX10_tells_26 : decode cX10_tells 26 = .ok (.ireturn, 1) := by decide +kernel
theorem dX10_tells_27 : decode cX10_tells 27 = .ok (.aload_n 0, 1) := by decide +kernel
theorem dX10_tells_28 : decode cX10_tells 28 = .ok (.invokevirtual 141, 3) := by decide +kernel
theorem dX10_tells_31 : decode cX10_tells 31 = .ok (.iconst 0, 1) := by decide +kernel
theorem dX10_tells_32 : decode cX10_tells 32 = .ok (.istore_n 2, 1) := by decide +kernel
theorem dX10_tells_33 : decode cX10_tells 33 = .ok (.iload_n 2, 1) := by decide +kernel
theorem dX10_tells_34 : decode cX10_tells 34 = .ok (.bipush 60, 2) := by decide +kernel
theorem dX10_tells_36 : decode cX10_tells 36 = .ok (.if_icmp .ge 21, 3) := by decide +kernel
theorem dX10_tells_39 : decode cX10_tells 39 = .ok (.aload_n 0, 1) := by decide +kernel
theorem dX10_tells_40 : decode cX10_tells 40 = .ok (.getfield 7, 3) := by decide +kernel
theorem dX10_tells_43 : decode cX10_tells 43 = .ok (.iload_n 2, 1) := by decide +kernel
theorem dX10_tells_44 : decode cX10_tells 44 = .ok (.aload_n 0, 1) := by decide +kernel
theorem dX10_tells_45 : decode cX10_tells 45 = .ok (.getfield 13, 3) := by decide +kernel
theorem dX10_tells_48 : decode cX10_tells 48 = .ok (.iload_n 2, 1) := by decide +kernel
theorem dX10_tells_49 : decode cX10_tells 49 = .ok (.iaload, 1) := by decide +kernel
theorem dX10_tells_50 : decode cX10_tells 50 = .ok (.iastore, 1) := by decide +kernel
theorem dX10_tells_51 : decode cX10_tells 51 = .ok (.iinc 2 1, 3) := by decide +kernel
theorem dX10_tells_54 : decode cX10_tells 54 = .ok (.goto (-21), 3) := by decide +kernel
theorem dX10_tells_57 : decode cX10_tells 57 = .ok (.aload_n 0, 1) := by decide +kernel
theorem dX10_tells_58 : decode cX10_tells 58 = .ok (.iconst 0, 1) := by decide +kernel
theorem dX10_tells_59 : decode cX10_tells 59 = .ok (.putfield 89, 3) := by decide +kernel
theorem dX10_tells_62 : decode cX10_tells 62 = .ok (.iload_n 1, 1) := by decide +kernel
theorem dX10_tells_63 : decode cX10_tells 63 = .ok (.ireturn, 1) := by decide +kernel
theorem dX10_notes_0 : decode cX10_notes 0 = .ok (.aload_n 0, 1) := by decide +kernel
theorem dX10_notes_1 : decode cX10_notes 1 = .ok (.getfield 144, 3) := by decide +kernel
theorem dX10_notes_4 : decode cX10_notes 4 = .ok (.bipush 6, 2) := by decide +kernel
theorem dX10_notes_6 : decode cX10_notes 6 = .ok (.if_icmp .ne 43, 3) := by decide +kernel
theorem dX10_notes_9 : decode cX10_notes 9 = .ok (.iconst 0, 1) := by decide +kernel
theorem dX10_notes_10 : decode cX10_notes 10 = .ok (.istore_n 1, 1) := by decide +kernel
theorem dX10_notes_11 : decode cX10_notes 11 = .ok (.iload_n 1, 1) := by decide +kernel
theorem dX10_notes_12 : decode cX10_notes 12 = .ok (.sipush 300, 3) := by decide +kernel
theorem dX10_notes_15 : decode cX10_notes 15 = .ok (.if_icmp .ge 24, 3) := by decide +kernel
theorem dX10_notes_18 : decode cX10_notes 18 = .ok (.aload_n 0, 1) := by decide +kernel
theorem dX10_notes_19 : decode cX10_notes 19 = .ok (.getfield 16, 3) := by decide +kernel
theorem dX10_notes_22 : decode cX10_notes 22 = .ok (.iload_n 1, 1) := by decide +kernel
theorem dX10_notes_23 : decode cX10_notes 23 = .ok (.aload_n 0, 1) := by decide +kernel
theorem dX10_notes_24 : decode cX10_notes 24 = .ok (.getfield 16, 3) := by decide +kernel
theorem dX10_notes_27 : decode cX10_notes 27 = .ok (.iload_n 1, 1) := by decide +kernel
theorem dX10_notes_28 : decode cX10_notes 28 = .ok (.bipush 60, 2) := by decide +kernel
theorem dX10_notes_30 : decode cX10_notes 30 = .ok (.iadd, 1) := by decide +kernel
theorem dX10_notes_31 : decode cX10_notes 31 = .ok (.iaload, 1) := by decide +kernel
theorem dX10_notes_32 : decode cX10_notes 32 = .ok (.iastore, 1) := by decide +kernel
theorem dX10_notes_33 : decode cX10_notes 33 = .ok (.iinc 1 1, 3) := by decide +kernel
theorem dX10_notes_36 : decode cX10_notes 36 = .ok (.goto (-25), 3) := by decide +kernel
theorem dX10_notes_39 : decode cX10_notes 39 = .ok (.aload_n 0, 1) := by decide +kernel
theorem dX10_notes_40 : decode cX10_notes 40 = .ok (.dup, 1) := by decide +kernel
theorem dX10_notes_41 : decode cX10_notes 41 = .ok (.getfield 144, 3) := by decide +kernel
theorem dX10_notes_44 : decode cX10_notes 44 = .ok (.iconst 1, 1) := by decide +kernel
theorem dX10_notes_45 : decode cX10_notes 45 = .ok (.isub, 1) := by decide +kernel
theorem dX10_notes_46 : decode cX10_notes 46 = .ok (.putfield 144, 3) := by decide +kernel
theorem dX10_notes_49 : decode cX10_notes 49 = .ok (.iconst 0, 1) := by decide +kernel
theorem dX10_notes_50 : decode cX10_notes 50 = .ok (.istore_n 1, 1) := by decide +kernel
theorem dX10_notes_51 : decode cX10_notes 51 = .ok (.iload_n 1, 1) := by decide +kernel
theorem dX10_notes_52 : decode cX10_notes 52 = .ok (.bipush 60, 2) := by decide +kernel
theorem dX10_notes_54 : decode cX10_notes 54 = .ok (.if_icmp .ge 29, 3) := by decide +kernel
theorem dX10_notes_57 : decode cX10_notes 57 = .ok (.aload_n 0, 1) := by decide +kernel
theorem dX10_notes_58 : decode cX10_notes 58 = .ok (.getfield 16, 3) := by decide +kernel
theorem dX10_notes_61 : decode cX10_notes 61 = .ok (.bipush 60, 2) := by decide +kernel
theorem dX10_notes_63 : decode cX10_notes 63 = .ok (.aload_n 0, 1) := by decide +kernel
theorem dX10_notes_64 : decode cX10_notes 64 = .ok (.getfield 144, 3) := by decide +kernel
theorem dX10_notes_67 : decode cX10_notes 67 = .ok (.imul, 1) := by decide +kernel
theorem dX10_notes_68 : decode cX10_notes 68 = .ok (.iload_n 1, 1) := by decide +kernel
theorem dX10_notes_69 : decode cX10_notes 69 = .ok (.iadd, 1) := by decide +kernel
theorem dX10_notes_70 : decode cX10_notes 70 = .ok (.aload_n 0, 1) := by decide +kernel
theorem dX10_notes_71 : decode cX10_notes 71 = .ok (.getfield 7, 3) := by decide +kernel
theorem dX10_notes_74 : decode cX10_notes 74 = .ok (.iload_n 1, 1) := by decide +kernel
theorem dX10_notes_75 : decode cX10_notes 75 = .ok (.iaload, 1) := by decide +kernel
theorem dX10_notes_76 : decode cX10_notes 76 = .ok (.iastore, 1) := by decide +kernel
theorem dX10_notes_77 : decode cX10_notes 77 = .ok (.iinc 1 1, 3) := by decide +kernel
theorem dX10_notes_80 : decode cX10_notes 80 = .ok (.goto (-29), 3) := by decide +kernel
theorem dX10_notes_83 : decode cX10_notes 83 = .ok (.aload_n 0, 1) := by decide +kernel
theorem dX10_notes_84 : decode cX10_notes 84 = .ok (.dup, 1) := by decide +kernel
theorem dX10_notes_85 : decode cX10_notes 85 = .ok (.getfield 144, 3) := by decide +kernel
theorem dX10_notes_88 : decode cX10_notes 88 = .ok (.iconst 1, 1) := by decide +kernel
theorem dX10_notes_89 : decode cX10_notes 89 = .ok (.iadd, 1) := by decide +kernel
theorem dX10_notes_90 : decode cX10_notes 90 = .ok (.putfield 144, 3) := by decide +kernel
theorem dX10_notes_93 : decode cX10_notes 93 = .ok (.return_, 1) := by decide +kernel
theorem dX10_cells_0 : decode cX10_cells 0 = .ok (.aload_n 0, 1) := by decide +kernel
theorem dX10_cells_1 : decode cX10_cells 1 = .ok (.getfield 7, 3) := by decide +kernel
theorem dX10_cells_4 : decode cX10_cells 4 = .ok (.iconst 0, 1) := by decide +kernel
theorem dX10_cells_5 : decode cX10_cells 5 = .ok (.iaload, 1) := by decide +kernel
theorem dX10_cells_6 : decode cX10_cells 6 = .ok (.aload_n 0, 1) := by decide +kernel
theorem dX10_cells_7 : decode cX10_cells 7 = .ok (.getfield 7, 3) := by decide +kernel
theorem dX10_cells_10 : decode cX10_cells 10 = .ok (.iconst 1, 1) := by decide +kernel
theorem dX10_cells_11 : decode cX10_cells 11 = .ok (.iaload, 1) := by decide +kernel
theorem dX10_cells_12 : decode cX10_cells 12 = .ok (.imul, 1) := by decide +kernel
theorem dX10_cells_13 : decode cX10_cells 13 = .ok (.ireturn, 1) := by decide +kernel
theorem dX10_isCell_0 : decode cX10_isCell 0 = .ok (.iload_n 1, 1) := by decide +kernel
theorem dX10_isCell_1 : decode cX10_isCell 1 = .ok (.iconst 0, 1) := by decide +kernel
theorem dX10_isCell_2 : decode cX10_isCell 2 = .ok (.aload_n 0, 1) := by decide +kernel
theorem dX10_isCell_3 : decode cX10_isCell 3 = .ok (.getfield 7, 3) := by decide +kernel
theorem dX10_isCell_6 : decode cX10_isCell 6 = .ok (.iconst 0, 1) := by decide +kernel
theorem dX10_isCell_7 : decode cX10_isCell 7 = .ok (.iaload, 1) := by decide +kernel
theorem dX10_isCell_8 : decode cX10_isCell 8 = .ok (.iconst 1, 1) := by decide +kernel
theorem dX10_isCell_9 : decode cX10_isCell 9 = .ok (.isub, 1) := by decide +kernel
theorem dX10_isCell_10 : decode cX10_isCell 10 = .ok (.invokestatic 85, 3) := by decide +kernel
theorem dX10_isCell_13 : decode cX10_isCell 13 = .ok (.ifCond .eq 23, 3) := by decide +kernel
theorem dX10_isCell_16 : decode cX10_isCell 16 = .ok (.iload_n 2, 1) := by decide +kernel
theorem dX10_isCell_17 : decode cX10_isCell 17 = .ok (.iconst 0, 1) := by decide +kernel
theorem dX10_isCell_18 : decode cX10_isCell 18 = .ok (.aload_n 0, 1) := by decide +kernel
theorem dX10_isCell_19 : decode cX10_isCell 19 = .ok (.getfield 7, 3) := by decide +kernel
theorem dX10_isCell_22 : decode cX10_isCell 22 = .ok (.iconst 1, 1) := by decide +kernel
theorem dX10_isCell_23 : decode cX10_isCell 23 = .ok (.iaload, 1) := by decide +kernel
theorem dX10_isCell_24 : decode cX10_isCell 24 = .ok (.iconst 1, 1) := by decide +kernel
theorem dX10_isCell_25 : decode cX10_isCell 25 = .ok (.isub, 1) := by decide +kernel
theorem dX10_isCell_26 : decode cX10_isCell 26 = .ok (.invokestatic 85, 3) := by decide +kernel
theorem dX10_isCell_29 : decode cX10_isCell 29 = .ok (.ifCond .eq 7, 3) := by decide +kernel
theorem dX10_isCell_32 : decode cX10_isCell 32 = .ok (.iconst 1, 1) := by decide +kernel
theorem dX10_isCell_33 : decode cX10_isCell 33 = .ok (.goto 4, 3) := by decide +kernel
theorem dX10_isCell_36 : decode cX10_isCell 36 = .ok (.iconst 0, 1) := by decide +kernel
theorem dX10_isCell_37 : decode cX10_isCell 37 = .ok (.ireturn, 1) := by decide +kernel
theorem dX10_paints_0 : decode cX10_paints 0 = .ok (.aload_n 0, 1) := by decide +kernel
theorem dX10_paints_1 : decode cX10_paints 1 = .ok (.iconst 0, 1) := by decide +kernel
theorem dX10_paints_2 : decode cX10_paints 2 = .ok (.putfield 81, 3) := by decide +kernel
theorem dX10_paints_5 : decode cX10_paints 5 = .ok (.aload_n 0, 1) := by decide +kernel
theorem dX10_paints_6 : decode cX10_paints 6 = .ok (.iload_n 1, 1) := by decide +kernel
theorem dX10_paints_7 : decode cX10_paints 7 = .ok (.iload_n 2, 1) := by decide +kernel
theorem dX10_paints_8 : decode cX10_paints 8 = .ok (.invokevirtual 147, 3) := by decide +kernel
theorem dX10_paints_11 : decode cX10_paints 11 = .ok (.ifCond .eq 34, 3) := by decide +kernel
theorem dX10_paints_14 : decode cX10_paints 14 = .ok (.aload_n 0, 1) := by decide +kernel
theorem dX10_paints_15 : decode cX10_paints 15 = .ok (.iload_n 3, 1) := by decide +kernel
theorem dX10_paints_16 : decode cX10_paints 16 = .ok (.iload 4, 2) := by decide +kernel
theorem dX10_paints_18 : decode cX10_paints 18 = .ok (.invokevirtual 147, 3) := by decide +kernel
theorem dX10_paints_21 : decode cX10_paints 21 = .ok (.ifCond .eq 24, 3) := by decide +kernel
theorem dX10_paints_24 : decode cX10_paints 24 = .ok (.iload_n 3, 1) := by decide +kernel
theorem dX10_paints_25 : decode cX10_paints 25 = .ok (.iload_n 1, 1) := by decide +kernel
theorem dX10_paints_26 : decode cX10_paints 26 = .ok (.if_icmp .lt 19, 3) := by decide +kernel
theorem dX10_paints_29 : decode cX10_paints 29 = .ok (.iload 4, 2) := by decide +kernel
theorem dX10_paints_31 : decode cX10_paints 31 = .ok (.iload_n 2, 1) := by decide +kernel
theorem dX10_paints_32 : decode cX10_paints 32 = .ok (.if_icmp .lt 13, 3) := by decide +kernel
theorem dX10_paints_35 : decode cX10_paints 35 = .ok (.iload 5, 2) := by decide +kernel
theorem dX10_paints_37 : decode cX10_paints 37 = .ok (.iconst 0, 1) := by decide +kernel
theorem dX10_paints_38 : decode cX10_paints 38 = .ok (.iconst 3, 1) := by decide +kernel
theorem dX10_paints_39 : decode cX10_paints 39 = .ok (.invokestatic 85, 3) := by decide +kernel
theorem dX10_paints_42 : decode cX10_paints 42 = .ok (.ifCond .ne 5, 3) := by decide +kernel
theorem dX10_paints_45 : decode cX10_paints 45 = .ok (.iconst (-1), 1) := by decide +kernel
theorem dX10_paints_46 : decode cX10_paints 46 = .ok (.ireturn, 1) := by decide +kernel
theorem dX10_paints_47 : decode cX10_paints 47 = .ok (.iconst 0, 1) := by decide +kernel
theorem dX10_paints_48 : decode cX10_paints 48 = .ok (.istore 6, 2) := by decide +kernel
theorem dX10_paints_50 : decode cX10_paints 50 = .ok (.iconst 0, 1) := by decide +kernel
theorem dX10_paints_51 : decode cX10_paints 51 = .ok (.istore 7, 2) := by decide +kernel
theorem dX10_paints_53 : decode cX10_paints 53 = .ok (.iload 7, 2) := by decide +kernel
theorem dX10_paints_55 : decode cX10_paints 55 = .ok (.aload_n 0, 1) := by decide +kernel
theorem dX10_paints_56 : decode cX10_paints 56 = .ok (.invokevirtual 151, 3) := by decide +kernel
theorem dX10_paints_59 : decode cX10_paints 59 = .ok (.if_icmp .ge 69, 3) := by decide +kernel
theorem dX10_paints_62 : decode cX10_paints 62 = .ok (.iload 6, 2) := by decide +kernel
theorem dX10_paints_64 : decode cX10_paints 64 = .ok (.iload 7, 2) := by decide +kernel
theorem dX10_paints_66 : decode cX10_paints 66 = .ok (.aload_n 0, 1) := by decide +kernel
theorem dX10_paints_67 : decode cX10_paints 67 = .ok (.getfield 7, 3) := by decide +kernel
theorem dX10_paints_70 : decode cX10_paints 70 = .ok (.iconst 0, 1) := by decide +kernel
theorem dX10_paints_71 : decode cX10_paints 71 = .ok (.iaload, 1) := by decide +kernel
theorem dX10_paints_72 : decode cX10_paints 72 = .ok (.irem, 1) := by decide +kernel
theorem dX10_paints_73 : decode cX10_paints 73 = .ok (.iload_n 1, 1) := by decide +kernel
theorem dX10_paints_74 : decode cX10_paints 74 = .ok (.iload_n 3, 1) := by decide +kernel
theorem dX10_paints_75 : decode cX10_paints 75 = .ok (.invokestatic 85, 3) := by decide +kernel
theorem dX10_paints_78 : decode cX10_paints 78 = .ok (.ifCond .eq 40, 3) := by decide +kernel
theorem dX10_paints_81 : decode cX10_paints 81 = .ok (.iload 7, 2) := by decide +kernel
theorem dX10_paints_83 : decode cX10_paints 83 = .ok (.aload_n 0, 1) := by decide +kernel
theorem dX10_paints_84 : decode cX10_paints 84 = .ok (.getfield 7, 3) := by decide +kernel
theorem dX10_paints_87 : decode cX10_paints 87 = .ok (.iconst 0, 1) := by decide +kernel
theorem dX10_paints_88 : decode cX10_paints 88 = .ok (.iaload, 1) := by decide +kernel
theorem dX10_paints_89 : decode cX10_paints 89 = .ok (.idiv, 1) := by decide +kernel
theorem dX10_paints_90 : decode cX10_paints 90 = .ok (.iload_n 2, 1) := by decide +kernel
theorem dX10_paints_91 : decode cX10_paints 91 = .ok (.iload 4, 2) := by decide +kernel
theorem dX10_paints_93 : decode cX10_paints 93 = .ok (.invokestatic 85, 3) := by decide +kernel
theorem dX10_paints_96 : decode cX10_paints 96 = .ok (.ifCond .eq 22, 3) := by decide +kernel
theorem dX10_paints_99 : decode cX10_paints 99 = .ok (.aload_n 0, 1) := by decide +kernel
theorem dX10_paints_100 : decode cX10_paints 100 = .ok (.getfield 7, 3) := by decide +kernel
theorem dX10_paints_103 : decode cX10_paints 103 = .ok (.bipush 12, 2) := by decide +kernel
theorem dX10_paints_105 : decode cX10_paints 105 = .ok (.iload 7, 2) := by decide +kernel
theorem dX10_paints_107 : decode cX10_paints 107 = .ok (.iadd, 1) := by decide +kernel
theorem dX10_paints_108 : decode cX10_paints 108 = .ok (.iaload, 1) := by decide +kernel
theorem dX10_paints_109 : decode cX10_paints 109 = .ok (.iload 5, 2) := by decide +kernel
theorem dX10_paints_111 : decode cX10_paints 111 = .ok (.if_icmp .eq 7, 3) := by decide +kernel
theorem dX10_paints_114 : decode cX10_paints 114 = .ok (.iconst 1, 1) := by decide +kernel
theorem dX10_paints_115 : decode cX10_paints 115 = .ok (.goto 4, 3) := by decide +kernel
theorem dX10_paints_118 : decode cX10_paints 118 = .ok (.iconst 0, 1) := by decide +kernel
theorem dX10_paints_119 : decode cX10_paints 119 = .ok (.iadd, 1) := by decide +kernel
theorem dX10_paints_120 : decode cX10_paints 120 = .ok (.istore 6, 2) := by decide +kernel
theorem dX10_paints_122 : decode cX10_paints 122 = .ok (.iinc 7 1, 3) := by decide +kernel
theorem dX10_paints_125 : decode cX10_paints 125 = .ok (.goto (-72), 3) := by decide +kernel
theorem dX10_paints_128 : decode cX10_paints 128 = .ok (.iload 6, 2) := by decide +kernel
theorem dX10_paints_130 : decode cX10_paints 130 = .ok (.ifCond .ne 6, 3) := by decide +kernel
theorem dX10_paints_133 : decode cX10_paints 133 = .ok (.bipush (-2), 2) := by decide +kernel
theorem dX10_paints_135 : decode cX10_paints 135 = .ok (.ireturn, 1) := by decide +kernel
theorem dX10_paints_136 : decode cX10_paints 136 = .ok (.aload_n 0, 1) := by decide +kernel
theorem dX10_paints_137 : decode cX10_paints 137 = .ok (.invokevirtual 141, 3) := by decide +kernel
theorem dX10_paints_140 : decode cX10_paints 140 = .ok (.iconst 0, 1) := by decide +kernel
theorem dX10_paints_141 : decode cX10_paints 141 = .ok (.istore 7, 2) := by decide +kernel
theorem dX10_paints_143 : decode cX10_paints 143 = .ok (.iload 7, 2) := by decide +kernel
theorem dX10_paints_145 : decode cX10_paints 145 = .ok (.aload_n 0, 1) := by decide +kernel
theorem dX10_paints_146 : decode cX10_paints 146 = .ok (.invokevirtual 151, 3) := by decide +kernel
theorem dX10_paints_149 : decode cX10_paints 149 = .ok (.if_icmp .ge 56, 3) := by decide +kernel
theorem dX10_paints_152 : decode cX10_paints 152 = .ok (.iload 7, 2) := by decide +kernel
theorem dX10_paints_154 : decode cX10_paints 154 = .ok (.aload_n 0, 1) := by decide +kernel
theorem dX10_paints_155 : decode cX10_paints 155 = .ok (.getfield 7, 3) := by decide +kernel
theorem dX10_paints_158 : decode cX10_paints 158 = .ok (.iconst 0, 1) := by decide +kernel
theorem dX10_paints_159 : decode cX10_paints 159 = .ok (.iaload, 1) := by decide +kernel
theorem dX10_paints_160 : decode cX10_paints 160 = .ok (.irem, 1) := by decide +kernel
theorem dX10_paints_161 : decode cX10_paints 161 = .ok (.iload_n 1, 1) := by decide +kernel
theorem dX10_paints_162 : decode cX10_paints 162 = .ok (.iload_n 3, 1) := by decide +kernel
theorem dX10_paints_163 : decode cX10_paints 163 = .ok (.invokestatic 85, 3) := by decide +kernel
theorem dX10_paints_166 : decode cX10_paints 166 = .ok (.ifCond .eq 33, 3) := by decide +kernel
theorem dX10_paints_169 : decode cX10_paints 169 = .ok (.iload 7, 2) := by decide +kernel
theorem dX10_paints_171 : decode cX10_paints 171 = .ok (.aload_n 0, 1) := by decide +kernel
theorem dX10_paints_172 : decode cX10_paints 172 = .ok (.getfield 7, 3) := by decide +kernel
theorem dX10_paints_175 : decode cX10_paints 175 = .ok (.iconst 0, 1) := by decide +kernel
theorem dX10_paints_176 : decode cX10_paints 176 = .ok (.iaload, 1) := by decide +kernel
theorem dX10_paints_177 : decode cX10_paints 177 = .ok (.idiv, 1) := by decide +kernel
theorem dX10_paints_178 : decode cX10_paints 178 = .ok (.iload_n 2, 1) := by decide +kernel
theorem dX10_paints_179 : decode cX10_paints 179 = .ok (.iload 4, 2) := by decide +kernel
theorem dX10_paints_181 : decode cX10_paints 181 = .ok (.invokestatic 85, 3) := by decide +kernel
theorem dX10_paints_184 : decode cX10_paints 184 = .ok (.ifCond .eq 15, 3) := by decide +kernel
theorem dX10_paints_187 : decode cX10_paints 187 = .ok (.aload_n 0, 1) := by decide +kernel
theorem dX10_paints_188 : decode cX10_paints 188 = .ok (.getfield 7, 3) := by decide +kernel
theorem dX10_paints_191 : decode cX10_paints 191 = .ok (.bipush 12, 2) := by decide +kernel
theorem dX10_paints_193 : decode cX10_paints 193 = .ok (.iload 7, 2) := by decide +kernel
theorem dX10_paints_195 : decode cX10_paints 195 = .ok (.iadd, 1) := by decide +kernel
theorem dX10_paints_196 : decode cX10_paints 196 = .ok (.iload 5, 2) := by decide +kernel
theorem dX10_paints_198 : decode cX10_paints 198 = .ok (.iastore, 1) := by decide +kernel
theorem dX10_paints_199 : decode cX10_paints 199 = .ok (.iinc 7 1, 3) := by decide +kernel
theorem dX10_paints_202 : decode cX10_paints 202 = .ok (.goto (-59), 3) := by decide +kernel
theorem dX10_paints_205 : decode cX10_paints 205 = .ok (.iload 6, 2) := by decide +kernel
theorem dX10_paints_207 : decode cX10_paints 207 = .ok (.ireturn, 1) := by decide +kernel
theorem dX10_becomes_0 : decode cX10_becomes 0 = .ok (.aload_n 0, 1) := by decide +kernel
theorem dX10_becomes_1 : decode cX10_becomes 1 = .ok (.getfield 7, 3) := by decide +kernel
theorem dX10_becomes_4 : decode cX10_becomes 4 = .ok (.iload_n 1, 1) := by decide +kernel
theorem dX10_becomes_5 : decode cX10_becomes 5 = .ok (.iaload, 1) := by decide +kernel
theorem dX10_becomes_6 : decode cX10_becomes 6 = .ok (.istore_n 3, 1) := by decide +kernel
theorem dX10_becomes_7 : decode cX10_becomes 7 = .ok (.iload_n 3, 1) := by decide +kernel
theorem dX10_becomes_8 : decode cX10_becomes 8 = .ok (.iload_n 2, 1) := by decide +kernel
theorem dX10_becomes_9 : decode cX10_becomes 9 = .ok (.if_icmp .ne 6, 3) := by decide +kernel
theorem dX10_becomes_12 : decode cX10_becomes 12 = .ok (.bipush (-2), 2) := by decide +kernel
theorem dX10_becomes_14 : decode cX10_becomes 14 = .ok (.ireturn, 1) := by decide +kernel
theorem dX10_becomes_15 : decode cX10_becomes 15 = .ok (.aload_n 0, 1) := by decide +kernel
theorem dX10_becomes_16 : decode cX10_becomes 16 = .ok (.invokevirtual 141, 3) := by decide +kernel
theorem dX10_becomes_19 : decode cX10_becomes 19 = .ok (.aload_n 0, 1) := by decide +kernel
theorem dX10_becomes_20 : decode cX10_becomes 20 = .ok (.getfield 7, 3) := by decide +kernel
theorem dX10_becomes_23 : decode cX10_becomes 23 = .ok (.iload_n 1, 1) := by decide +kernel
theorem dX10_becomes_24 : decode cX10_becomes 24 = .ok (.iload_n 2, 1) := by decide +kernel
theorem dX10_becomes_25 : decode cX10_becomes 25 = .ok (.iastore, 1) := by decide +kernel
theorem dX10_becomes_26 : decode cX10_becomes 26 = .ok (.iload_n 3, 1) := by decide +kernel
theorem dX10_becomes_27 : decode cX10_becomes 27 = .ok (.ireturn, 1) := by decide +kernel
theorem dX10_ways_0 : decode cX10_ways 0 = .ok (.aload_n 0, 1) := by decide +kernel
theorem dX10_ways_1 : decode cX10_ways 1 = .ok (.iconst 0, 1) := by decide +kernel
theorem dX10_ways_2 : decode cX10_ways 2 = .ok (.putfield 81, 3) := by decide +kernel
theorem dX10_ways_5 : decode cX10_ways 5 = .ok (.iload_n 1, 1) := by decide +kernel
theorem dX10_ways_6 : decode cX10_ways 6 = .ok (.iconst 1, 1) := by decide +kernel
theorem dX10_ways_7 : decode cX10_ways 7 = .ok (.iconst 3, 1) := by decide +kernel
theorem dX10_ways_8 : decode cX10_ways 8 = .ok (.invokestatic 85, 3) := by decide +kernel
theorem dX10_ways_11 : decode cX10_ways 11 = .ok (.ifCond .eq 23, 3) := by decide +kernel
theorem dX10_ways_14 : decode cX10_ways 14 = .ok (.iload_n 2, 1) := by decide +kernel
theorem dX10_ways_15 : decode cX10_ways 15 = .ok (.iconst 0, 1) := by decide +kernel
theorem dX10_ways_16 : decode cX10_ways 16 = .ok (.iconst 1, 1) := by decide +kernel
theorem dX10_ways_17 : decode cX10_ways 17 = .ok (.invokestatic 85, 3) := by decide +kernel
theorem dX10_ways_20 : decode cX10_ways 20 = .ok (.ifCond .eq 14, 3) := by decide +kernel
theorem dX10_ways_23 : decode cX10_ways 23 = .ok (.aload_n 0, 1) := by decide +kernel
theorem dX10_ways_24 : decode cX10_ways 24 = .ok (.iconst 4, 1) := by decide +kernel
theorem dX10_ways_25 : decode cX10_ways 25 = .ok (.iload_n 1, 1) := by decide +kernel
theorem dX10_ways_26 : decode cX10_ways 26 = .ok (.iadd, 1) := by decide +kernel
theorem dX10_ways_27 : decode cX10_ways 27 = .ok (.iload_n 2, 1) := by decide +kernel
theorem dX10_ways_28 : decode cX10_ways 28 = .ok (.invokevirtual 154, 3) := by decide +kernel
theorem dX10_ways_31 : decode cX10_ways 31 = .ok (.goto 4, 3) := by decide +kernel
theorem dX10_ways_34 : decode cX10_ways 34 = .ok (.iconst (-1), 1) := by decide +kernel
theorem dX10_ways_35 : decode cX10_ways 35 = .ok (.ireturn, 1) := by decide +kernel
theorem dX10_ranks_0 : decode cX10_ranks 0 = .ok (.aload_n 0, 1) := by decide +kernel
theorem dX10_ranks_1 : decode cX10_ranks 1 = .ok (.iconst 0, 1) := by decide +kernel
theorem dX10_ranks_2 : decode cX10_ranks 2 = .ok (.putfield 81, 3) := by decide +kernel
theorem dX10_ranks_5 : decode cX10_ranks 5 = .ok (.iload_n 1, 1) := by decide +kernel
theorem dX10_ranks_6 : decode cX10_ranks 6 = .ok (.iconst 1, 1) := by decide +kernel
theorem dX10_ranks_7 : decode cX10_ranks 7 = .ok (.iconst 3, 1) := by decide +kernel
theorem dX10_ranks_8 : decode cX10_ranks 8 = .ok (.invokestatic 85, 3) := by decide +kernel
theorem dX10_ranks_11 : decode cX10_ranks 11 = .ok (.ifCond .eq 25, 3) := by decide +kernel
theorem dX10_ranks_14 : decode cX10_ranks 14 = .ok (.iload_n 2, 1) := by decide +kernel
theorem dX10_ranks_15 : decode cX10_ranks 15 = .ok (.iconst 0, 1) := by decide +kernel
theorem dX10_ranks_16 : decode cX10_ranks 16 = .ok (.bipush 9, 2) := by decide +kernel
theorem dX10_ranks_18 : decode cX10_ranks 18 = .ok (.invokestatic 85, 3) := by decide +kernel
theorem dX10_ranks_21 : decode cX10_ranks 21 = .ok (.ifCond .eq 15, 3) := by decide +kernel
theorem dX10_ranks_24 : decode cX10_ranks 24 = .ok (.aload_n 0, 1) := by decide +kernel
theorem dX10_ranks_25 : decode cX10_ranks 25 = .ok (.bipush 8, 2) := by decide +kernel
theorem dX10_ranks_27 : decode cX10_ranks 27 = .ok (.iload_n 1, 1) := by decide +kernel
theorem dX10_ranks_28 : decode cX10_ranks 28 = .ok (.iadd, 1) := by decide +kernel
theorem dX10_ranks_29 : decode cX10_ranks 29 = .ok (.iload_n 2, 1) := by decide +kernel
theorem dX10_ranks_30 : decode cX10_ranks 30 = .ok (.invokevirtual 154, 3) := by decide +kernel
theorem dX10_ranks_33 : decode cX10_ranks 33 = .ok (.goto 4, 3) := by decide +kernel
theorem dX10_ranks_36 : decode cX10_ranks 36 = .ok (.iconst (-1), 1) := by decide +kernel
theorem dX10_ranks_37 : decode cX10_ranks 37 = .ok (.ireturn, 1) := by decide +kernel
theorem dX10_mosts_0 : decode cX10_mosts 0 = .ok (.aload_n 0, 1) := by decide +kernel
theorem dX10_mosts_1 : decode cX10_mosts 1 = .ok (.iconst 0, 1) := by decide +kernel
theorem dX10_mosts_2 : decode cX10_mosts 2 = .ok (.putfield 81, 3) := by decide +kernel
theorem dX10_mosts_5 : decode cX10_mosts 5 = .ok (.iload_n 1, 1) := by decide +kernel
theorem dX10_mosts_6 : decode cX10_mosts 6 = .ok (.iconst 1, 1) := by decide +kernel
theorem dX10_mosts_7 : decode cX10_mosts 7 = .ok (.iconst 5, 1) := by decide +kernel
theorem dX10_mosts_8 : decode cX10_mosts 8 = .ok (.invokestatic 85, 3) := by decide +kernel
theorem dX10_mosts_11 : decode cX10_mosts 11 = .ok (.ifCond .eq 12, 3) := by decide +kernel
theorem dX10_mosts_14 : decode cX10_mosts 14 = .ok (.aload_n 0, 1) := by decide +kernel
theorem dX10_mosts_15 : decode cX10_mosts 15 = .ok (.iconst 2, 1) := by decide +kernel
theorem dX10_mosts_16 : decode cX10_mosts 16 = .ok (.iload_n 1, 1) := by decide +kernel
theorem dX10_mosts_17 : decode cX10_mosts 17 = .ok (.invokevirtual 154, 3) := by decide +kernel
theorem dX10_mosts_20 : decode cX10_mosts 20 = .ok (.goto 4, 3) := by decide +kernel
theorem dX10_mosts_23 : decode cX10_mosts 23 = .ok (.iconst (-1), 1) := by decide +kernel
theorem dX10_mosts_24 : decode cX10_mosts 24 = .ok (.ireturn, 1) := by decide +kernel
theorem dX10_pulls_0 : decode cX10_pulls 0 = .ok (.aload_n 0, 1) := by decide +kernel
theorem dX10_pulls_1 : decode cX10_pulls 1 = .ok (.iconst 0, 1) := by decide +kernel
theorem dX10_pulls_2 : decode cX10_pulls 2 = .ok (.putfield 81, 3) := by decide +kernel
theorem dX10_pulls_5 : decode cX10_pulls 5 = .ok (.iload_n 1, 1) := by decide +kernel
theorem dX10_pulls_6 : decode cX10_pulls 6 = .ok (.iconst 0, 1) := by decide +kernel
theorem dX10_pulls_7 : decode cX10_pulls 7 = .ok (.iconst 2, 1) := by decide +kernel
theorem dX10_pulls_8 : decode cX10_pulls 8 = .ok (.invokestatic 85, 3) := by decide +kernel
theorem dX10_pulls_11 : decode cX10_pulls 11 = .ok (.ifCond .eq 12, 3) := by decide +kernel
theorem dX10_pulls_14 : decode cX10_pulls 14 = .ok (.aload_n 0, 1) := by decide +kernel
theorem dX10_pulls_15 : decode cX10_pulls 15 = .ok (.iconst 3, 1) := by decide +kernel
theorem dX10_pulls_16 : decode cX10_pulls 16 = .ok (.iload_n 1, 1) := by decide +kernel
theorem dX10_pulls_17 : decode cX10_pulls 17 = .ok (.invokevirtual 154, 3) := by decide +kernel
theorem dX10_pulls_20 : decode cX10_pulls 20 = .ok (.goto 4, 3) := by decide +kernel
theorem dX10_pulls_23 : decode cX10_pulls 23 = .ok (.iconst (-1), 1) := by decide +kernel
theorem dX10_pulls_24 : decode cX10_pulls 24 = .ok (.ireturn, 1) := by decide +kernel
theorem dX10_undo_0 : decode cX10_undo 0 = .ok (.aload_n 0, 1) := by decide +kernel
theorem dX10_undo_1 : decode cX10_undo 1 = .ok (.iconst 0, 1) := by decide +kernel
theorem dX10_undo_2 : decode cX10_undo 2 = .ok (.putfield 81, 3) := by decide +kernel
theorem dX10_undo_5 : decode cX10_undo 5 = .ok (.aload_n 0, 1) := by decide +kernel
theorem dX10_undo_6 : decode cX10_undo 6 = .ok (.getfield 144, 3) := by decide +kernel
theorem dX10_undo_9 : decode cX10_undo 9 = .ok (.ifCond .ne 6, 3) := by decide +kernel
theorem dX10_undo_12 : decode cX10_undo 12 = .ok (.bipush (-2), 2) := by decide +kernel
theorem dX10_undo_14 : decode cX10_undo 14 = .ok (.ireturn, 1) := by decide +kernel
theorem dX10_undo_15 : decode cX10_undo 15 = .ok (.aload_n 0, 1) := by decide +kernel
theorem dX10_undo_16 : decode cX10_undo 16 = .ok (.dup, 1) := by decide +kernel
theorem dX10_undo_17 : decode cX10_undo 17 = .ok (.getfield 144, 3) := by decide +kernel
theorem dX10_undo_20 : decode cX10_undo 20 = .ok (.iconst 1, 1) := by decide +kernel
theorem dX10_undo_21 : decode cX10_undo 21 = .ok (.isub, 1) := by decide +kernel
theorem dX10_undo_22 : decode cX10_undo 22 = .ok (.putfield 144, 3) := by decide +kernel
theorem dX10_undo_25 : decode cX10_undo 25 = .ok (.iconst 0, 1) := by decide +kernel
theorem dX10_undo_26 : decode cX10_undo 26 = .ok (.istore_n 1, 1) := by decide +kernel
theorem dX10_undo_27 : decode cX10_undo 27 = .ok (.iload_n 1, 1) := by decide +kernel
theorem dX10_undo_28 : decode cX10_undo 28 = .ok (.bipush 60, 2) := by decide +kernel
theorem dX10_undo_30 : decode cX10_undo 30 = .ok (.if_icmp .ge 29, 3) := by decide +kernel
theorem dX10_undo_33 : decode cX10_undo 33 = .ok (.aload_n 0, 1) := by decide +kernel
theorem dX10_undo_34 : decode cX10_undo 34 = .ok (.getfield 7, 3) := by decide +kernel
theorem dX10_undo_37 : decode cX10_undo 37 = .ok (.iload_n 1, 1) := by decide +kernel
theorem dX10_undo_38 : decode cX10_undo 38 = .ok (.aload_n 0, 1) := by decide +kernel
theorem dX10_undo_39 : decode cX10_undo 39 = .ok (.getfield 16, 3) := by decide +kernel
theorem dX10_undo_42 : decode cX10_undo 42 = .ok (.bipush 60, 2) := by decide +kernel
theorem dX10_undo_44 : decode cX10_undo 44 = .ok (.aload_n 0, 1) := by decide +kernel
theorem dX10_undo_45 : decode cX10_undo 45 = .ok (.getfield 144, 3) := by decide +kernel
theorem dX10_undo_48 : decode cX10_undo 48 = .ok (.imul, 1) := by decide +kernel
theorem dX10_undo_49 : decode cX10_undo 49 = .ok (.iload_n 1, 1) := by decide +kernel
theorem dX10_undo_50 : decode cX10_undo 50 = .ok (.iadd, 1) := by decide +kernel
theorem dX10_undo_51 : decode cX10_undo 51 = .ok (.iaload, 1) := by decide +kernel
theorem dX10_undo_52 : decode cX10_undo 52 = .ok (.iastore, 1) := by decide +kernel
theorem dX10_undo_53 : decode cX10_undo 53 = .ok (.iinc 1 1, 3) := by decide +kernel
theorem dX10_undo_56 : decode cX10_undo 56 = .ok (.goto (-29), 3) := by decide +kernel
theorem dX10_undo_59 : decode cX10_undo 59 = .ok (.aload_n 0, 1) := by decide +kernel
theorem dX10_undo_60 : decode cX10_undo 60 = .ok (.getfield 144, 3) := by decide +kernel
theorem dX10_undo_63 : decode cX10_undo 63 = .ok (.ireturn, 1) := by decide +kernel
theorem dX10_areBeside_0 : decode cX10_areBeside 0 = .ok (.iload_n 1, 1) := by decide +kernel
theorem dX10_areBeside_1 : decode cX10_areBeside 1 = .ok (.aload_n 0, 1) := by decide +kernel
theorem dX10_areBeside_2 : decode cX10_areBeside 2 = .ok (.getfield 7, 3) := by decide +kernel
theorem dX10_areBeside_5 : decode cX10_areBeside 5 = .ok (.iconst 0, 1) := by decide +kernel
theorem dX10_areBeside_6 : decode cX10_areBeside 6 = .ok (.iaload, 1) := by decide +kernel
theorem dX10_areBeside_7 : decode cX10_areBeside 7 = .ok (.irem, 1) := by decide +kernel
theorem dX10_areBeside_8 : decode cX10_areBeside 8 = .ok (.iload_n 2, 1) := by decide +kernel
theorem dX10_areBeside_9 : decode cX10_areBeside 9 = .ok (.aload_n 0, 1) := by decide +kernel
theorem dX10_areBeside_10 : decode cX10_areBeside 10 = .ok (.getfield 7, 3) := by decide +kernel
theorem dX10_areBeside_13 : decode cX10_areBeside 13 = .ok (.iconst 0, 1) := by decide +kernel
theorem dX10_areBeside_14 : decode cX10_areBeside 14 = .ok (.iaload, 1) := by decide +kernel
theorem dX10_areBeside_15 : decode cX10_areBeside 15 = .ok (.irem, 1) := by decide +kernel
theorem dX10_areBeside_16 : decode cX10_areBeside 16 = .ok (.isub, 1) := by decide +kernel
theorem dX10_areBeside_17 : decode cX10_areBeside 17 = .ok (.istore_n 3, 1) := by decide +kernel
theorem dX10_areBeside_18 : decode cX10_areBeside 18 = .ok (.iload_n 1, 1) := by decide +kernel
theorem dX10_areBeside_19 : decode cX10_areBeside 19 = .ok (.aload_n 0, 1) := by decide +kernel
theorem dX10_areBeside_20 : decode cX10_areBeside 20 = .ok (.getfield 7, 3) := by decide +kernel
theorem dX10_areBeside_23 : decode cX10_areBeside 23 = .ok (.iconst 0, 1) := by decide +kernel
theorem dX10_areBeside_24 : decode cX10_areBeside 24 = .ok (.iaload, 1) := by decide +kernel
theorem dX10_areBeside_25 : decode cX10_areBeside 25 = .ok (.idiv, 1) := by decide +kernel
theorem dX10_areBeside_26 : decode cX10_areBeside 26 = .ok (.iload_n 2, 1) := by decide +kernel
theorem dX10_areBeside_27 : decode cX10_areBeside 27 = .ok (.aload_n 0, 1) := by decide +kernel
theorem dX10_areBeside_28 : decode cX10_areBeside 28 = .ok (.getfield 7, 3) := by decide +kernel
theorem dX10_areBeside_31 : decode cX10_areBeside 31 = .ok (.iconst 0, 1) := by decide +kernel
theorem dX10_areBeside_32 : decode cX10_areBeside 32 = .ok (.iaload, 1) := by decide +kernel
theorem dX10_areBeside_33 : decode cX10_areBeside 33 = .ok (.idiv, 1) := by decide +kernel
theorem dX10_areBeside_34 : decode cX10_areBeside 34 = .ok (.isub, 1) := by decide +kernel
theorem dX10_areBeside_35 : decode cX10_areBeside 35 = .ok (.istore 4, 2) := by decide +kernel
theorem dX10_areBeside_37 : decode cX10_areBeside 37 = .ok (.iload_n 3, 1) := by decide +kernel
theorem dX10_areBeside_38 : decode cX10_areBeside 38 = .ok (.iload_n 3, 1) := by decide +kernel
theorem dX10_areBeside_39 : decode cX10_areBeside 39 = .ok (.imul, 1) := by decide +kernel
theorem dX10_areBeside_40 : decode cX10_areBeside 40 = .ok (.iload 4, 2) := by decide +kernel
theorem dX10_areBeside_42 : decode cX10_areBeside 42 = .ok (.iload 4, 2) := by decide +kernel
theorem dX10_areBeside_44 : decode cX10_areBeside 44 = .ok (.imul, 1) := by decide +kernel
theorem dX10_areBeside_45 : decode cX10_areBeside 45 = .ok (.iadd, 1) := by decide +kernel
theorem dX10_areBeside_46 : decode cX10_areBeside 46 = .ok (.iconst 1, 1) := by decide +kernel
theorem dX10_areBeside_47 : decode cX10_areBeside 47 = .ok (.if_icmp .ne 7, 3) := by decide +kernel
theorem dX10_areBeside_50 : decode cX10_areBeside 50 = .ok (.iconst 1, 1) := by decide +kernel
theorem dX10_areBeside_51 : decode cX10_areBeside 51 = .ok (.goto 4, 3) := by decide +kernel
theorem dX10_areBeside_54 : decode cX10_areBeside 54 = .ok (.iconst 0, 1) := by decide +kernel
theorem dX10_areBeside_55 : decode cX10_areBeside 55 = .ok (.ireturn, 1) := by decide +kernel
theorem dX10_spreads_0 : decode cX10_spreads 0 = .ok (.iconst 1, 1) := by decide +kernel
theorem dX10_spreads_1 : decode cX10_spreads 1 = .ok (.istore_n 3, 1) := by decide +kernel
theorem dX10_spreads_2 : decode cX10_spreads 2 = .ok (.iload_n 3, 1) := by decide +kernel
theorem dX10_spreads_3 : decode cX10_spreads 3 = .ok (.ifCond .eq 102, 3) := by decide +kernel
theorem dX10_spreads_6 : decode cX10_spreads 6 = .ok (.iconst 0, 1) := by decide +kernel
theorem dX10_spreads_7 : decode cX10_spreads 7 = .ok (.istore_n 3, 1) := by decide +kernel
theorem dX10_spreads_8 : decode cX10_spreads 8 = .ok (.iconst 0, 1) := by decide +kernel
theorem dX10_spreads_9 : decode cX10_spreads 9 = .ok (.istore 4, 2) := by decide +kernel
theorem dX10_spreads_11 : decode cX10_spreads 11 = .ok (.iload 4, 2) := by decide +kernel
theorem dX10_spreads_13 : decode cX10_spreads 13 = .ok (.aload_n 0, 1) := by decide +kernel
theorem dX10_spreads_14 : decode cX10_spreads 14 = .ok (.invokevirtual 151, 3) := by decide +kernel
theorem dX10_spreads_17 : decode cX10_spreads 17 = .ok (.if_icmp .ge 85, 3) := by decide +kernel
theorem dX10_spreads_20 : decode cX10_spreads 20 = .ok (.iconst 0, 1) := by decide +kernel
theorem dX10_spreads_21 : decode cX10_spreads 21 = .ok (.istore 5, 2) := by decide +kernel
theorem dX10_spreads_23 : decode cX10_spreads 23 = .ok (.iload 5, 2) := by decide +kernel
theorem dX10_spreads_25 : decode cX10_spreads 25 = .ok (.aload_n 0, 1) := by decide +kernel
theorem dX10_spreads_26 : decode cX10_spreads 26 = .ok (.invokevirtual 151, 3) := by decide +kernel
theorem dX10_spreads_29 : decode cX10_spreads 29 = .ok (.if_icmp .ge 67, 3) := by decide +kernel
theorem dX10_spreads_32 : decode cX10_spreads 32 = .ok (.aload_n 0, 1) := by decide +kernel
theorem dX10_spreads_33 : decode cX10_spreads 33 = .ok (.getfield 33, 3) := by decide +kernel
theorem dX10_spreads_36 : decode cX10_spreads 36 = .ok (.iload 4, 2) := by decide +kernel
theorem dX10_spreads_38 : decode cX10_spreads 38 = .ok (.iaload, 1) := by decide +kernel
theorem dX10_spreads_39 : decode cX10_spreads 39 = .ok (.iload_n 1, 1) := by decide +kernel
theorem dX10_spreads_40 : decode cX10_spreads 40 = .ok (.if_icmp .ne 56, 3) := by decide +kernel
theorem dX10_spreads_43 : decode cX10_spreads 43 = .ok (.aload_n 0, 1) := by decide +kernel
theorem dX10_spreads_44 : decode cX10_spreads 44 = .ok (.getfield 33, 3) := by decide +kernel
theorem dX10_spreads_47 : decode cX10_spreads 47 = .ok (.iload 5, 2) := by decide +kernel
theorem dX10_spreads_49 : decode cX10_spreads 49 = .ok (.iaload, 1) := by decide +kernel
theorem dX10_spreads_50 : decode cX10_spreads 50 = .ok (.bipush (-9), 2) := by decide +kernel
theorem dX10_spreads_52 : decode cX10_spreads 52 = .ok (.if_icmp .ne 38, 3) := by decide +kernel
theorem dX10_spreads_55 : decode cX10_spreads 55 = .ok (.aload_n 0, 1) := by decide +kernel
theorem dX10_spreads_56 : decode cX10_spreads 56 = .ok (.getfield 7, 3) := by decide +kernel
theorem dX10_spreads_59 : decode cX10_spreads 59 = .ok (.bipush 12, 2) := by decide +kernel
theorem dX10_spreads_61 : decode cX10_spreads 61 = .ok (.iload 5, 2) := by decide +kernel
theorem dX10_spreads_63 : decode cX10_spreads 63 = .ok (.iadd, 1) := by decide +kernel
theorem dX10_spreads_64 : decode cX10_spreads 64 = .ok (.iaload, 1) := by decide +kernel
theorem dX10_spreads_65 : decode cX10_spreads 65 = .ok (.iload_n 2, 1) := by decide +kernel
theorem dX10_spreads_66 : decode cX10_spreads 66 = .ok (.if_icmp .ne 24, 3) := by decide +kernel
theorem dX10_spreads_69 : decode cX10_spreads 69 = .ok (.aload_n 0, 1) := by decide +kernel
theorem dX10_spreads_70 : decode cX10_spreads 70 = .ok (.iload 4, 2) := by decide +kernel
theorem dX10_spreads_72 : decode cX10_spreads 72 = .ok (.iload 5, 2) := by decide +kernel
theorem dX10_spreads_74 : decode cX10_spreads 74 = .ok (.invokevirtual 157, 3) := by decide +kernel
theorem dX10_spreads_77 : decode cX10_spreads 77 = .ok (.ifCond .eq 13, 3) := by decide +kernel
theorem dX10_spreads_80 : decode cX10_spreads 80 = .ok (.aload_n 0, 1) := by decide +kernel
theorem dX10_spreads_81 : decode cX10_spreads 81 = .ok (.getfield 33, 3) := by decide +kernel
theorem dX10_spreads_84 : decode cX10_spreads 84 = .ok (.iload 5, 2) := by decide +kernel
theorem dX10_spreads_86 : decode cX10_spreads 86 = .ok (.iload_n 1, 1) := by decide +kernel
theorem dX10_spreads_87 : decode cX10_spreads 87 = .ok (.iastore, 1) := by decide +kernel
theorem dX10_spreads_88 : decode cX10_spreads 88 = .ok (.iconst 1, 1) := by decide +kernel
theorem dX10_spreads_89 : decode cX10_spreads 89 = .ok (.istore_n 3, 1) := by decide +kernel
theorem dX10_spreads_90 : decode cX10_spreads 90 = .ok (.iinc 5 1, 3) := by decide +kernel
theorem dX10_spreads_93 : decode cX10_spreads 93 = .ok (.goto (-70), 3) := by decide +kernel
theorem dX10_spreads_96 : decode cX10_spreads 96 = .ok (.iinc 4 1, 3) := by decide +kernel
theorem dX10_spreads_99 : decode cX10_spreads 99 = .ok (.goto (-88), 3) := by decide +kernel
theorem dX10_spreads_102 : decode cX10_spreads 102 = .ok (.goto (-100), 3) := by decide +kernel
theorem dX10_spreads_105 : decode cX10_spreads 105 = .ok (.return_, 1) := by decide +kernel
theorem dX10_laysFields_0 : decode cX10_laysFields 0 = .ok (.iconst 0, 1) := by decide +kernel
theorem dX10_laysFields_1 : decode cX10_laysFields 1 = .ok (.istore_n 1, 1) := by decide +kernel
theorem dX10_laysFields_2 : decode cX10_laysFields 2 = .ok (.iload_n 1, 1) := by decide +kernel
theorem dX10_laysFields_3 : decode cX10_laysFields 3 = .ok (.bipush 48, 2) := by decide +kernel
theorem dX10_laysFields_5 : decode cX10_laysFields 5 = .ok (.if_icmp .ge 17, 3) := by decide +kernel
theorem dX10_laysFields_8 : decode cX10_laysFields 8 = .ok (.aload_n 0, 1) := by decide +kernel
theorem dX10_laysFields_9 : decode cX10_laysFields 9 = .ok (.getfield 33, 3) := by decide +kernel
theorem dX10_laysFields_12 : decode cX10_laysFields 12 = .ok (.iload_n 1, 1) := by decide +kernel
theorem dX10_laysFields_13 : decode cX10_laysFields 13 = .ok (.bipush (-9), 2) := by decide +kernel
theorem dX10_laysFields_15 : decode cX10_laysFields 15 = .ok (.iastore, 1) := by decide +kernel
theorem dX10_laysFields_16 : decode cX10_laysFields 16 = .ok (.iinc 1 1, 3) := by decide +kernel
theorem dX10_laysFields_19 : decode cX10_laysFields 19 = .ok (.goto (-17), 3) := by decide +kernel
theorem dX10_laysFields_22 : decode cX10_laysFields 22 = .ok (.aload_n 0, 1) := by decide +kernel
theorem dX10_laysFields_23 : decode cX10_laysFields 23 = .ok (.iconst 0, 1) := by decide +kernel
theorem dX10_laysFields_24 : decode cX10_laysFields 24 = .ok (.putfield 160, 3) := by decide +kernel
theorem dX10_laysFields_27 : decode cX10_laysFields 27 = .ok (.iconst 0, 1) := by decide +kernel
theorem dX10_laysFields_28 : decode cX10_laysFields 28 = .ok (.istore_n 1, 1) := by decide +kernel
theorem dX10_laysFields_29 : decode cX10_laysFields 29 = .ok (.iload_n 1, 1) := by decide +kernel
theorem dX10_laysFields_30 : decode cX10_laysFields 30 = .ok (.aload_n 0, 1) := by decide +kernel
theorem dX10_laysFields_31 : decode cX10_laysFields 31 = .ok (.invokevirtual 151, 3) := by decide +kernel
theorem dX10_laysFields_34 : decode cX10_laysFields 34 = .ok (.if_icmp .ge 69, 3) := by decide +kernel
theorem dX10_laysFields_37 : decode cX10_laysFields 37 = .ok (.aload_n 0, 1) := by decide +kernel
theorem dX10_laysFields_38 : decode cX10_laysFields 38 = .ok (.getfield 33, 3) := by decide +kernel
theorem dX10_laysFields_41 : decode cX10_laysFields 41 = .ok (.iload_n 1, 1) := by decide +kernel
theorem dX10_laysFields_42 : decode cX10_laysFields 42 = .ok (.iaload, 1) := by decide +kernel
theorem dX10_laysFields_43 : decode cX10_laysFields 43 = .ok (.bipush (-9), 2) := by decide +kernel
theorem dX10_laysFields_45 : decode cX10_laysFields 45 = .ok (.if_icmp .ne 52, 3) := by decide +kernel
theorem dX10_laysFields_48 : decode cX10_laysFields 48 = .ok (.aload_n 0, 1) := by decide +kernel
theorem dX10_laysFields_49 : decode cX10_laysFields 49 = .ok (.getfield 7, 3) := by decide +kernel
theorem dX10_laysFields_52 : decode cX10_laysFields 52 = .ok (.bipush 12, 2) := by decide +kernel
theorem dX10_laysFields_54 : decode cX10_laysFields 54 = .ok (.iload_n 1, 1) := by decide +kernel
theorem dX10_laysFields_55 : decode cX10_laysFields 55 = .ok (.iadd, 1) := by decide +kernel
theorem dX10_laysFields_56 : decode cX10_laysFields 56 = .ok (.iaload, 1) := by decide +kernel
theorem dX10_laysFields_57 : decode cX10_laysFields 57 = .ok (.ifCond .le 40, 3) := by decide +kernel
theorem dX10_laysFields_60 : decode cX10_laysFields 60 = .ok (.aload_n 0, 1) := by decide +kernel
theorem dX10_laysFields_61 : decode cX10_laysFields 61 = .ok (.getfield 33, 3) := by decide +kernel
theorem dX10_laysFields_64 : decode cX10_laysFields 64 = .ok (.iload_n 1, 1) := by decide +kernel
theorem dX10_laysFields_65 : decode cX10_laysFields 65 = .ok (.aload_n 0, 1) := by decide +kernel
theorem dX10_laysFields_66 : decode cX10_laysFields 66 = .ok (.getfield 160, 3) := by decide +kernel
theorem dX10_laysFields_69 : decode cX10_laysFields 69 = .ok (.iastore, 1) := by decide +kernel
theorem dX10_laysFields_70 : decode cX10_laysFields 70 = .ok (.aload_n 0, 1) := by decide +kernel
theorem dX10_laysFields_71 : decode cX10_laysFields 71 = .ok (.aload_n 0, 1) := by decide +kernel
theorem dX10_laysFields_72 : decode cX10_laysFields 72 = .ok (.getfield 160, 3) := by decide +kernel
theorem dX10_laysFields_75 : decode cX10_laysFields 75 = .ok (.aload_n 0, 1) := by decide +kernel
theorem dX10_laysFields_76 : decode cX10_laysFields 76 = .ok (.getfield 7, 3) := by decide +kernel
theorem dX10_laysFields_79 : decode cX10_laysFields 79 = .ok (.bipush 12, 2) := by decide +kernel
theorem dX10_laysFields_81 : decode cX10_laysFields 81 = .ok (.iload_n 1, 1) := by decide +kernel
theorem dX10_laysFields_82 : decode cX10_laysFields 82 = .ok (.iadd, 1) := by decide +kernel
theorem dX10_laysFields_83 : decode cX10_laysFields 83 = .ok (.iaload, 1) := by decide +kernel
theorem dX10_laysFields_84 : decode cX10_laysFields 84 = .ok (.invokevirtual 163, 3) := by decide +kernel
theorem dX10_laysFields_87 : decode cX10_laysFields 87 = .ok (.aload_n 0, 1) := by decide +kernel
theorem dX10_laysFields_88 : decode cX10_laysFields 88 = .ok (.dup, 1) := by decide +kernel
theorem dX10_laysFields_89 : decode cX10_laysFields 89 = .ok (.getfield 160, 3) := by decide +kernel
theorem dX10_laysFields_92 : decode cX10_laysFields 92 = .ok (.iconst 1, 1) := by decide +kernel
theorem dX10_laysFields_93 : decode cX10_laysFields 93 = .ok (.iadd, 1) := by decide +kernel
theorem dX10_laysFields_94 : decode cX10_laysFields 94 = .ok (.putfield 160, 3) := by decide +kernel
theorem dX10_laysFields_97 : decode cX10_laysFields 97 = .ok (.iinc 1 1, 3) := by decide +kernel
theorem dX10_laysFields_100 : decode cX10_laysFields 100 = .ok (.goto (-71), 3) := by decide +kernel
theorem dX10_laysFields_103 : decode cX10_laysFields 103 = .ok (.return_, 1) := by decide +kernel
theorem dX10_lowestOf_0 : decode cX10_lowestOf 0 = .ok (.iconst 0, 1) := by decide +kernel
theorem dX10_lowestOf_1 : decode cX10_lowestOf 1 = .ok (.istore_n 2, 1) := by decide +kernel
theorem dX10_lowestOf_2 : decode cX10_lowestOf 2 = .ok (.aload_n 0, 1) := by decide +kernel
theorem dX10_lowestOf_3 : decode cX10_lowestOf 3 = .ok (.getfield 33, 3) := by decide +kernel
theorem dX10_lowestOf_6 : decode cX10_lowestOf 6 = .ok (.iload_n 2, 1) := by decide +kernel
theorem dX10_lowestOf_7 : decode cX10_lowestOf 7 = .ok (.iaload, 1) := by decide +kernel
theorem dX10_lowestOf_8 : decode cX10_lowestOf 8 = .ok (.iload_n 1, 1) := by decide +kernel
theorem dX10_lowestOf_9 : decode cX10_lowestOf 9 = .ok (.if_icmp .eq 9, 3) := by decide +kernel
theorem dX10_lowestOf_12 : decode cX10_lowestOf 12 = .ok (.iinc 2 1, 3) := by decide +kernel
theorem dX10_lowestOf_15 : decode cX10_lowestOf 15 = .ok (.goto (-13), 3) := by decide +kernel
theorem dX10_lowestOf_18 : decode cX10_lowestOf 18 = .ok (.iload_n 2, 1) := by decide +kernel
theorem dX10_lowestOf_19 : decode cX10_lowestOf 19 = .ok (.ireturn, 1) := by decide +kernel
theorem dX10_colourOf_0 : decode cX10_colourOf 0 = .ok (.aload_n 0, 1) := by decide +kernel
theorem dX10_colourOf_1 : decode cX10_colourOf 1 = .ok (.getfield 7, 3) := by decide +kernel
theorem dX10_colourOf_4 : decode cX10_colourOf 4 = .ok (.bipush 12, 2) := by decide +kernel
theorem dX10_colourOf_6 : decode cX10_colourOf 6 = .ok (.aload_n 0, 1) := by decide +kernel
theorem dX10_colourOf_7 : decode cX10_colourOf 7 = .ok (.iload_n 1, 1) := by decide +kernel
theorem dX10_colourOf_8 : decode cX10_colourOf 8 = .ok (.invokevirtual 166, 3) := by decide +kernel
theorem dX10_colourOf_11 : decode cX10_colourOf 11 = .ok (.iadd, 1) := by decide +kernel
theorem dX10_colourOf_12 : decode cX10_colourOf 12 = .ok (.iaload, 1) := by decide +kernel
theorem dX10_colourOf_13 : decode cX10_colourOf 13 = .ok (.ireturn, 1) := by decide +kernel
theorem dX10_sizeOf_0 : decode cX10_sizeOf 0 = .ok (.iconst 0, 1) := by decide +kernel
theorem dX10_sizeOf_1 : decode cX10_sizeOf 1 = .ok (.istore_n 2, 1) := by decide +kernel
theorem dX10_sizeOf_2 : decode cX10_sizeOf 2 = .ok (.iconst 0, 1) := by decide +kernel
theorem dX10_sizeOf_3 : decode cX10_sizeOf 3 = .ok (.istore_n 3, 1) := by decide +kernel
theorem dX10_sizeOf_4 : decode cX10_sizeOf 4 = .ok (.iload_n 3, 1) := by decide +kernel
theorem dX10_sizeOf_5 : decode cX10_sizeOf 5 = .ok (.aload_n 0, 1) := by decide +kernel
theorem dX10_sizeOf_6 : decode cX10_sizeOf 6 = .ok (.invokevirtual 151, 3) := by decide +kernel
theorem dX10_sizeOf_9 : decode cX10_sizeOf 9 = .ok (.if_icmp .ge 27, 3) := by decide +kernel
theorem dX10_sizeOf_12 : decode cX10_sizeOf 12 = .ok (.iload_n 2, 1) := by decide +kernel
theorem dX10_sizeOf_13 : decode cX10_sizeOf 13 = .ok (.aload_n 0, 1) := by decide +kernel
theorem dX10_sizeOf_14 : decode cX10_sizeOf 14 = .ok (.getfield 33, 3) := by decide +kernel
theorem dX10_sizeOf_17 : decode cX10_sizeOf 17 = .ok (.iload_n 3, 1) := by decide +kernel
theorem dX10_sizeOf_18 : decode cX10_sizeOf 18 = .ok (.iaload, 1) := by decide +kernel
theorem dX10_sizeOf_19 : decode cX10_sizeOf 19 = .ok (.iload_n 1, 1) := by decide +kernel
theorem dX10_sizeOf_20 : decode cX10_sizeOf 20 = .ok (.if_icmp .ne 7, 3) := by decide +kernel
theorem dX10_sizeOf_23 : decode cX10_sizeOf 23 = .ok (.iconst 1, 1) := by decide +kernel
theorem dX10_sizeOf_24 : decode cX10_sizeOf 24 = .ok (.goto 4, 3) := by decide +kernel
theorem dX10_sizeOf_27 : decode cX10_sizeOf 27 = .ok (.iconst 0, 1) := by decide +kernel
theorem dX10_sizeOf_28 : decode cX10_sizeOf 28 = .ok (.iadd, 1) := by decide +kernel
theorem dX10_sizeOf_29 : decode cX10_sizeOf 29 = .ok (.istore_n 2, 1) := by decide +kernel
theorem dX10_sizeOf_30 : decode cX10_sizeOf 30 = .ok (.iinc 3 1, 3) := by decide +kernel
theorem dX10_sizeOf_33 : decode cX10_sizeOf 33 = .ok (.goto (-29), 3) := by decide +kernel
theorem dX10_sizeOf_36 : decode cX10_sizeOf 36 = .ok (.iload_n 2, 1) := by decide +kernel
theorem dX10_sizeOf_37 : decode cX10_sizeOf 37 = .ok (.ireturn, 1) := by decide +kernel
theorem dX10_cellAt_0 : decode cX10_cellAt 0 = .ok (.aload_n 0, 1) := by decide +kernel
theorem dX10_cellAt_1 : decode cX10_cellAt 1 = .ok (.getfield 169, 3) := by decide +kernel
theorem dX10_cellAt_4 : decode cX10_cellAt 4 = .ok (.ifCond .ne 16, 3) := by decide +kernel
theorem dX10_cellAt_7 : decode cX10_cellAt 7 = .ok (.aload_n 0, 1) := by decide +kernel
theorem dX10_cellAt_8 : decode cX10_cellAt 8 = .ok (.getfield 7, 3) := by decide +kernel
theorem dX10_cellAt_11 : decode cX10_cellAt 11 = .ok (.iconst 0, 1) := by decide +kernel
theorem dX10_cellAt_12 : decode cX10_cellAt 12 = .ok (.iaload, 1) := by decide +kernel
theorem dX10_cellAt_13 : decode cX10_cellAt 13 = .ok (.iload_n 1, 1) := by decide +kernel
theorem dX10_cellAt_14 : decode cX10_cellAt 14 = .ok (.imul, 1) := by decide +kernel
theorem dX10_cellAt_15 : decode cX10_cellAt 15 = .ok (.iload_n 2, 1) := by decide +kernel
theorem dX10_cellAt_16 : decode cX10_cellAt 16 = .ok (.iadd, 1) := by decide +kernel
theorem dX10_cellAt_17 : decode cX10_cellAt 17 = .ok (.goto 13, 3) := by decide +kernel
theorem dX10_cellAt_20 : decode cX10_cellAt 20 = .ok (.aload_n 0, 1) := by decide +kernel
theorem dX10_cellAt_21 : decode cX10_cellAt 21 = .ok (.getfield 7, 3) := by decide +kernel
theorem dX10_cellAt_24 : decode cX10_cellAt 24 = .ok (.iconst 0, 1) := by decide +kernel
theorem dX10_cellAt_25 : decode cX10_cellAt 25 = .ok (.iaload, 1) := by decide +kernel
theorem dX10_cellAt_26 : decode cX10_cellAt 26 = .ok (.iload_n 2, 1) := by decide +kernel
theorem dX10_cellAt_27 : decode cX10_cellAt 27 = .ok (.imul, 1) := by decide +kernel
theorem dX10_cellAt_28 : decode cX10_cellAt 28 = .ok (.iload_n 1, 1) := by decide +kernel
theorem dX10_cellAt_29 : decode cX10_cellAt 29 = .ok (.iadd, 1) := by decide +kernel
theorem dX10_cellAt_30 : decode cX10_cellAt 30 = .ok (.ireturn, 1) := by decide +kernel
theorem dX10_laysRows_0 : decode cX10_laysRows 0 = .ok (.aload_n 0, 1) := by decide +kernel
theorem dX10_laysRows_1 : decode cX10_laysRows 1 = .ok (.iload_n 2, 1) := by decide +kernel
theorem dX10_laysRows_2 : decode cX10_laysRows 2 = .ok (.putfield 169, 3) := by decide +kernel
theorem dX10_laysRows_5 : decode cX10_laysRows 5 = .ok (.aload_n 0, 1) := by decide +kernel
theorem dX10_laysRows_6 : decode cX10_laysRows 6 = .ok (.iconst 0, 1) := by decide +kernel
theorem dX10_laysRows_7 : decode cX10_laysRows 7 = .ok (.putfield 172, 3) := by decide +kernel
theorem dX10_laysRows_10 : decode cX10_laysRows 10 = .ok (.iload_n 2, 1) := by decide +kernel
theorem dX10_laysRows_11 : decode cX10_laysRows 11 = .ok (.ifCond .ne 12, 3) := by decide +kernel
theorem dX10_laysRows_14 : decode cX10_laysRows 14 = .ok (.aload_n 0, 1) := by decide +kernel
theorem dX10_laysRows_15 : decode cX10_laysRows 15 = .ok (.getfield 7, 3) := by decide +kernel
theorem dX10_laysRows_18 : decode cX10_laysRows 18 = .ok (.iconst 1, 1) := by decide +kernel
theorem dX10_laysRows_19 : decode cX10_laysRows 19 = .ok (.iaload, 1) := by decide +kernel
theorem dX10_laysRows_20 : decode cX10_laysRows 20 = .ok (.goto 9, 3) := by decide +kernel
theorem dX10_laysRows_23 : decode cX10_laysRows 23 = .ok (.aload_n 0, 1) := by decide +kernel
theorem dX10_laysRows_24 : decode cX10_laysRows 24 = .ok (.getfield 7, 3) := by decide +kernel
theorem dX10_laysRows_27 : decode cX10_laysRows 27 = .ok (.iconst 0, 1) := by decide +kernel
theorem dX10_laysRows_28 : decode cX10_laysRows 28 = .ok (.iaload, 1) := by decide +kernel
theorem dX10_laysRows_29 : decode cX10_laysRows 29 = .ok (.istore_n 3, 1) := by decide +kernel
theorem dX10_laysRows_30 : decode cX10_laysRows 30 = .ok (.iload_n 2, 1) := by decide +kernel
theorem dX10_laysRows_31 : decode cX10_laysRows 31 = .ok (.ifCond .ne 12, 3) := by decide +kernel
theorem dX10_laysRows_34 : decode cX10_laysRows 34 = .ok (.aload_n 0, 1) := by decide +kernel
theorem dX10_laysRows_35 : decode cX10_laysRows 35 = .ok (.getfield 7, 3) := by decide +kernel
theorem dX10_laysRows_38 : decode cX10_laysRows 38 = .ok (.iconst 0, 1) := by decide +kernel
theorem dX10_laysRows_39 : decode cX10_laysRows 39 = .ok (.iaload, 1) := by decide +kernel
theorem dX10_laysRows_40 : decode cX10_laysRows 40 = .ok (.goto 9, 3) := by decide +kernel
theorem dX10_laysRows_43 : decode cX10_laysRows 43 = .ok (.aload_n 0, 1) := by decide +kernel
theorem dX10_laysRows_44 : decode cX10_laysRows 44 = .ok (.getfield 7, 3) := by decide +kernel
theorem dX10_laysRows_47 : decode cX10_laysRows 47 = .ok (.iconst 1, 1) := by decide +kernel
theorem dX10_laysRows_48 : decode cX10_laysRows 48 = .ok (.iaload, 1) := by decide +kernel
theorem dX10_laysRows_49 : decode cX10_laysRows 49 = .ok (.istore 4, 2) := by decide +kernel
theorem dX10_laysRows_51 : decode cX10_laysRows 51 = .ok (.iconst 0, 1) := by decide +kernel
theorem dX10_laysRows_52 : decode cX10_laysRows 52 = .ok (.istore 5, 2) := by decide +kernel
theorem dX10_laysRows_54 : decode cX10_laysRows 54 = .ok (.iload 5, 2) := by decide +kernel
theorem dX10_laysRows_56 : decode cX10_laysRows 56 = .ok (.iload_n 3, 1) := by decide +kernel
theorem dX10_laysRows_57 : decode cX10_laysRows 57 = .ok (.if_icmp .ge 123, 3) := by decide +kernel
theorem dX10_laysRows_60 : decode cX10_laysRows 60 = .ok (.iconst 0, 1) := by decide +kernel
theorem dX10_laysRows_61 : decode cX10_laysRows 61 = .ok (.istore 6, 2) := by decide +kernel
theorem dX10_laysRows_63 : decode cX10_laysRows 63 = .ok (.iload 6, 2) := by decide +kernel
theorem dX10_laysRows_65 : decode cX10_laysRows 65 = .ok (.iload 4, 2) := by decide +kernel
theorem dX10_laysRows_67 : decode cX10_laysRows 67 = .ok (.if_icmp .ge 107, 3) := by decide +kernel
theorem dX10_laysRows_70 : decode cX10_laysRows 70 = .ok (.aload_n 0, 1) := by decide +kernel
theorem dX10_laysRows_71 : decode cX10_laysRows 71 = .ok (.getfield 33, 3) := by decide +kernel
theorem dX10_laysRows_74 : decode cX10_laysRows 74 = .ok (.aload_n 0, 1) := by decide +kernel
theorem dX10_laysRows_75 : decode cX10_laysRows 75 = .ok (.iload 5, 2) := by decide +kernel
theorem dX10_laysRows_77 : decode cX10_laysRows 77 = .ok (.iload 6, 2) := by decide +kernel
theorem dX10_laysRows_79 : decode cX10_laysRows 79 = .ok (.invokevirtual 175, 3) := by decide +kernel
theorem dX10_laysRows_82 : decode cX10_laysRows 82 = .ok (.iaload, 1) := by decide +kernel
theorem dX10_laysRows_83 : decode cX10_laysRows 83 = .ok (.iload_n 1, 1) := by decide +kernel
theorem dX10_laysRows_84 : decode cX10_laysRows 84 = .ok (.if_icmp .ne 84, 3) := by decide +kernel
theorem dX10_laysRows_87 : decode cX10_laysRows 87 = .ok (.iload 6, 2) := by decide +kernel
theorem dX10_laysRows_89 : decode cX10_laysRows 89 = .ok (.ifCond .le 26, 3) := by decide +kernel
theorem dX10_laysRows_92 : decode cX10_laysRows 92 = .ok (.aload_n 0, 1) := by decide +kernel
theorem dX10_laysRows_93 : decode cX10_laysRows 93 = .ok (.getfield 33, 3) := by decide +kernel
theorem dX10_laysRows_96 : decode cX10_laysRows 96 = .ok (.aload_n 0, 1) := by decide +kernel
theorem dX10_laysRows_97 : decode cX10_laysRows 97 = .ok (.iload 5, 2) := by decide +kernel
theorem dX10_laysRows_99 : decode cX10_laysRows 99 = .ok (.iload 6, 2) := by decide +kernel
theorem dX10_laysRows_101 : decode cX10_laysRows 101 = .ok (.iconst 1, 1) := by decide +kernel
theorem dX10_laysRows_102 : decode cX10_laysRows 102 = .ok (.isub, 1) := by decide +kernel
theorem dX10_laysRows_103 : decode cX10_laysRows 103 = .ok (.invokevirtual 175, 3) := by decide +kernel
theorem dX10_laysRows_106 : decode cX10_laysRows 106 = .ok (.iaload, 1) := by decide +kernel
theorem dX10_laysRows_107 : decode cX10_laysRows 107 = .ok (.iload_n 1, 1) := by decide +kernel
theorem dX10_laysRows_108 : decode cX10_laysRows 108 = .ok (.if_icmp .ne 7, 3) := by decide +kernel
theorem dX10_laysRows_111 : decode cX10_laysRows 111 = .ok (.iconst 1, 1) := by decide +kernel
theorem dX10_laysRows_112 : decode cX10_laysRows 112 = .ok (.goto 4, 3) := by decide +kernel
theorem dX10_laysRows_115 : decode cX10_laysRows 115 = .ok (.iconst 0, 1) := by decide +kernel
theorem dX10_laysRows_116 : decode cX10_laysRows 116 = .ok (.istore 7, 2) := by decide +kernel
theorem dX10_laysRows_118 : decode cX10_laysRows 118 = .ok (.iload 7, 2) := by decide +kernel
theorem dX10_laysRows_120 : decode cX10_laysRows 120 = .ok (.ifCond .ne 35, 3) := by decide +kernel
theorem dX10_laysRows_123 : decode cX10_laysRows 123 = .ok (.aload_n 0, 1) := by decide +kernel
theorem dX10_laysRows_124 : decode cX10_laysRows 124 = .ok (.getfield 36, 3) := by decide +kernel
theorem dX10_laysRows_127 : decode cX10_laysRows 127 = .ok (.aload_n 0, 1) := by decide +kernel
theorem dX10_laysRows_128 : decode cX10_laysRows 128 = .ok (.getfield 172, 3) := by decide +kernel
theorem dX10_laysRows_131 : decode cX10_laysRows 131 = .ok (.iload 5, 2) := by decide +kernel
theorem dX10_laysRows_133 : decode cX10_laysRows 133 = .ok (.iastore, 1) := by decide +kernel
theorem dX10_laysRows_134 : decode cX10_laysRows 134 = .ok (.aload_n 0, 1) := by decide +kernel
theorem dX10_laysRows_135 : decode cX10_laysRows 135 = .ok (.getfield 39, 3) := by decide +kernel
theorem dX10_laysRows_138 : decode cX10_laysRows 138 = .ok (.aload_n 0, 1) := by decide +kernel
theorem dX10_laysRows_139 : decode cX10_laysRows 139 = .ok (.getfield 172, 3) := by decide +kernel
theorem dX10_laysRows_142 : decode cX10_laysRows 142 = .ok (.iload 6, 2) := by decide +kernel
theorem dX10_laysRows_144 : decode cX10_laysRows 144 = .ok (.iastore, 1) := by decide +kernel
theorem dX10_laysRows_145 : decode cX10_laysRows 145 = .ok (.aload_n 0, 1) := by decide +kernel
theorem dX10_laysRows_146 : decode cX10_laysRows 146 = .ok (.dup, 1) := by decide +kernel
theorem dX10_laysRows_147 : decode cX10_laysRows 147 = .ok (.getfield 172, 3) := by decide +kernel
theorem dX10_laysRows_150 : decode cX10_laysRows 150 = .ok (.iconst 1, 1) := by decide +kernel
theorem dX10_laysRows_151 : decode cX10_laysRows 151 = .ok (.iadd, 1) := by decide +kernel
theorem dX10_laysRows_152 : decode cX10_laysRows 152 = .ok (.putfield 172, 3) := by decide +kernel
theorem dX10_laysRows_155 : decode cX10_laysRows 155 = .ok (.aload_n 0, 1) := by decide +kernel
theorem dX10_laysRows_156 : decode cX10_laysRows 156 = .ok (.getfield 42, 3) := by decide +kernel
theorem dX10_laysRows_159 : decode cX10_laysRows 159 = .ok (.aload_n 0, 1) := by decide +kernel
theorem dX10_laysRows_160 : decode cX10_laysRows 160 = .ok (.getfield 172, 3) := by decide +kernel
theorem dX10_laysRows_163 : decode cX10_laysRows 163 = .ok (.iconst 1, 1) := by decide +kernel
theorem dX10_laysRows_164 : decode cX10_laysRows 164 = .ok (.isub, 1) := by decide +kernel
theorem dX10_laysRows_165 : decode cX10_laysRows 165 = .ok (.iload 6, 2) := by decide +kernel
theorem dX10_laysRows_167 : decode cX10_laysRows 167 = .ok (.iastore, 1) := by decide +kernel
theorem dX10_laysRows_168 : decode cX10_laysRows 168 = .ok (.iinc 6 1, 3) := by decide +kernel
theorem dX10_laysRows_171 : decode cX10_laysRows 171 = .ok (.goto (-108), 3) := by decide +kernel
theorem dX10_laysRows_174 : decode cX10_laysRows 174 = .ok (.iinc 5 1, 3) := by decide +kernel
theorem dX10_laysRows_177 : decode cX10_laysRows 177 = .ok (.goto (-123), 3) := by decide +kernel
theorem dX10_laysRows_180 : decode cX10_laysRows 180 = .ok (.aload_n 0, 1) := by decide +kernel
theorem dX10_laysRows_181 : decode cX10_laysRows 181 = .ok (.invokevirtual 178, 3) := by decide +kernel
theorem dX10_laysRows_184 : decode cX10_laysRows 184 = .ok (.aload_n 0, 1) := by decide +kernel
theorem dX10_laysRows_185 : decode cX10_laysRows 185 = .ok (.invokevirtual 181, 3) := by decide +kernel
theorem dX10_laysRows_188 : decode cX10_laysRows 188 = .ok (.return_, 1) := by decide +kernel
theorem dX10_laysNexts_0 : decode cX10_laysNexts 0 = .ok (.iconst 0, 1) := by decide +kernel
theorem dX10_laysNexts_1 : decode cX10_laysNexts 1 = .ok (.istore_n 1, 1) := by decide +kernel
theorem dX10_laysNexts_2 : decode cX10_laysNexts 2 = .ok (.iload_n 1, 1) := by decide +kernel
theorem dX10_laysNexts_3 : decode cX10_laysNexts 3 = .ok (.aload_n 0, 1) := by decide +kernel
theorem dX10_laysNexts_4 : decode cX10_laysNexts 4 = .ok (.getfield 172, 3) := by decide +kernel
theorem dX10_laysNexts_7 : decode cX10_laysNexts 7 = .ok (.if_icmp .ge 23, 3) := by decide +kernel
theorem dX10_laysNexts_10 : decode cX10_laysNexts 10 = .ok (.aload_n 0, 1) := by decide +kernel
theorem dX10_laysNexts_11 : decode cX10_laysNexts 11 = .ok (.getfield 45, 3) := by decide +kernel
theorem dX10_laysNexts_14 : decode cX10_laysNexts 14 = .ok (.iload_n 1, 1) := by decide +kernel
theorem dX10_laysNexts_15 : decode cX10_laysNexts 15 = .ok (.iconst 0, 1) := by decide +kernel
theorem dX10_laysNexts_16 : decode cX10_laysNexts 16 = .ok (.iastore, 1) := by decide +kernel
theorem dX10_laysNexts_17 : decode cX10_laysNexts 17 = .ok (.aload_n 0, 1) := by decide +kernel
theorem dX10_laysNexts_18 : decode cX10_laysNexts 18 = .ok (.getfield 51, 3) := by decide +kernel
theorem dX10_laysNexts_21 : decode cX10_laysNexts 21 = .ok (.iload_n 1, 1) := by decide +kernel
theorem dX10_laysNexts_22 : decode cX10_laysNexts 22 = .ok (.iconst 0, 1) := by decide +kernel
theorem dX10_laysNexts_23 : decode cX10_laysNexts 23 = .ok (.iastore, 1) := by decide +kernel
theorem dX10_laysNexts_24 : decode cX10_laysNexts 24 = .ok (.iinc 1 1, 3) := by decide +kernel
theorem dX10_laysNexts_27 : decode cX10_laysNexts 27 = .ok (.goto (-25), 3) := by decide +kernel
theorem dX10_laysNexts_30 : decode cX10_laysNexts 30 = .ok (.iconst 0, 1) := by decide +kernel
theorem dX10_laysNexts_31 : decode cX10_laysNexts 31 = .ok (.istore_n 1, 1) := by decide +kernel
theorem dX10_laysNexts_32 : decode cX10_laysNexts 32 = .ok (.iload_n 1, 1) := by decide +kernel
theorem dX10_laysNexts_33 : decode cX10_laysNexts 33 = .ok (.aload_n 0, 1) := by decide +kernel
theorem dX10_laysNexts_34 : decode cX10_laysNexts 34 = .ok (.getfield 172, 3) := by decide +kernel
theorem dX10_laysNexts_37 : decode cX10_laysNexts 37 = .ok (.if_icmp .ge 101, 3) := by decide +kernel
theorem dX10_laysNexts_40 : decode cX10_laysNexts 40 = .ok (.iload_n 1, 1) := by decide +kernel
theorem dX10_laysNexts_41 : decode cX10_laysNexts 41 = .ok (.iconst 1, 1) := by decide +kernel
theorem dX10_laysNexts_42 : decode cX10_laysNexts 42 = .ok (.iadd, 1) := by decide +kernel
theorem dX10_laysNexts_43 : decode cX10_laysNexts 43 = .ok (.istore_n 2, 1) := by decide +kernel
theorem dX10_laysNexts_44 : decode cX10_laysNexts 44 = .ok (.iload_n 2, 1) := by decide +kernel
theorem dX10_laysNexts_45 : decode cX10_laysNexts 45 = .ok (.aload_n 0, 1) := by decide +kernel
theorem dX10_laysNexts_46 : decode cX10_laysNexts 46 = .ok (.getfield 172, 3) := by decide +kernel
theorem dX10_laysNexts_49 : decode cX10_laysNexts 49 = .ok (.if_icmp .ge 83, 3) := by decide +kernel
theorem dX10_laysNexts_52 : decode cX10_laysNexts 52 = .ok (.aload_n 0, 1) := by decide +kernel
theorem dX10_laysNexts_53 : decode cX10_laysNexts 53 = .ok (.getfield 36, 3) := by decide +kernel
theorem dX10_laysNexts_56 : decode cX10_laysNexts 56 = .ok (.iload_n 2, 1) := by decide +kernel
theorem dX10_laysNexts_57 : decode cX10_laysNexts 57 = .ok (.iaload, 1) := by decide +kernel
theorem dX10_laysNexts_58 : decode cX10_laysNexts 58 = .ok (.aload_n 0, 1) := by decide +kernel
theorem dX10_laysNexts_59 : decode cX10_laysNexts 59 = .ok (.getfield 36, 3) := by decide +kernel
theorem dX10_laysNexts_62 : decode cX10_laysNexts 62 = .ok (.iload_n 1, 1) := by decide +kernel
theorem dX10_laysNexts_63 : decode cX10_laysNexts 63 = .ok (.iaload, 1) := by decide +kernel
theorem dX10_laysNexts_64 : decode cX10_laysNexts 64 = .ok (.iconst 1, 1) := by decide +kernel
theorem dX10_laysNexts_65 : decode cX10_laysNexts 65 = .ok (.iadd, 1) := by decide +kernel
theorem dX10_laysNexts_66 : decode cX10_laysNexts 66 = .ok (.if_icmp .ne 60, 3) := by decide +kernel
theorem dX10_laysNexts_69 : decode cX10_laysNexts 69 = .ok (.aload_n 0, 1) := by decide +kernel
theorem dX10_laysNexts_70 : decode cX10_laysNexts 70 = .ok (.getfield 39, 3) := by decide +kernel
theorem dX10_laysNexts_73 : decode cX10_laysNexts 73 = .ok (.iload_n 2, 1) := by decide +kernel
theorem dX10_laysNexts_74 : decode cX10_laysNexts 74 = .ok (.iaload, 1) := by decide +kernel
theorem dX10_laysNexts_75 : decode cX10_laysNexts 75 = .ok (.aload_n 0, 1) := by decide +kernel
theorem dX10_laysNexts_76 : decode cX10_laysNexts 76 = .ok (.getfield 42, 3) := by decide +kernel
theorem dX10_laysNexts_79 : decode cX10_laysNexts 79 = .ok (.iload_n 1, 1) := by decide +kernel
theorem dX10_laysNexts_80 : decode cX10_laysNexts 80 = .ok (.iaload, 1) := by decide +kernel
theorem dX10_laysNexts_81 : decode cX10_laysNexts 81 = .ok (.if_icmp .gt 45, 3) := by decide +kernel
theorem dX10_laysNexts_84 : decode cX10_laysNexts 84 = .ok (.aload_n 0, 1) := by decide +kernel
theorem dX10_laysNexts_85 : decode cX10_laysNexts 85 = .ok (.getfield 39, 3) := by decide +kernel
theorem dX10_laysNexts_88 : decode cX10_laysNexts 88 = .ok (.iload_n 1, 1) := by decide +kernel
theorem dX10_laysNexts_89 : decode cX10_laysNexts 89 = .ok (.iaload, 1) := by decide +kernel
theorem dX10_laysNexts_90 : decode cX10_laysNexts 90 = .ok (.aload_n 0, 1) := by decide +kernel
theorem dX10_laysNexts_91 : decode cX10_laysNexts 91 = .ok (.getfield 42, 3) := by decide +kernel
theorem dX10_laysNexts_94 : decode cX10_laysNexts 94 = .ok (.iload_n 2, 1) := by decide +kernel
theorem dX10_laysNexts_95 : decode cX10_laysNexts 95 = .ok (.iaload, 1) := by decide +kernel
theorem dX10_laysNexts_96 : decode cX10_laysNexts 96 = .ok (.if_icmp .gt 30, 3) := by decide +kernel
theorem dX10_laysNexts_99 : decode cX10_laysNexts 99 = .ok (.aload_n 0, 1) := by decide +kernel
theorem dX10_laysNexts_100 : decode cX10_laysNexts 100 = .ok (.getfield 45, 3) := by decide +kernel
theorem dX10_laysNexts_103 : decode cX10_laysNexts 103 = .ok (.iload_n 1, 1) := by decide +kernel
theorem dX10_laysNexts_104 : decode cX10_laysNexts 104 = .ok (.dup2, 1) := by decide +kernel
theorem dX10_laysNexts_105 : decode cX10_laysNexts 105 = .ok (.iaload, 1) := by decide +kernel
theorem dX10_laysNexts_106 : decode cX10_laysNexts 106 = .ok (.iconst 1, 1) := by decide +kernel
theorem dX10_laysNexts_107 : decode cX10_laysNexts 107 = .ok (.iadd, 1) := by decide +kernel
theorem dX10_laysNexts_108 : decode cX10_laysNexts 108 = .ok (.iastore, 1) := by decide +kernel
theorem dX10_laysNexts_109 : decode cX10_laysNexts 109 = .ok (.aload_n 0, 1) := by decide +kernel
theorem dX10_laysNexts_110 : decode cX10_laysNexts 110 = .ok (.getfield 48, 3) := by decide +kernel
theorem dX10_laysNexts_113 : decode cX10_laysNexts 113 = .ok (.iload_n 1, 1) := by decide +kernel
theorem dX10_laysNexts_114 : decode cX10_laysNexts 114 = .ok (.iload_n 2, 1) := by decide +kernel
theorem dX10_laysNexts_115 : decode cX10_laysNexts 115 = .ok (.iastore, 1) := by decide +kernel
theorem dX10_laysNexts_116 : decode cX10_laysNexts 116 = .ok (.aload_n 0, 1) := by decide +kernel
theorem dX10_laysNexts_117 : decode cX10_laysNexts 117 = .ok (.getfield 51, 3) := by decide +kernel
theorem dX10_laysNexts_120 : decode cX10_laysNexts 120 = .ok (.iload_n 2, 1) := by decide +kernel
theorem dX10_laysNexts_121 : decode cX10_laysNexts 121 = .ok (.dup2, 1) := by decide +kernel
theorem dX10_laysNexts_122 : decode cX10_laysNexts 122 = .ok (.iaload, 1) := by decide +kernel
theorem dX10_laysNexts_123 : decode cX10_laysNexts 123 = .ok (.iconst 1, 1) := by decide +kernel
theorem dX10_laysNexts_124 : decode cX10_laysNexts 124 = .ok (.iadd, 1) := by decide +kernel
theorem dX10_laysNexts_125 : decode cX10_laysNexts 125 = .ok (.iastore, 1) := by decide +kernel
theorem dX10_laysNexts_126 : decode cX10_laysNexts 126 = .ok (.iinc 2 1, 3) := by decide +kernel
theorem dX10_laysNexts_129 : decode cX10_laysNexts 129 = .ok (.goto (-85), 3) := by decide +kernel
theorem dX10_laysNexts_132 : decode cX10_laysNexts 132 = .ok (.iinc 1 1, 3) := by decide +kernel
theorem dX10_laysNexts_135 : decode cX10_laysNexts 135 = .ok (.goto (-103), 3) := by decide +kernel
theorem dX10_laysNexts_138 : decode cX10_laysNexts 138 = .ok (.return_, 1) := by decide +kernel
theorem dX10_laysParts_0 : decode cX10_laysParts 0 = .ok (.aload_n 0, 1) := by decide +kernel
theorem dX10_laysParts_1 : decode cX10_laysParts 1 = .ok (.iconst 0, 1) := by decide +kernel
theorem dX10_laysParts_2 : decode cX10_laysParts 2 = .ok (.putfield 184, 3) := by decide +kernel
theorem dX10_laysParts_5 : decode cX10_laysParts 5 = .ok (.iconst 0, 1) := by decide +kernel
theorem dX10_laysParts_6 : decode cX10_laysParts 6 = .ok (.istore_n 1, 1) := by decide +kernel
theorem dX10_laysParts_7 : decode cX10_laysParts 7 = .ok (.iload_n 1, 1) := by decide +kernel
theorem dX10_laysParts_8 : decode cX10_laysParts 8 = .ok (.aload_n 0, 1) := by decide +kernel
theorem dX10_laysParts_9 : decode cX10_laysParts 9 = .ok (.getfield 172, 3) := by decide +kernel
theorem dX10_laysParts_12 : decode cX10_laysParts 12 = .ok (.if_icmp .ge 17, 3) := by decide +kernel
theorem dX10_laysParts_15 : decode cX10_laysParts 15 = .ok (.aload_n 0, 1) := by decide +kernel
theorem dX10_laysParts_16 : decode cX10_laysParts 16 = .ok (.getfield 54, 3) := by decide +kernel
theorem dX10_laysParts_19 : decode cX10_laysParts 19 = .ok (.iload_n 1, 1) := by decide +kernel
theorem dX10_laysParts_20 : decode cX10_laysParts 20 = .ok (.bipush (-9), 2) := by decide +kernel
theorem dX10_laysParts_22 : decode cX10_laysParts 22 = .ok (.iastore, 1) := by decide +kernel
theorem dX10_laysParts_23 : decode cX10_laysParts 23 = .ok (.iinc 1 1, 3) := by decide +kernel
theorem dX10_laysParts_26 : decode cX10_laysParts 26 = .ok (.goto (-19), 3) := by decide +kernel
theorem dX10_laysParts_29 : decode cX10_laysParts 29 = .ok (.iconst 0, 1) := by decide +kernel
theorem dX10_laysParts_30 : decode cX10_laysParts 30 = .ok (.istore_n 1, 1) := by decide +kernel
theorem dX10_laysParts_31 : decode cX10_laysParts 31 = .ok (.iload_n 1, 1) := by decide +kernel
theorem dX10_laysParts_32 : decode cX10_laysParts 32 = .ok (.aload_n 0, 1) := by decide +kernel
theorem dX10_laysParts_33 : decode cX10_laysParts 33 = .ok (.getfield 172, 3) := by decide +kernel
theorem dX10_laysParts_36 : decode cX10_laysParts 36 = .ok (.if_icmp .ge 121, 3) := by decide +kernel
theorem dX10_laysParts_39 : decode cX10_laysParts 39 = .ok (.aload_n 0, 1) := by decide +kernel
theorem dX10_laysParts_40 : decode cX10_laysParts 40 = .ok (.getfield 54, 3) := by decide +kernel
theorem dX10_laysParts_43 : decode cX10_laysParts 43 = .ok (.iload_n 1, 1) := by decide +kernel
theorem dX10_laysParts_44 : decode cX10_laysParts 44 = .ok (.iaload, 1) := by decide +kernel
theorem dX10_laysParts_45 : decode cX10_laysParts 45 = .ok (.bipush (-9), 2) := by decide +kernel
theorem dX10_laysParts_47 : decode cX10_laysParts 47 = .ok (.if_icmp .ne 43, 3) := by decide +kernel
theorem dX10_laysParts_50 : decode cX10_laysParts 50 = .ok (.aload_n 0, 1) := by decide +kernel
theorem dX10_laysParts_51 : decode cX10_laysParts 51 = .ok (.getfield 54, 3) := by decide +kernel
theorem dX10_laysParts_54 : decode cX10_laysParts 54 = .ok (.iload_n 1, 1) := by decide +kernel
theorem dX10_laysParts_55 : decode cX10_laysParts 55 = .ok (.aload_n 0, 1) := by decide +kernel
theorem dX10_laysParts_56 : decode cX10_laysParts 56 = .ok (.getfield 184, 3) := by decide +kernel
theorem dX10_laysParts_59 : decode cX10_laysParts 59 = .ok (.iastore, 1) := by decide +kernel
theorem dX10_laysParts_60 : decode cX10_laysParts 60 = .ok (.aload_n 0, 1) := by decide +kernel
theorem dX10_laysParts_61 : decode cX10_laysParts 61 = .ok (.getfield 60, 3) := by decide +kernel
theorem dX10_laysParts_64 : decode cX10_laysParts 64 = .ok (.aload_n 0, 1) := by decide +kernel
theorem dX10_laysParts_65 : decode cX10_laysParts 65 = .ok (.getfield 184, 3) := by decide +kernel
theorem dX10_laysParts_68 : decode cX10_laysParts 68 = .ok (.iload_n 1, 1) := by decide +kernel
theorem dX10_laysParts_69 : decode cX10_laysParts 69 = .ok (.iastore, 1) := by decide +kernel
theorem dX10_laysParts_70 : decode cX10_laysParts 70 = .ok (.aload_n 0, 1) := by decide +kernel
theorem dX10_laysParts_71 : decode cX10_laysParts 71 = .ok (.getfield 57, 3) := by decide +kernel
theorem dX10_laysParts_74 : decode cX10_laysParts 74 = .ok (.aload_n 0, 1) := by decide +kernel
theorem dX10_laysParts_75 : decode cX10_laysParts 75 = .ok (.getfield 184, 3) := by decide +kernel
theorem dX10_laysParts_78 : decode cX10_laysParts 78 = .ok (.iconst 0, 1) := by decide +kernel
theorem dX10_laysParts_79 : decode cX10_laysParts 79 = .ok (.iastore, 1) := by decide +kernel
theorem dX10_laysParts_80 : decode cX10_laysParts 80 = .ok (.aload_n 0, 1) := by decide +kernel
theorem dX10_laysParts_81 : decode cX10_laysParts 81 = .ok (.dup, 1) := by decide +kernel
theorem dX10_laysParts_82 : decode cX10_laysParts 82 = .ok (.getfield 184, 3) := by decide +kernel
theorem dX10_laysParts_85 : decode cX10_laysParts 85 = .ok (.iconst 1, 1) := by decide +kernel
theorem dX10_laysParts_86 : decode cX10_laysParts 86 = .ok (.iadd, 1) := by decide +kernel
theorem dX10_laysParts_87 : decode cX10_laysParts 87 = .ok (.putfield 184, 3) := by decide +kernel
theorem dX10_laysParts_90 : decode cX10_laysParts 90 = .ok (.aload_n 0, 1) := by decide +kernel
theorem dX10_laysParts_91 : decode cX10_laysParts 91 = .ok (.getfield 54, 3) := by decide +kernel
theorem dX10_laysParts_94 : decode cX10_laysParts 94 = .ok (.iload_n 1, 1) := by decide +kernel
theorem dX10_laysParts_95 : decode cX10_laysParts 95 = .ok (.iaload, 1) := by decide +kernel
theorem dX10_laysParts_96 : decode cX10_laysParts 96 = .ok (.istore_n 2, 1) := by decide +kernel
theorem dX10_laysParts_97 : decode cX10_laysParts 97 = .ok (.aload_n 0, 1) := by decide +kernel
theorem dX10_laysParts_98 : decode cX10_laysParts 98 = .ok (.getfield 57, 3) := by decide +kernel
theorem dX10_laysParts_101 : decode cX10_laysParts 101 = .ok (.iload_n 2, 1) := by decide +kernel
theorem dX10_laysParts_102 : decode cX10_laysParts 102 = .ok (.dup2, 1) := by decide +kernel
theorem dX10_laysParts_103 : decode cX10_laysParts 103 = .ok (.iaload, 1) := by decide +kernel
theorem dX10_laysParts_104 : decode cX10_laysParts 104 = .ok (.iconst 1, 1) := by decide +kernel
theorem dX10_laysParts_105 : decode cX10_laysParts 105 = .ok (.iadd, 1) := by decide +kernel
theorem dX10_laysParts_106 : decode cX10_laysParts 106 = .ok (.iastore, 1) := by decide +kernel
theorem dX10_laysParts_107 : decode cX10_laysParts 107 = .ok (.aload_n 0, 1) := by decide +kernel
theorem dX10_laysParts_108 : decode cX10_laysParts 108 = .ok (.getfield 63, 3) := by decide +kernel
theorem dX10_laysParts_111 : decode cX10_laysParts 111 = .ok (.iload_n 2, 1) := by decide +kernel
theorem dX10_laysParts_112 : decode cX10_laysParts 112 = .ok (.iload_n 1, 1) := by decide +kernel
theorem dX10_laysParts_113 : decode cX10_laysParts 113 = .ok (.iastore, 1) := by decide +kernel
theorem dX10_laysParts_114 : decode cX10_laysParts 114 = .ok (.aload_n 0, 1) := by decide +kernel
theorem dX10_laysParts_115 : decode cX10_laysParts 115 = .ok (.getfield 45, 3) := by decide +kernel
theorem dX10_laysParts_118 : decode cX10_laysParts 118 = .ok (.iload_n 1, 1) := by decide +kernel
theorem dX10_laysParts_119 : decode cX10_laysParts 119 = .ok (.iaload, 1) := by decide +kernel
theorem dX10_laysParts_120 : decode cX10_laysParts 120 = .ok (.iconst 1, 1) := by decide +kernel
theorem dX10_laysParts_121 : decode cX10_laysParts 121 = .ok (.if_icmp .ne 30, 3) := by decide +kernel
theorem dX10_laysParts_124 : decode cX10_laysParts 124 = .ok (.aload_n 0, 1) := by decide +kernel
theorem dX10_laysParts_125 : decode cX10_laysParts 125 = .ok (.getfield 51, 3) := by decide +kernel
theorem dX10_laysParts_128 : decode cX10_laysParts 128 = .ok (.aload_n 0, 1) := by decide +kernel
theorem dX10_laysParts_129 : decode cX10_laysParts 129 = .ok (.getfield 48, 3) := by decide +kernel
theorem dX10_laysParts_132 : decode cX10_laysParts 132 = .ok (.iload_n 1, 1) := by decide +kernel
theorem dX10_laysParts_133 : decode cX10_laysParts 133 = .ok (.iaload, 1) := by decide +kernel
theorem dX10_laysParts_134 : decode cX10_laysParts 134 = .ok (.iaload, 1) := by decide +kernel
theorem dX10_laysParts_135 : decode cX10_laysParts 135 = .ok (.iconst 1, 1) := by decide +kernel
theorem dX10_laysParts_136 : decode cX10_laysParts 136 = .ok (.if_icmp .ne 15, 3) := by decide +kernel
theorem dX10_laysParts_139 : decode cX10_laysParts 139 = .ok (.aload_n 0, 1) := by decide +kernel
theorem dX10_laysParts_140 : decode cX10_laysParts 140 = .ok (.getfield 54, 3) := by decide +kernel
theorem dX10_laysParts_143 : decode cX10_laysParts 143 = .ok (.aload_n 0, 1) := by decide +kernel
theorem dX10_laysParts_144 : decode cX10_laysParts 144 = .ok (.getfield 48, 3) := by decide +kernel
theorem dX10_laysParts_147 : decode cX10_laysParts 147 = .ok (.iload_n 1, 1) := by decide +kernel
theorem dX10_laysParts_148 : decode cX10_laysParts 148 = .ok (.iaload, 1) := by decide +kernel
theorem dX10_laysParts_149 : decode cX10_laysParts 149 = .ok (.iload_n 2, 1) := by decide +kernel
theorem dX10_laysParts_150 : decode cX10_laysParts 150 = .ok (.iastore, 1) := by decide +kernel
theorem dX10_laysParts_151 : decode cX10_laysParts 151 = .ok (.iinc 1 1, 3) := by decide +kernel
theorem dX10_laysParts_154 : decode cX10_laysParts 154 = .ok (.goto (-123), 3) := by decide +kernel
theorem dX10_laysParts_157 : decode cX10_laysParts 157 = .ok (.return_, 1) := by decide +kernel
theorem dX10_lengthOf_0 : decode cX10_lengthOf 0 = .ok (.aload_n 0, 1) := by decide +kernel
theorem dX10_lengthOf_1 : decode cX10_lengthOf 1 = .ok (.getfield 42, 3) := by decide +kernel
theorem dX10_lengthOf_4 : decode cX10_lengthOf 4 = .ok (.iload_n 1, 1) := by decide +kernel
theorem dX10_lengthOf_5 : decode cX10_lengthOf 5 = .ok (.iaload, 1) := by decide +kernel
theorem dX10_lengthOf_6 : decode cX10_lengthOf 6 = .ok (.aload_n 0, 1) := by decide +kernel
theorem dX10_lengthOf_7 : decode cX10_lengthOf 7 = .ok (.getfield 39, 3) := by decide +kernel
theorem dX10_lengthOf_10 : decode cX10_lengthOf 10 = .ok (.iload_n 1, 1) := by decide +kernel
theorem dX10_lengthOf_11 : decode cX10_lengthOf 11 = .ok (.iaload, 1) := by decide +kernel
theorem dX10_lengthOf_12 : decode cX10_lengthOf 12 = .ok (.isub, 1) := by decide +kernel
theorem dX10_lengthOf_13 : decode cX10_lengthOf 13 = .ok (.iconst 1, 1) := by decide +kernel
theorem dX10_lengthOf_14 : decode cX10_lengthOf 14 = .ok (.iadd, 1) := by decide +kernel
theorem dX10_lengthOf_15 : decode cX10_lengthOf 15 = .ok (.ireturn, 1) := by decide +kernel
theorem dX10_stitchesOf_0 : decode cX10_stitchesOf 0 = .ok (.aload_n 0, 1) := by decide +kernel
theorem dX10_stitchesOf_1 : decode cX10_stitchesOf 1 = .ok (.iload_n 1, 1) := by decide +kernel
theorem dX10_stitchesOf_2 : decode cX10_stitchesOf 2 = .ok (.invokevirtual 187, 3) := by decide +kernel
theorem dX10_stitchesOf_5 : decode cX10_stitchesOf 5 = .ok (.aload_n 0, 1) := by decide +kernel
theorem dX10_stitchesOf_6 : decode cX10_stitchesOf 6 = .ok (.getfield 7, 3) := by decide +kernel
theorem dX10_stitchesOf_9 : decode cX10_stitchesOf 9 = .ok (.iconst 2, 1) := by decide +kernel
theorem dX10_stitchesOf_10 : decode cX10_stitchesOf 10 = .ok (.iaload, 1) := by decide +kernel
theorem dX10_stitchesOf_11 : decode cX10_stitchesOf 11 = .ok (.iadd, 1) := by decide +kernel
theorem dX10_stitchesOf_12 : decode cX10_stitchesOf 12 = .ok (.iconst 1, 1) := by decide +kernel
theorem dX10_stitchesOf_13 : decode cX10_stitchesOf 13 = .ok (.isub, 1) := by decide +kernel
theorem dX10_stitchesOf_14 : decode cX10_stitchesOf 14 = .ok (.aload_n 0, 1) := by decide +kernel
theorem dX10_stitchesOf_15 : decode cX10_stitchesOf 15 = .ok (.getfield 7, 3) := by decide +kernel
theorem dX10_stitchesOf_18 : decode cX10_stitchesOf 18 = .ok (.iconst 2, 1) := by decide +kernel
theorem dX10_stitchesOf_19 : decode cX10_stitchesOf 19 = .ok (.iaload, 1) := by decide +kernel
theorem dX10_stitchesOf_20 : decode cX10_stitchesOf 20 = .ok (.idiv, 1) := by decide +kernel
theorem dX10_stitchesOf_21 : decode cX10_stitchesOf 21 = .ok (.ireturn, 1) := by decide +kernel
theorem dX10_startOf_0 : decode cX10_startOf 0 = .ok (.aload_n 0, 1) := by decide +kernel
theorem dX10_startOf_1 : decode cX10_startOf 1 = .ok (.aload_n 0, 1) := by decide +kernel
theorem dX10_startOf_2 : decode cX10_startOf 2 = .ok (.getfield 36, 3) := by decide +kernel
theorem dX10_startOf_5 : decode cX10_startOf 5 = .ok (.aload_n 0, 1) := by decide +kernel
theorem dX10_startOf_6 : decode cX10_startOf 6 = .ok (.getfield 60, 3) := by decide +kernel
theorem dX10_startOf_9 : decode cX10_startOf 9 = .ok (.iload_n 1, 1) := by decide +kernel
theorem dX10_startOf_10 : decode cX10_startOf 10 = .ok (.iaload, 1) := by decide +kernel
theorem dX10_startOf_11 : decode cX10_startOf 11 = .ok (.iaload, 1) := by decide +kernel
theorem dX10_startOf_12 : decode cX10_startOf 12 = .ok (.aload_n 0, 1) := by decide +kernel
theorem dX10_startOf_13 : decode cX10_startOf 13 = .ok (.getfield 39, 3) := by decide +kernel
theorem dX10_startOf_16 : decode cX10_startOf 16 = .ok (.aload_n 0, 1) := by decide +kernel
theorem dX10_startOf_17 : decode cX10_startOf 17 = .ok (.getfield 60, 3) := by decide +kernel
theorem dX10_startOf_20 : decode cX10_startOf 20 = .ok (.iload_n 1, 1) := by decide +kernel
theorem dX10_startOf_21 : decode cX10_startOf 21 = .ok (.iaload, 1) := by decide +kernel
theorem dX10_startOf_22 : decode cX10_startOf 22 = .ok (.iaload, 1) := by decide +kernel
theorem dX10_startOf_23 : decode cX10_startOf 23 = .ok (.invokevirtual 175, 3) := by decide +kernel
theorem dX10_startOf_26 : decode cX10_startOf 26 = .ok (.ireturn, 1) := by decide +kernel
theorem dX10_endOf_0 : decode cX10_endOf 0 = .ok (.aload_n 0, 1) := by decide +kernel
theorem dX10_endOf_1 : decode cX10_endOf 1 = .ok (.getfield 63, 3) := by decide +kernel
theorem dX10_endOf_4 : decode cX10_endOf 4 = .ok (.iload_n 1, 1) := by decide +kernel
theorem dX10_endOf_5 : decode cX10_endOf 5 = .ok (.iaload, 1) := by decide +kernel
theorem dX10_endOf_6 : decode cX10_endOf 6 = .ok (.istore_n 2, 1) := by decide +kernel
theorem dX10_endOf_7 : decode cX10_endOf 7 = .ok (.aload_n 0, 1) := by decide +kernel
theorem dX10_endOf_8 : decode cX10_endOf 8 = .ok (.aload_n 0, 1) := by decide +kernel
theorem dX10_endOf_9 : decode cX10_endOf 9 = .ok (.getfield 36, 3) := by decide +kernel
theorem dX10_endOf_12 : decode cX10_endOf 12 = .ok (.iload_n 2, 1) := by decide +kernel
theorem dX10_endOf_13 : decode cX10_endOf 13 = .ok (.iaload, 1) := by decide +kernel
theorem dX10_endOf_14 : decode cX10_endOf 14 = .ok (.aload_n 0, 1) := by decide +kernel
theorem dX10_endOf_15 : decode cX10_endOf 15 = .ok (.getfield 57, 3) := by decide +kernel
theorem dX10_endOf_18 : decode cX10_endOf 18 = .ok (.iload_n 1, 1) := by decide +kernel
theorem dX10_endOf_19 : decode cX10_endOf 19 = .ok (.iaload, 1) := by decide +kernel
theorem dX10_endOf_20 : decode cX10_endOf 20 = .ok (.iconst 2, 1) := by decide +kernel
theorem dX10_endOf_21 : decode cX10_endOf 21 = .ok (.irem, 1) := by decide +kernel
theorem dX10_endOf_22 : decode cX10_endOf 22 = .ok (.iconst 1, 1) := by decide +kernel
theorem dX10_endOf_23 : decode cX10_endOf 23 = .ok (.if_icmp .ne 12, 3) := by decide +kernel
theorem dX10_endOf_26 : decode cX10_endOf 26 = .ok (.aload_n 0, 1) := by decide +kernel
theorem dX10_endOf_27 : decode cX10_endOf 27 = .ok (.getfield 42, 3) := by decide +kernel
theorem dX10_endOf_30 : decode cX10_endOf 30 = .ok (.iload_n 2, 1) := by decide +kernel
theorem dX10_endOf_31 : decode cX10_endOf 31 = .ok (.iaload, 1) := by decide +kernel
theorem dX10_endOf_32 : decode cX10_endOf 32 = .ok (.goto 9, 3) := by decide +kernel
theorem dX10_endOf_35 : decode cX10_endOf 35 = .ok (.aload_n 0, 1) := by decide +kernel
theorem dX10_endOf_36 : decode cX10_endOf 36 = .ok (.getfield 39, 3) := by decide +kernel
theorem dX10_endOf_39 : decode cX10_endOf 39 = .ok (.iload_n 2, 1) := by decide +kernel
theorem dX10_endOf_40 : decode cX10_endOf 40 = .ok (.iaload, 1) := by decide +kernel
theorem dX10_endOf_41 : decode cX10_endOf 41 = .ok (.invokevirtual 175, 3) := by decide +kernel
theorem dX10_endOf_44 : decode cX10_endOf 44 = .ok (.ireturn, 1) := by decide +kernel
theorem dX10_stepsBetween_0 : decode cX10_stepsBetween 0 = .ok (.aload_n 0, 1) := by decide +kernel
theorem dX10_stepsBetween_1 : decode cX10_stepsBetween 1 = .ok (.getfield 33, 3) := by decide +kernel
theorem dX10_stepsBetween_4 : decode cX10_stepsBetween 4 = .ok (.iload_n 1, 1) := by decide +kernel
theorem dX10_stepsBetween_5 : decode cX10_stepsBetween 5 = .ok (.iaload, 1) := by decide +kernel
theorem dX10_stepsBetween_6 : decode cX10_stepsBetween 6 = .ok (.istore_n 3, 1) := by decide +kernel
theorem dX10_stepsBetween_7 : decode cX10_stepsBetween 7 = .ok (.iconst 0, 1) := by decide +kernel
theorem dX10_stepsBetween_8 : decode cX10_stepsBetween 8 = .ok (.istore 4, 2) := by decide +kernel
theorem dX10_stepsBetween_10 : decode cX10_stepsBetween 10 = .ok (.iload 4, 2) := by decide +kernel
theorem dX10_stepsBetween_12 : decode cX10_stepsBetween 12 = .ok (.bipush 48, 2) := by decide +kernel
theorem dX10_stepsBetween_14 : decode cX10_stepsBetween 14 = .ok (.if_icmp .ge 29, 3) := by decide +kernel
theorem dX10_stepsBetween_17 : decode cX10_stepsBetween 17 = .ok (.aload_n 0, 1) := by decide +kernel
theorem dX10_stepsBetween_18 : decode cX10_stepsBetween 18 = .ok (.getfield 66, 3) := by decide +kernel
theorem dX10_stepsBetween_21 : decode cX10_stepsBetween 21 = .ok (.iload 4, 2) := by decide +kernel
theorem dX10_stepsBetween_23 : decode cX10_stepsBetween 23 = .ok (.iload 4, 2) := by decide +kernel
theorem dX10_stepsBetween_25 : decode cX10_stepsBetween 25 = .ok (.iload_n 1, 1) := by decide +kernel
theorem dX10_stepsBetween_26 : decode cX10_stepsBetween 26 = .ok (.if_icmp .ne 7, 3) := by decide +kernel
theorem dX10_stepsBetween_29 : decode cX10_stepsBetween 29 = .ok (.iconst 0, 1) := by decide +kernel
theorem dX10_stepsBetween_30 : decode cX10_stepsBetween 30 = .ok (.goto 6, 3) := by decide +kernel
theorem dX10_stepsBetween_33 : decode cX10_stepsBetween 33 = .ok (.sipush 1000, 3) := by decide +kernel
theorem dX10_stepsBetween_36 : decode cX10_stepsBetween 36 = .ok (.iastore, 1) := by decide +kernel
theorem dX10_stepsBetween_37 : decode cX10_stepsBetween 37 = .ok (.iinc 4 1, 3) := by decide +kernel
theorem dX10_stepsBetween_40 : decode cX10_stepsBetween 40 = .ok (.goto (-30), 3) := by decide +kernel
theorem dX10_stepsBetween_43 : decode cX10_stepsBetween 43 = .ok (.iconst 0, 1) := by decide +kernel
theorem dX10_stepsBetween_44 : decode cX10_stepsBetween 44 = .ok (.istore 4, 2) := by decide +kernel
theorem dX10_stepsBetween_46 : decode cX10_stepsBetween 46 = .ok (.aload_n 0, 1) := by decide +kernel
theorem dX10_stepsBetween_47 : decode cX10_stepsBetween 47 = .ok (.getfield 66, 3) := by decide +kernel
theorem dX10_stepsBetween_50 : decode cX10_stepsBetween 50 = .ok (.iload_n 2, 1) := by decide +kernel
theorem dX10_stepsBetween_51 : decode cX10_stepsBetween 51 = .ok (.iaload, 1) := by decide +kernel
theorem dX10_stepsBetween_52 : decode cX10_stepsBetween 52 = .ok (.sipush 1000, 3) := by decide +kernel
theorem dX10_stepsBetween_55 : decode cX10_stepsBetween 55 = .ok (.if_icmp .ne 103, 3) := by decide +kernel
theorem dX10_stepsBetween_58 : decode cX10_stepsBetween 58 = .ok (.iconst 0, 1) := by decide +kernel
theorem dX10_stepsBetween_59 : decode cX10_stepsBetween 59 = .ok (.istore 5, 2) := by decide +kernel
theorem dX10_stepsBetween_61 : decode cX10_stepsBetween 61 = .ok (.iload 5, 2) := by decide +kernel
theorem dX10_stepsBetween_63 : decode cX10_stepsBetween 63 = .ok (.aload_n 0, 1) := by decide +kernel
theorem dX10_stepsBetween_64 : decode cX10_stepsBetween 64 = .ok (.invokevirtual 151, 3) := by decide +kernel
theorem dX10_stepsBetween_67 : decode cX10_stepsBetween 67 = .ok (.if_icmp .ge 85, 3) := by decide +kernel
theorem dX10_stepsBetween_70 : decode cX10_stepsBetween 70 = .ok (.iconst 0, 1) := by decide +kernel
theorem dX10_stepsBetween_71 : decode cX10_stepsBetween 71 = .ok (.istore 6, 2) := by decide +kernel
theorem dX10_stepsBetween_73 : decode cX10_stepsBetween 73 = .ok (.iload 6, 2) := by decide +kernel
theorem dX10_stepsBetween_75 : decode cX10_stepsBetween 75 = .ok (.aload_n 0, 1) := by decide +kernel
theorem dX10_stepsBetween_76 : decode cX10_stepsBetween 76 = .ok (.invokevirtual 151, 3) := by decide +kernel
theorem dX10_stepsBetween_79 : decode cX10_stepsBetween 79 = .ok (.if_icmp .ge 67, 3) := by decide +kernel
theorem dX10_stepsBetween_82 : decode cX10_stepsBetween 82 = .ok (.aload_n 0, 1) := by decide +kernel
theorem dX10_stepsBetween_83 : decode cX10_stepsBetween 83 = .ok (.getfield 66, 3) := by decide +kernel
theorem dX10_stepsBetween_86 : decode cX10_stepsBetween 86 = .ok (.iload 5, 2) := by decide +kernel
theorem dX10_stepsBetween_88 : decode cX10_stepsBetween 88 = .ok (.iaload, 1) := by decide +kernel
theorem dX10_stepsBetween_89 : decode cX10_stepsBetween 89 = .ok (.iload 4, 2) := by decide +kernel
theorem dX10_stepsBetween_91 : decode cX10_stepsBetween 91 = .ok (.if_icmp .ne 55, 3) := by decide +kernel
theorem dX10_stepsBetween_94 : decode cX10_stepsBetween 94 = .ok (.aload_n 0, 1) := by decide +kernel
theorem dX10_stepsBetween_95 : decode cX10_stepsBetween 95 = .ok (.getfield 66, 3) := by decide +kernel
theorem dX10_stepsBetween_98 : decode cX10_stepsBetween 98 = .ok (.iload 6, 2) := by decide +kernel
theorem dX10_stepsBetween_100 : decode cX10_stepsBetween 100 = .ok (.iaload, 1) := by decide +kernel
theorem dX10_stepsBetween_101 : decode cX10_stepsBetween 101 = .ok (.sipush 1000, 3) := by decide +kernel
theorem dX10_stepsBetween_104 : decode cX10_stepsBetween 104 = .ok (.if_icmp .ne 36, 3) := by decide +kernel
theorem dX10_stepsBetween_107 : decode cX10_stepsBetween 107 = .ok (.aload_n 0, 1) := by decide +kernel
theorem dX10_stepsBetween_108 : decode cX10_stepsBetween 108 = .ok (.getfield 33, 3) := by decide +kernel
theorem dX10_stepsBetween_111 : decode cX10_stepsBetween 111 = .ok (.iload 6, 2) := by decide +kernel
theorem dX10_stepsBetween_113 : decode cX10_stepsBetween 113 = .ok (.iaload, 1) := by decide +kernel
theorem dX10_stepsBetween_114 : decode cX10_stepsBetween 114 = .ok (.iload_n 3, 1) := by decide +kernel
theorem dX10_stepsBetween_115 : decode cX10_stepsBetween 115 = .ok (.if_icmp .ne 25, 3) := by decide +kernel
theorem dX10_stepsBetween_118 : decode cX10_stepsBetween 118 = .ok (.aload_n 0, 1) := by decide +kernel
theorem dX10_stepsBetween_119 : decode cX10_stepsBetween 119 = .ok (.iload 5, 2) := by decide +kernel
theorem dX10_stepsBetween_121 : decode cX10_stepsBetween 121 = .ok (.iload 6, 2) := by decide +kernel
theorem dX10_stepsBetween_123 : decode cX10_stepsBetween 123 = .ok (.invokevirtual 157, 3) := by decide +kernel
theorem dX10_stepsBetween_126 : decode cX10_stepsBetween 126 = .ok (.ifCond .eq 14, 3) := by decide +kernel
theorem dX10_stepsBetween_129 : decode cX10_stepsBetween 129 = .ok (.aload_n 0, 1) := by decide +kernel
theorem dX10_stepsBetween_130 : decode cX10_stepsBetween 130 = .ok (.getfield 66, 3) := by decide +kernel
theorem dX10_stepsBetween_133 : decode cX10_stepsBetween 133 = .ok (.iload 6, 2) := by decide +kernel
theorem dX10_stepsBetween_135 : decode cX10_stepsBetween 135 = .ok (.iload 4, 2) := by decide +kernel
theorem dX10_stepsBetween_137 : decode cX10_stepsBetween 137 = .ok (.iconst 1, 1) := by decide +kernel
theorem dX10_stepsBetween_138 : decode cX10_stepsBetween 138 = .ok (.iadd, 1) := by decide +kernel
theorem dX10_stepsBetween_139 : decode cX10_stepsBetween 139 = .ok (.iastore, 1) := by decide +kernel
theorem dX10_stepsBetween_140 : decode cX10_stepsBetween 140 = .ok (.iinc 6 1, 3) := by decide +kernel
theorem dX10_stepsBetween_143 : decode cX10_stepsBetween 143 = .ok (.goto (-70), 3) := by decide +kernel
theorem dX10_stepsBetween_146 : decode cX10_stepsBetween 146 = .ok (.iinc 5 1, 3) := by decide +kernel
theorem dX10_stepsBetween_149 : decode cX10_stepsBetween 149 = .ok (.goto (-88), 3) := by decide +kernel
theorem dX10_stepsBetween_152 : decode cX10_stepsBetween 152 = .ok (.iinc 4 1, 3) := by decide +kernel
theorem dX10_stepsBetween_155 : decode cX10_stepsBetween 155 = .ok (.goto (-109), 3) := by decide +kernel
theorem dX10_stepsBetween_158 : decode cX10_stepsBetween 158 = .ok (.aload_n 0, 1) := by decide +kernel
theorem dX10_stepsBetween_159 : decode cX10_stepsBetween 159 = .ok (.getfield 66, 3) := by decide +kernel
theorem dX10_stepsBetween_162 : decode cX10_stepsBetween 162 = .ok (.iload_n 2, 1) := by decide +kernel
theorem dX10_stepsBetween_163 : decode cX10_stepsBetween 163 = .ok (.iaload, 1) := by decide +kernel
theorem dX10_stepsBetween_164 : decode cX10_stepsBetween 164 = .ok (.ireturn, 1) := by decide +kernel
theorem dX10_hiddenOf_0 : decode cX10_hiddenOf 0 = .ok (.aload_n 0, 1) := by decide +kernel
theorem dX10_hiddenOf_1 : decode cX10_hiddenOf 1 = .ok (.aload_n 0, 1) := by decide +kernel
theorem dX10_hiddenOf_2 : decode cX10_hiddenOf 2 = .ok (.iload_n 1, 1) := by decide +kernel
theorem dX10_hiddenOf_3 : decode cX10_hiddenOf 3 = .ok (.invokevirtual 190, 3) := by decide +kernel
theorem dX10_hiddenOf_6 : decode cX10_hiddenOf 6 = .ok (.aload_n 0, 1) := by decide +kernel
theorem dX10_hiddenOf_7 : decode cX10_hiddenOf 7 = .ok (.iload_n 1, 1) := by decide +kernel
theorem dX10_hiddenOf_8 : decode cX10_hiddenOf 8 = .ok (.iconst 1, 1) := by decide +kernel
theorem dX10_hiddenOf_9 : decode cX10_hiddenOf 9 = .ok (.iadd, 1) := by decide +kernel
theorem dX10_hiddenOf_10 : decode cX10_hiddenOf 10 = .ok (.invokevirtual 193, 3) := by decide +kernel
theorem dX10_hiddenOf_13 : decode cX10_hiddenOf 13 = .ok (.invokevirtual 196, 3) := by decide +kernel
theorem dX10_hiddenOf_16 : decode cX10_hiddenOf 16 = .ok (.ireturn, 1) := by decide +kernel
theorem dX10_travel_0 : decode cX10_travel 0 = .ok (.iconst 0, 1) := by decide +kernel
theorem dX10_travel_1 : decode cX10_travel 1 = .ok (.istore_n 1, 1) := by decide +kernel
theorem dX10_travel_2 : decode cX10_travel 2 = .ok (.iconst 0, 1) := by decide +kernel
theorem dX10_travel_3 : decode cX10_travel 3 = .ok (.istore_n 2, 1) := by decide +kernel
theorem dX10_travel_4 : decode cX10_travel 4 = .ok (.iload_n 2, 1) := by decide +kernel
theorem dX10_travel_5 : decode cX10_travel 5 = .ok (.iconst 1, 1) := by decide +kernel
theorem dX10_travel_6 : decode cX10_travel 6 = .ok (.iadd, 1) := by decide +kernel
theorem dX10_travel_7 : decode cX10_travel 7 = .ok (.aload_n 0, 1) := by decide +kernel
theorem dX10_travel_8 : decode cX10_travel 8 = .ok (.getfield 184, 3) := by decide +kernel
theorem dX10_travel_11 : decode cX10_travel 11 = .ok (.if_icmp .ge 17, 3) := by decide +kernel
theorem dX10_travel_14 : decode cX10_travel 14 = .ok (.iload_n 1, 1) := by decide +kernel
theorem dX10_travel_15 : decode cX10_travel 15 = .ok (.aload_n 0, 1) := by decide +kernel
theorem dX10_travel_16 : decode cX10_travel 16 = .ok (.iload_n 2, 1) := by decide +kernel
theorem dX10_travel_17 : decode cX10_travel 17 = .ok (.invokevirtual 199, 3) := by decide +kernel
theorem dX10_travel_20 : decode cX10_travel 20 = .ok (.iadd, 1) := by decide +kernel
theorem dX10_travel_21 : decode cX10_travel 21 = .ok (.istore_n 1, 1) := by decide +kernel
theorem dX10_travel_22 : decode cX10_travel 22 = .ok (.iinc 2 1, 3) := by decide +kernel
theorem dX10_travel_25 : decode cX10_travel 25 = .ok (.goto (-21), 3) := by decide +kernel
theorem dX10_travel_28 : decode cX10_travel 28 = .ok (.iload_n 1, 1) := by decide +kernel
theorem dX10_travel_29 : decode cX10_travel 29 = .ok (.ireturn, 1) := by decide +kernel
theorem dX10_stitches_0 : decode cX10_stitches 0 = .ok (.iconst 0, 1) := by decide +kernel
theorem dX10_stitches_1 : decode cX10_stitches 1 = .ok (.istore_n 1, 1) := by decide +kernel
theorem dX10_stitches_2 : decode cX10_stitches 2 = .ok (.iconst 0, 1) := by decide +kernel
theorem dX10_stitches_3 : decode cX10_stitches 3 = .ok (.istore_n 2, 1) := by decide +kernel
theorem dX10_stitches_4 : decode cX10_stitches 4 = .ok (.iload_n 2, 1) := by decide +kernel
theorem dX10_stitches_5 : decode cX10_stitches 5 = .ok (.aload_n 0, 1) := by decide +kernel
theorem dX10_stitches_6 : decode cX10_stitches 6 = .ok (.getfield 172, 3) := by decide +kernel
theorem dX10_stitches_9 : decode cX10_stitches 9 = .ok (.if_icmp .ge 17, 3) := by decide +kernel
theorem dX10_stitches_12 : decode cX10_stitches 12 = .ok (.iload_n 1, 1) := by decide +kernel
theorem dX10_stitches_13 : decode cX10_stitches 13 = .ok (.aload_n 0, 1) := by decide +kernel
theorem dX10_stitches_14 : decode cX10_stitches 14 = .ok (.iload_n 2, 1) := by decide +kernel
theorem dX10_stitches_15 : decode cX10_stitches 15 = .ok (.invokevirtual 202, 3) := by decide +kernel
theorem dX10_stitches_18 : decode cX10_stitches 18 = .ok (.iadd, 1) := by decide +kernel
theorem dX10_stitches_19 : decode cX10_stitches 19 = .ok (.istore_n 1, 1) := by decide +kernel
theorem dX10_stitches_20 : decode cX10_stitches 20 = .ok (.iinc 2 1, 3) := by decide +kernel
theorem dX10_stitches_23 : decode cX10_stitches 23 = .ok (.goto (-19), 3) := by decide +kernel
theorem dX10_stitches_26 : decode cX10_stitches 26 = .ok (.iload_n 1, 1) := by decide +kernel
theorem dX10_stitches_27 : decode cX10_stitches 27 = .ok (.ireturn, 1) := by decide +kernel
theorem dX10_toldOf_0 : decode cX10_toldOf 0 = .ok (.aload_n 0, 1) := by decide +kernel
theorem dX10_toldOf_1 : decode cX10_toldOf 1 = .ok (.iload_n 1, 1) := by decide +kernel
theorem dX10_toldOf_2 : decode cX10_toldOf 2 = .ok (.iload_n 2, 1) := by decide +kernel
theorem dX10_toldOf_3 : decode cX10_toldOf 3 = .ok (.invokevirtual 205, 3) := by decide +kernel
theorem dX10_toldOf_6 : decode cX10_toldOf 6 = .ok (.iload_n 3, 1) := by decide +kernel
theorem dX10_toldOf_7 : decode cX10_toldOf 7 = .ok (.ifCond .ne 10, 3) := by decide +kernel
theorem dX10_toldOf_10 : decode cX10_toldOf 10 = .ok (.aload_n 0, 1) := by decide +kernel
theorem dX10_toldOf_11 : decode cX10_toldOf 11 = .ok (.getfield 172, 3) := by decide +kernel
theorem dX10_toldOf_14 : decode cX10_toldOf 14 = .ok (.goto 31, 3) := by decide +kernel
theorem dX10_toldOf_17 : decode cX10_toldOf 17 = .ok (.iload_n 3, 1) := by decide +kernel
theorem dX10_toldOf_18 : decode cX10_toldOf 18 = .ok (.iconst 1, 1) := by decide +kernel
theorem dX10_toldOf_19 : decode cX10_toldOf 19 = .ok (.if_icmp .ne 10, 3) := by decide +kernel
theorem dX10_toldOf_22 : decode cX10_toldOf 22 = .ok (.aload_n 0, 1) := by decide +kernel
theorem dX10_toldOf_23 : decode cX10_toldOf 23 = .ok (.getfield 184, 3) := by decide +kernel
theorem dX10_toldOf_26 : decode cX10_toldOf 26 = .ok (.goto 19, 3) := by decide +kernel
theorem dX10_toldOf_29 : decode cX10_toldOf 29 = .ok (.iload_n 3, 1) := by decide +kernel
theorem dX10_toldOf_30 : decode cX10_toldOf 30 = .ok (.iconst 2, 1) := by decide +kernel
theorem dX10_toldOf_31 : decode cX10_toldOf 31 = .ok (.if_icmp .ne 10, 3) := by decide +kernel
theorem dX10_toldOf_34 : decode cX10_toldOf 34 = .ok (.aload_n 0, 1) := by decide +kernel
theorem dX10_toldOf_35 : decode cX10_toldOf 35 = .ok (.invokevirtual 208, 3) := by decide +kernel
theorem dX10_toldOf_38 : decode cX10_toldOf 38 = .ok (.goto 7, 3) := by decide +kernel
theorem dX10_toldOf_41 : decode cX10_toldOf 41 = .ok (.aload_n 0, 1) := by decide +kernel
theorem dX10_toldOf_42 : decode cX10_toldOf 42 = .ok (.invokevirtual 211, 3) := by decide +kernel
theorem dX10_toldOf_45 : decode cX10_toldOf 45 = .ok (.ireturn, 1) := by decide +kernel
theorem dX10_bestWay_0 : decode cX10_bestWay 0 = .ok (.iconst 1, 1) := by decide +kernel
theorem dX10_bestWay_1 : decode cX10_bestWay 1 = .ok (.istore_n 2, 1) := by decide +kernel
theorem dX10_bestWay_2 : decode cX10_bestWay 2 = .ok (.iload_n 2, 1) := by decide +kernel
theorem dX10_bestWay_3 : decode cX10_bestWay 3 = .ok (.iconst 4, 1) := by decide +kernel
theorem dX10_bestWay_4 : decode cX10_bestWay 4 = .ok (.if_icmp .ge 44, 3) := by decide +kernel
theorem dX10_bestWay_7 : decode cX10_bestWay 7 = .ok (.aload_n 0, 1) := by decide +kernel
theorem dX10_bestWay_8 : decode cX10_bestWay 8 = .ok (.iload_n 1, 1) := by decide +kernel
theorem dX10_bestWay_9 : decode cX10_bestWay 9 = .ok (.iconst 0, 1) := by decide +kernel
theorem dX10_bestWay_10 : decode cX10_bestWay 10 = .ok (.iload_n 2, 1) := by decide +kernel
theorem dX10_bestWay_11 : decode cX10_bestWay 11 = .ok (.invokevirtual 214, 3) := by decide +kernel
theorem dX10_bestWay_14 : decode cX10_bestWay 14 = .ok (.istore_n 3, 1) := by decide +kernel
theorem dX10_bestWay_15 : decode cX10_bestWay 15 = .ok (.aload_n 0, 1) := by decide +kernel
theorem dX10_bestWay_16 : decode cX10_bestWay 16 = .ok (.iload_n 1, 1) := by decide +kernel
theorem dX10_bestWay_17 : decode cX10_bestWay 17 = .ok (.iconst 1, 1) := by decide +kernel
theorem dX10_bestWay_18 : decode cX10_bestWay 18 = .ok (.iload_n 2, 1) := by decide +kernel
theorem dX10_bestWay_19 : decode cX10_bestWay 19 = .ok (.invokevirtual 214, 3) := by decide +kernel
theorem dX10_bestWay_22 : decode cX10_bestWay 22 = .ok (.istore 4, 2) := by decide +kernel
theorem dX10_bestWay_24 : decode cX10_bestWay 24 = .ok (.iload_n 3, 1) := by decide +kernel
theorem dX10_bestWay_25 : decode cX10_bestWay 25 = .ok (.iload 4, 2) := by decide +kernel
theorem dX10_bestWay_27 : decode cX10_bestWay 27 = .ok (.if_icmp .eq 15, 3) := by decide +kernel
theorem dX10_bestWay_30 : decode cX10_bestWay 30 = .ok (.iload_n 3, 1) := by decide +kernel
theorem dX10_bestWay_31 : decode cX10_bestWay 31 = .ok (.iload 4, 2) := by decide +kernel
theorem dX10_bestWay_33 : decode cX10_bestWay 33 = .ok (.if_icmp .ge 7, 3) := by decide +kernel
theorem dX10_bestWay_36 : decode cX10_bestWay 36 = .ok (.iconst 0, 1) := by decide +kernel
theorem dX10_bestWay_37 : decode cX10_bestWay 37 = .ok (.goto 4, 3) := by decide +kernel
theorem dX10_bestWay_40 : decode cX10_bestWay 40 = .ok (.iconst 1, 1) := by decide +kernel
theorem dX10_bestWay_41 : decode cX10_bestWay 41 = .ok (.ireturn, 1) := by decide +kernel
theorem dX10_bestWay_42 : decode cX10_bestWay 42 = .ok (.iinc 2 1, 3) := by decide +kernel
theorem dX10_bestWay_45 : decode cX10_bestWay 45 = .ok (.goto (-43), 3) := by decide +kernel
theorem dX10_bestWay_48 : decode cX10_bestWay 48 = .ok (.iconst 0, 1) := by decide +kernel
theorem dX10_bestWay_49 : decode cX10_bestWay 49 = .ok (.ireturn, 1) := by decide +kernel
theorem dX10_covers_0 : decode cX10_covers 0 = .ok (.aload_n 0, 1) := by decide +kernel
theorem dX10_covers_1 : decode cX10_covers 1 = .ok (.getfield 7, 3) := by decide +kernel
theorem dX10_covers_4 : decode cX10_covers 4 = .ok (.iconst 4, 1) := by decide +kernel
theorem dX10_covers_5 : decode cX10_covers 5 = .ok (.aload_n 0, 1) := by decide +kernel
theorem dX10_covers_6 : decode cX10_covers 6 = .ok (.iload_n 1, 1) := by decide +kernel
theorem dX10_covers_7 : decode cX10_covers 7 = .ok (.invokevirtual 218, 3) := by decide +kernel
theorem dX10_covers_10 : decode cX10_covers 10 = .ok (.iadd, 1) := by decide +kernel
theorem dX10_covers_11 : decode cX10_covers 11 = .ok (.iaload, 1) := by decide +kernel
theorem dX10_covers_12 : decode cX10_covers 12 = .ok (.istore_n 2, 1) := by decide +kernel
theorem dX10_covers_13 : decode cX10_covers 13 = .ok (.aload_n 0, 1) := by decide +kernel
theorem dX10_covers_14 : decode cX10_covers 14 = .ok (.iload_n 1, 1) := by decide +kernel
theorem dX10_covers_15 : decode cX10_covers 15 = .ok (.iload_n 2, 1) := by decide +kernel
theorem dX10_covers_16 : decode cX10_covers 16 = .ok (.invokevirtual 205, 3) := by decide +kernel
theorem dX10_covers_19 : decode cX10_covers 19 = .ok (.iload_n 2, 1) := by decide +kernel
theorem dX10_covers_20 : decode cX10_covers 20 = .ok (.ifCond .ne 12, 3) := by decide +kernel
theorem dX10_covers_23 : decode cX10_covers 23 = .ok (.aload_n 0, 1) := by decide +kernel
theorem dX10_covers_24 : decode cX10_covers 24 = .ok (.getfield 7, 3) := by decide +kernel
theorem dX10_covers_27 : decode cX10_covers 27 = .ok (.iconst 0, 1) := by decide +kernel
theorem dX10_covers_28 : decode cX10_covers 28 = .ok (.iaload, 1) := by decide +kernel
theorem dX10_covers_29 : decode cX10_covers 29 = .ok (.goto 9, 3) := by decide +kernel
theorem dX10_covers_32 : decode cX10_covers 32 = .ok (.aload_n 0, 1) := by decide +kernel
theorem dX10_covers_33 : decode cX10_covers 33 = .ok (.getfield 7, 3) := by decide +kernel
theorem dX10_covers_36 : decode cX10_covers 36 = .ok (.iconst 1, 1) := by decide +kernel
theorem dX10_covers_37 : decode cX10_covers 37 = .ok (.iaload, 1) := by decide +kernel
theorem dX10_covers_38 : decode cX10_covers 38 = .ok (.istore_n 3, 1) := by decide +kernel
theorem dX10_covers_39 : decode cX10_covers 39 = .ok (.iconst 0, 1) := by decide +kernel
theorem dX10_covers_40 : decode cX10_covers 40 = .ok (.istore 4, 2) := by decide +kernel
theorem dX10_covers_42 : decode cX10_covers 42 = .ok (.iload 4, 2) := by decide +kernel
theorem dX10_covers_44 : decode cX10_covers 44 = .ok (.bipush 48, 2) := by decide +kernel
theorem dX10_covers_46 : decode cX10_covers 46 = .ok (.if_icmp .ge 17, 3) := by decide +kernel
theorem dX10_covers_49 : decode cX10_covers 49 = .ok (.aload_n 0, 1) := by decide +kernel
theorem dX10_covers_50 : decode cX10_covers 50 = .ok (.getfield 69, 3) := by decide +kernel
theorem dX10_covers_53 : decode cX10_covers 53 = .ok (.iload 4, 2) := by decide +kernel
theorem dX10_covers_55 : decode cX10_covers 55 = .ok (.iconst 0, 1) := by decide +kernel
theorem dX10_covers_56 : decode cX10_covers 56 = .ok (.bastore, 1) := by decide +kernel
theorem dX10_covers_57 : decode cX10_covers 57 = .ok (.iinc 4 1, 3) := by decide +kernel
theorem dX10_covers_60 : decode cX10_covers 60 = .ok (.goto (-18), 3) := by decide +kernel
theorem dX10_covers_63 : decode cX10_covers 63 = .ok (.iconst 0, 1) := by decide +kernel
theorem dX10_covers_64 : decode cX10_covers 64 = .ok (.istore 4, 2) := by decide +kernel
theorem dX10_covers_66 : decode cX10_covers 66 = .ok (.iload 4, 2) := by decide +kernel
theorem dX10_covers_68 : decode cX10_covers 68 = .ok (.aload_n 0, 1) := by decide +kernel
theorem dX10_covers_69 : decode cX10_covers 69 = .ok (.getfield 172, 3) := by decide +kernel
theorem dX10_covers_72 : decode cX10_covers 72 = .ok (.if_icmp .ge 81, 3) := by decide +kernel
theorem dX10_covers_75 : decode cX10_covers 75 = .ok (.aload_n 0, 1) := by decide +kernel
theorem dX10_covers_76 : decode cX10_covers 76 = .ok (.getfield 39, 3) := by decide +kernel
theorem dX10_covers_79 : decode cX10_covers 79 = .ok (.iload 4, 2) := by decide +kernel
theorem dX10_covers_81 : decode cX10_covers 81 = .ok (.iaload, 1) := by decide +kernel
theorem dX10_covers_82 : decode cX10_covers 82 = .ok (.aload_n 0, 1) := by decide +kernel
theorem dX10_covers_83 : decode cX10_covers 83 = .ok (.getfield 7, 3) := by decide +kernel
theorem dX10_covers_86 : decode cX10_covers 86 = .ok (.iconst 3, 1) := by decide +kernel
theorem dX10_covers_87 : decode cX10_covers 87 = .ok (.iaload, 1) := by decide +kernel
theorem dX10_covers_88 : decode cX10_covers 88 = .ok (.isub, 1) := by decide +kernel
theorem dX10_covers_89 : decode cX10_covers 89 = .ok (.istore 5, 2) := by decide +kernel
theorem dX10_covers_91 : decode cX10_covers 91 = .ok (.iload 5, 2) := by decide +kernel
theorem dX10_covers_93 : decode cX10_covers 93 = .ok (.aload_n 0, 1) := by decide +kernel
theorem dX10_covers_94 : decode cX10_covers 94 = .ok (.getfield 42, 3) := by decide +kernel
theorem dX10_covers_97 : decode cX10_covers 97 = .ok (.iload 4, 2) := by decide +kernel
theorem dX10_covers_99 : decode cX10_covers 99 = .ok (.iaload, 1) := by decide +kernel
theorem dX10_covers_100 : decode cX10_covers 100 = .ok (.aload_n 0, 1) := by decide +kernel
theorem dX10_covers_101 : decode cX10_covers 101 = .ok (.getfield 7, 3) := by decide +kernel
theorem dX10_covers_104 : decode cX10_covers 104 = .ok (.iconst 3, 1) := by decide +kernel
theorem dX10_covers_105 : decode cX10_covers 105 = .ok (.iaload, 1) := by decide +kernel
theorem dX10_covers_106 : decode cX10_covers 106 = .ok (.iadd, 1) := by decide +kernel
theorem dX10_covers_107 : decode cX10_covers 107 = .ok (.if_icmp .gt 40, 3) := by decide +kernel
theorem dX10_covers_110 : decode cX10_covers 110 = .ok (.iload 5, 2) := by decide +kernel
theorem dX10_covers_112 : decode cX10_covers 112 = .ok (.iconst 0, 1) := by decide +kernel
theorem dX10_covers_113 : decode cX10_covers 113 = .ok (.iload_n 3, 1) := by decide +kernel
theorem dX10_covers_114 : decode cX10_covers 114 = .ok (.iconst 1, 1) := by decide +kernel
theorem dX10_covers_115 : decode cX10_covers 115 = .ok (.isub, 1) := by decide +kernel
theorem dX10_covers_116 : decode cX10_covers 116 = .ok (.invokestatic 85, 3) := by decide +kernel
theorem dX10_covers_119 : decode cX10_covers 119 = .ok (.ifCond .eq 22, 3) := by decide +kernel
theorem dX10_covers_122 : decode cX10_covers 122 = .ok (.aload_n 0, 1) := by decide +kernel
theorem dX10_covers_123 : decode cX10_covers 123 = .ok (.getfield 69, 3) := by decide +kernel
theorem dX10_covers_126 : decode cX10_covers 126 = .ok (.aload_n 0, 1) := by decide +kernel
theorem dX10_covers_127 : decode cX10_covers 127 = .ok (.aload_n 0, 1) := by decide +kernel
theorem dX10_covers_128 : decode cX10_covers 128 = .ok (.getfield 36, 3) := by decide +kernel
theorem dX10_covers_131 : decode cX10_covers 131 = .ok (.iload 4, 2) := by decide +kernel
theorem dX10_covers_133 : decode cX10_covers 133 = .ok (.iaload, 1) := by decide +kernel
theorem dX10_covers_134 : decode cX10_covers 134 = .ok (.iload 5, 2) := by decide +kernel
theorem dX10_covers_136 : decode cX10_covers 136 = .ok (.invokevirtual 175, 3) := by decide +kernel
theorem dX10_covers_139 : decode cX10_covers 139 = .ok (.iconst 1, 1) := by decide +kernel
theorem dX10_covers_140 : decode cX10_covers 140 = .ok (.bastore, 1) := by decide +kernel
theorem dX10_covers_141 : decode cX10_covers 141 = .ok (.iinc 5 1, 3) := by decide +kernel
theorem dX10_covers_144 : decode cX10_covers 144 = .ok (.goto (-53), 3) := by decide +kernel
theorem dX10_covers_147 : decode cX10_covers 147 = .ok (.iinc 4 1, 3) := by decide +kernel
theorem dX10_covers_150 : decode cX10_covers 150 = .ok (.goto (-84), 3) := by decide +kernel
theorem dX10_covers_153 : decode cX10_covers 153 = .ok (.return_, 1) := by decide +kernel
theorem dX10_coveredBy_0 : decode cX10_coveredBy 0 = .ok (.aload_n 0, 1) := by decide +kernel
theorem dX10_coveredBy_1 : decode cX10_coveredBy 1 = .ok (.iload_n 1, 1) := by decide +kernel
theorem dX10_coveredBy_2 : decode cX10_coveredBy 2 = .ok (.invokevirtual 218, 3) := by decide +kernel
theorem dX10_coveredBy_5 : decode cX10_coveredBy 5 = .ok (.istore_n 3, 1) := by decide +kernel
theorem dX10_coveredBy_6 : decode cX10_coveredBy 6 = .ok (.aload_n 0, 1) := by decide +kernel
theorem dX10_coveredBy_7 : decode cX10_coveredBy 7 = .ok (.iload_n 1, 1) := by decide +kernel
theorem dX10_coveredBy_8 : decode cX10_coveredBy 8 = .ok (.invokevirtual 221, 3) := by decide +kernel
theorem dX10_coveredBy_11 : decode cX10_coveredBy 11 = .ok (.iconst 0, 1) := by decide +kernel
theorem dX10_coveredBy_12 : decode cX10_coveredBy 12 = .ok (.istore 4, 2) := by decide +kernel
theorem dX10_coveredBy_14 : decode cX10_coveredBy 14 = .ok (.iconst 0, 1) := by decide +kernel
theorem dX10_coveredBy_15 : decode cX10_coveredBy 15 = .ok (.istore 5, 2) := by decide +kernel
theorem dX10_coveredBy_17 : decode cX10_coveredBy 17 = .ok (.iload 5, 2) := by decide +kernel
theorem dX10_coveredBy_19 : decode cX10_coveredBy 19 = .ok (.aload_n 0, 1) := by decide +kernel
theorem dX10_coveredBy_20 : decode cX10_coveredBy 20 = .ok (.invokevirtual 151, 3) := by decide +kernel
theorem dX10_coveredBy_23 : decode cX10_coveredBy 23 = .ok (.if_icmp .ge 82, 3) := by decide +kernel
theorem dX10_coveredBy_26 : decode cX10_coveredBy 26 = .ok (.aload_n 0, 1) := by decide +kernel
theorem dX10_coveredBy_27 : decode cX10_coveredBy 27 = .ok (.getfield 7, 3) := by decide +kernel
theorem dX10_coveredBy_30 : decode cX10_coveredBy 30 = .ok (.bipush 12, 2) := by decide +kernel
theorem dX10_coveredBy_32 : decode cX10_coveredBy 32 = .ok (.iload 5, 2) := by decide +kernel
theorem dX10_coveredBy_34 : decode cX10_coveredBy 34 = .ok (.iadd, 1) := by decide +kernel
theorem dX10_coveredBy_35 : decode cX10_coveredBy 35 = .ok (.iaload, 1) := by decide +kernel
theorem dX10_coveredBy_36 : decode cX10_coveredBy 36 = .ok (.istore 6, 2) := by decide +kernel
theorem dX10_coveredBy_38 : decode cX10_coveredBy 38 = .ok (.iload_n 2, 1) := by decide +kernel
theorem dX10_coveredBy_39 : decode cX10_coveredBy 39 = .ok (.iconst 4, 1) := by decide +kernel
theorem dX10_coveredBy_40 : decode cX10_coveredBy 40 = .ok (.if_icmp .eq 27, 3) := by decide +kernel
theorem dX10_coveredBy_43 : decode cX10_coveredBy 43 = .ok (.iload_n 2, 1) := by decide +kernel
theorem dX10_coveredBy_44 : decode cX10_coveredBy 44 = .ok (.iconst 5, 1) := by decide +kernel
theorem dX10_coveredBy_45 : decode cX10_coveredBy 45 = .ok (.if_icmp .ne 17, 3) := by decide +kernel
theorem dX10_coveredBy_48 : decode cX10_coveredBy 48 = .ok (.iload 6, 2) := by decide +kernel
theorem dX10_coveredBy_50 : decode cX10_coveredBy 50 = .ok (.ifCond .le 21, 3) := by decide +kernel
theorem dX10_coveredBy_53 : decode cX10_coveredBy 53 = .ok (.iload 6, 2) := by decide +kernel
theorem dX10_coveredBy_55 : decode cX10_coveredBy 55 = .ok (.iload_n 3, 1) := by decide +kernel
theorem dX10_coveredBy_56 : decode cX10_coveredBy 56 = .ok (.if_icmp .eq 15, 3) := by decide +kernel
theorem dX10_coveredBy_59 : decode cX10_coveredBy 59 = .ok (.goto 8, 3) := by decide +kernel
theorem dX10_coveredBy_62 : decode cX10_coveredBy 62 = .ok (.iload 6, 2) := by decide +kernel
theorem dX10_coveredBy_64 : decode cX10_coveredBy 64 = .ok (.ifCond .ne 7, 3) := by decide +kernel
theorem dX10_coveredBy_67 : decode cX10_coveredBy 67 = .ok (.iconst 1, 1) := by decide +kernel
theorem dX10_coveredBy_68 : decode cX10_coveredBy 68 = .ok (.goto 4, 3) := by decide +kernel
theorem dX10_coveredBy_71 : decode cX10_coveredBy 71 = .ok (.iconst 0, 1) := by decide +kernel
theorem dX10_coveredBy_72 : decode cX10_coveredBy 72 = .ok (.istore 7, 2) := by decide +kernel
theorem dX10_coveredBy_74 : decode cX10_coveredBy 74 = .ok (.iload 4, 2) := by decide +kernel
theorem dX10_coveredBy_76 : decode cX10_coveredBy 76 = .ok (.aload_n 0, 1) := by decide +kernel
theorem dX10_coveredBy_77 : decode cX10_coveredBy 77 = .ok (.getfield 69, 3) := by decide +kernel
theorem dX10_coveredBy_80 : decode cX10_coveredBy 80 = .ok (.iload 5, 2) := by decide +kernel
theorem dX10_coveredBy_82 : decode cX10_coveredBy 82 = .ok (.baload, 1) := by decide +kernel
theorem dX10_coveredBy_83 : decode cX10_coveredBy 83 = .ok (.ifCond .eq 12, 3) := by decide +kernel
theorem dX10_coveredBy_86 : decode cX10_coveredBy 86 = .ok (.iload 7, 2) := by decide +kernel
theorem dX10_coveredBy_88 : decode cX10_coveredBy 88 = .ok (.ifCond .eq 7, 3) := by decide +kernel
theorem dX10_coveredBy_91 : decode cX10_coveredBy 91 = .ok (.iconst 1, 1) := by decide +kernel
theorem dX10_coveredBy_92 : decode cX10_coveredBy 92 = .ok (.goto 4, 3) := by decide +kernel
theorem dX10_coveredBy_95 : decode cX10_coveredBy 95 = .ok (.iconst 0, 1) := by decide +kernel
theorem dX10_coveredBy_96 : decode cX10_coveredBy 96 = .ok (.iadd, 1) := by decide +kernel
theorem dX10_coveredBy_97 : decode cX10_coveredBy 97 = .ok (.istore 4, 2) := by decide +kernel
theorem dX10_coveredBy_99 : decode cX10_coveredBy 99 = .ok (.iinc 5 1, 3) := by decide +kernel
theorem dX10_coveredBy_102 : decode cX10_coveredBy 102 = .ok (.goto (-85), 3) := by decide +kernel
theorem dX10_coveredBy_105 : decode cX10_coveredBy 105 = .ok (.iload 4, 2) := by decide +kernel
theorem dX10_coveredBy_107 : decode cX10_coveredBy 107 = .ok (.ireturn, 1) := by decide +kernel
theorem dX10_touch_0 : decode cX10_touch 0 = .ok (.iconst 0, 1) := by decide +kernel
theorem dX10_touch_1 : decode cX10_touch 1 = .ok (.istore_n 3, 1) := by decide +kernel
theorem dX10_touch_2 : decode cX10_touch 2 = .ok (.iconst 0, 1) := by decide +kernel
theorem dX10_touch_3 : decode cX10_touch 3 = .ok (.istore 4, 2) := by decide +kernel
theorem dX10_touch_5 : decode cX10_touch 5 = .ok (.iload 4, 2) := by decide +kernel
theorem dX10_touch_7 : decode cX10_touch 7 = .ok (.aload_n 0, 1) := by decide +kernel
theorem dX10_touch_8 : decode cX10_touch 8 = .ok (.invokevirtual 151, 3) := by decide +kernel
theorem dX10_touch_11 : decode cX10_touch 11 = .ok (.if_icmp .ge 70, 3) := by decide +kernel
theorem dX10_touch_14 : decode cX10_touch 14 = .ok (.iconst 0, 1) := by decide +kernel
theorem dX10_touch_15 : decode cX10_touch 15 = .ok (.istore 5, 2) := by decide +kernel
theorem dX10_touch_17 : decode cX10_touch 17 = .ok (.iload 5, 2) := by decide +kernel
theorem dX10_touch_19 : decode cX10_touch 19 = .ok (.aload_n 0, 1) := by decide +kernel
theorem dX10_touch_20 : decode cX10_touch 20 = .ok (.invokevirtual 151, 3) := by decide +kernel
theorem dX10_touch_23 : decode cX10_touch 23 = .ok (.if_icmp .ge 52, 3) := by decide +kernel
theorem dX10_touch_26 : decode cX10_touch 26 = .ok (.iload_n 3, 1) := by decide +kernel
theorem dX10_touch_27 : decode cX10_touch 27 = .ok (.ifCond .ne 36, 3) := by decide +kernel
theorem dX10_touch_30 : decode cX10_touch 30 = .ok (.aload_n 0, 1) := by decide +kernel
theorem dX10_touch_31 : decode cX10_touch 31 = .ok (.getfield 33, 3) := by decide +kernel
theorem dX10_touch_34 : decode cX10_touch 34 = .ok (.iload 4, 2) := by decide +kernel
theorem dX10_touch_36 : decode cX10_touch 36 = .ok (.iaload, 1) := by decide +kernel
theorem dX10_touch_37 : decode cX10_touch 37 = .ok (.iload_n 1, 1) := by decide +kernel
theorem dX10_touch_38 : decode cX10_touch 38 = .ok (.if_icmp .ne 29, 3) := by decide +kernel
theorem dX10_touch_41 : decode cX10_touch 41 = .ok (.aload_n 0, 1) := by decide +kernel
theorem dX10_touch_42 : decode cX10_touch 42 = .ok (.getfield 33, 3) := by decide +kernel
theorem dX10_touch_45 : decode cX10_touch 45 = .ok (.iload 5, 2) := by decide +kernel
theorem dX10_touch_47 : decode cX10_touch 47 = .ok (.iaload, 1) := by decide +kernel
theorem dX10_touch_48 : decode cX10_touch 48 = .ok (.iload_n 2, 1) := by decide +kernel
theorem dX10_touch_49 : decode cX10_touch 49 = .ok (.if_icmp .ne 18, 3) := by decide +kernel
theorem dX10_touch_52 : decode cX10_touch 52 = .ok (.aload_n 0, 1) := by decide +kernel
theorem dX10_touch_53 : decode cX10_touch 53 = .ok (.iload 4, 2) := by decide +kernel
theorem dX10_touch_55 : decode cX10_touch 55 = .ok (.iload 5, 2) := by decide +kernel
theorem dX10_touch_57 : decode cX10_touch 57 = .ok (.invokevirtual 157, 3) := by decide +kernel
theorem dX10_touch_60 : decode cX10_touch 60 = .ok (.ifCond .eq 7, 3) := by decide +kernel
theorem dX10_touch_63 : decode cX10_touch 63 = .ok (.iconst 1, 1) := by decide +kernel
theorem dX10_touch_64 : decode cX10_touch 64 = .ok (.goto 4, 3) := by decide +kernel
theorem dX10_touch_67 : decode cX10_touch 67 = .ok (.iconst 0, 1) := by decide +kernel
theorem dX10_touch_68 : decode cX10_touch 68 = .ok (.istore_n 3, 1) := by decide +kernel
theorem dX10_touch_69 : decode cX10_touch 69 = .ok (.iinc 5 1, 3) := by decide +kernel
theorem dX10_touch_72 : decode cX10_touch 72 = .ok (.goto (-55), 3) := by decide +kernel
theorem dX10_touch_75 : decode cX10_touch 75 = .ok (.iinc 4 1, 3) := by decide +kernel
theorem dX10_touch_78 : decode cX10_touch 78 = .ok (.goto (-73), 3) := by decide +kernel
theorem dX10_touch_81 : decode cX10_touch 81 = .ok (.iload_n 3, 1) := by decide +kernel
theorem dX10_touch_82 : decode cX10_touch 82 = .ok (.ifCond .eq 12, 3) := by decide +kernel
theorem dX10_touch_85 : decode cX10_touch 85 = .ok (.iload_n 1, 1) := by decide +kernel
theorem dX10_touch_86 : decode cX10_touch 86 = .ok (.iload_n 2, 1) := by decide +kernel
theorem dX10_touch_87 : decode cX10_touch 87 = .ok (.if_icmp .eq 7, 3) := by decide +kernel
theorem dX10_touch_90 : decode cX10_touch 90 = .ok (.iconst 1, 1) := by decide +kernel
theorem dX10_touch_91 : decode cX10_touch 91 = .ok (.goto 4, 3) := by decide +kernel
theorem dX10_touch_94 : decode cX10_touch 94 = .ok (.iconst 0, 1) := by decide +kernel
theorem dX10_touch_95 : decode cX10_touch 95 = .ok (.ireturn, 1) := by decide +kernel
theorem dX10_touching_0 : decode cX10_touching 0 = .ok (.iconst 0, 1) := by decide +kernel
theorem dX10_touching_1 : decode cX10_touching 1 = .ok (.istore_n 2, 1) := by decide +kernel
theorem dX10_touching_2 : decode cX10_touching 2 = .ok (.iconst 0, 1) := by decide +kernel
theorem dX10_touching_3 : decode cX10_touching 3 = .ok (.istore_n 3, 1) := by decide +kernel
theorem dX10_touching_4 : decode cX10_touching 4 = .ok (.iload_n 3, 1) := by decide +kernel
theorem dX10_touching_5 : decode cX10_touching 5 = .ok (.aload_n 0, 1) := by decide +kernel
theorem dX10_touching_6 : decode cX10_touching 6 = .ok (.getfield 160, 3) := by decide +kernel
theorem dX10_touching_9 : decode cX10_touching 9 = .ok (.if_icmp .ge 26, 3) := by decide +kernel
theorem dX10_touching_12 : decode cX10_touching 12 = .ok (.iload_n 2, 1) := by decide +kernel
theorem dX10_touching_13 : decode cX10_touching 13 = .ok (.aload_n 0, 1) := by decide +kernel
theorem dX10_touching_14 : decode cX10_touching 14 = .ok (.iload_n 1, 1) := by decide +kernel
theorem dX10_touching_15 : decode cX10_touching 15 = .ok (.iload_n 3, 1) := by decide +kernel
theorem dX10_touching_16 : decode cX10_touching 16 = .ok (.invokevirtual 225, 3) := by decide +kernel
theorem dX10_touching_19 : decode cX10_touching 19 = .ok (.ifCond .eq 7, 3) := by decide +kernel
theorem dX10_touching_22 : decode cX10_touching 22 = .ok (.iconst 1, 1) := by decide +kernel
theorem dX10_touching_23 : decode cX10_touching 23 = .ok (.goto 4, 3) := by decide +kernel
theorem dX10_touching_26 : decode cX10_touching 26 = .ok (.iconst 0, 1) := by decide +kernel
theorem dX10_touching_27 : decode cX10_touching 27 = .ok (.iadd, 1) := by decide +kernel
theorem dX10_touching_28 : decode cX10_touching 28 = .ok (.istore_n 2, 1) := by decide +kernel
theorem dX10_touching_29 : decode cX10_touching 29 = .ok (.iinc 3 1, 3) := by decide +kernel
theorem dX10_touching_32 : decode cX10_touching 32 = .ok (.goto (-28), 3) := by decide +kernel
theorem dX10_touching_35 : decode cX10_touching 35 = .ok (.iload_n 2, 1) := by decide +kernel
theorem dX10_touching_36 : decode cX10_touching 36 = .ok (.ireturn, 1) := by decide +kernel
theorem dX10_cell_0 : decode cX10_cell 0 = .ok (.aload_n 0, 1) := by decide +kernel
theorem dX10_cell_1 : decode cX10_cell 1 = .ok (.iconst 0, 1) := by decide +kernel
theorem dX10_cell_2 : decode cX10_cell 2 = .ok (.putfield 81, 3) := by decide +kernel
theorem dX10_cell_5 : decode cX10_cell 5 = .ok (.aload_n 0, 1) := by decide +kernel
theorem dX10_cell_6 : decode cX10_cell 6 = .ok (.iload_n 1, 1) := by decide +kernel
theorem dX10_cell_7 : decode cX10_cell 7 = .ok (.iload_n 2, 1) := by decide +kernel
theorem dX10_cell_8 : decode cX10_cell 8 = .ok (.invokevirtual 147, 3) := by decide +kernel
theorem dX10_cell_11 : decode cX10_cell 11 = .ok (.ifCond .eq 12, 3) := by decide +kernel
theorem dX10_cell_14 : decode cX10_cell 14 = .ok (.iload_n 3, 1) := by decide +kernel
theorem dX10_cell_15 : decode cX10_cell 15 = .ok (.iconst 0, 1) := by decide +kernel
theorem dX10_cell_16 : decode cX10_cell 16 = .ok (.iconst 1, 1) := by decide +kernel
theorem dX10_cell_17 : decode cX10_cell 17 = .ok (.invokestatic 85, 3) := by decide +kernel
theorem dX10_cell_20 : decode cX10_cell 20 = .ok (.ifCond .ne 5, 3) := by decide +kernel
theorem dX10_cell_23 : decode cX10_cell 23 = .ok (.iconst (-1), 1) := by decide +kernel
theorem dX10_cell_24 : decode cX10_cell 24 = .ok (.ireturn, 1) := by decide +kernel
theorem dX10_cell_25 : decode cX10_cell 25 = .ok (.aload_n 0, 1) := by decide +kernel
theorem dX10_cell_26 : decode cX10_cell 26 = .ok (.invokevirtual 228, 3) := by decide +kernel
theorem dX10_cell_29 : decode cX10_cell 29 = .ok (.iload_n 3, 1) := by decide +kernel
theorem dX10_cell_30 : decode cX10_cell 30 = .ok (.ifCond .ne 24, 3) := by decide +kernel
theorem dX10_cell_33 : decode cX10_cell 33 = .ok (.aload_n 0, 1) := by decide +kernel
theorem dX10_cell_34 : decode cX10_cell 34 = .ok (.getfield 7, 3) := by decide +kernel
theorem dX10_cell_37 : decode cX10_cell 37 = .ok (.bipush 12, 2) := by decide +kernel
theorem dX10_cell_39 : decode cX10_cell 39 = .ok (.aload_n 0, 1) := by decide +kernel
theorem dX10_cell_40 : decode cX10_cell 40 = .ok (.getfield 7, 3) := by decide +kernel
theorem dX10_cell_43 : decode cX10_cell 43 = .ok (.iconst 0, 1) := by decide +kernel
theorem dX10_cell_44 : decode cX10_cell 44 = .ok (.iaload, 1) := by decide +kernel
theorem dX10_cell_45 : decode cX10_cell 45 = .ok (.iload_n 2, 1) := by decide +kernel
theorem dX10_cell_46 : decode cX10_cell 46 = .ok (.imul, 1) := by decide +kernel
theorem dX10_cell_47 : decode cX10_cell 47 = .ok (.iadd, 1) := by decide +kernel
theorem dX10_cell_48 : decode cX10_cell 48 = .ok (.iload_n 1, 1) := by decide +kernel
theorem dX10_cell_49 : decode cX10_cell 49 = .ok (.iadd, 1) := by decide +kernel
theorem dX10_cell_50 : decode cX10_cell 50 = .ok (.iaload, 1) := by decide +kernel
theorem dX10_cell_51 : decode cX10_cell 51 = .ok (.goto 18, 3) := by decide +kernel
theorem dX10_cell_54 : decode cX10_cell 54 = .ok (.aload_n 0, 1) := by decide +kernel
theorem dX10_cell_55 : decode cX10_cell 55 = .ok (.getfield 33, 3) := by decide +kernel
theorem dX10_cell_58 : decode cX10_cell 58 = .ok (.aload_n 0, 1) := by decide +kernel
theorem dX10_cell_59 : decode cX10_cell 59 = .ok (.getfield 7, 3) := by decide +kernel
theorem dX10_cell_62 : decode cX10_cell 62 = .ok (.iconst 0, 1) := by decide +kernel
theorem dX10_cell_63 : decode cX10_cell 63 = .ok (.iaload, 1) := by decide +kernel
theorem dX10_cell_64 : decode cX10_cell 64 = .ok (.iload_n 2, 1) := by decide +kernel
theorem dX10_cell_65 : decode cX10_cell 65 = .ok (.imul, 1) := by decide +kernel
theorem dX10_cell_66 : decode cX10_cell 66 = .ok (.iload_n 1, 1) := by decide +kernel
theorem dX10_cell_67 : decode cX10_cell 67 = .ok (.iadd, 1) := by decide +kernel
theorem dX10_cell_68 : decode cX10_cell 68 = .ok (.iaload, 1) := by decide +kernel
theorem dX10_cell_69 : decode cX10_cell 69 = .ok (.ireturn, 1) := by decide +kernel
theorem dX10_isField_0 : decode cX10_isField 0 = .ok (.aload_n 0, 1) := by decide +kernel
theorem dX10_isField_1 : decode cX10_isField 1 = .ok (.invokevirtual 228, 3) := by decide +kernel
theorem dX10_isField_4 : decode cX10_isField 4 = .ok (.iload_n 1, 1) := by decide +kernel
theorem dX10_isField_5 : decode cX10_isField 5 = .ok (.iconst 0, 1) := by decide +kernel
theorem dX10_isField_6 : decode cX10_isField 6 = .ok (.aload_n 0, 1) := by decide +kernel
theorem dX10_isField_7 : decode cX10_isField 7 = .ok (.getfield 160, 3) := by decide +kernel
theorem dX10_isField_10 : decode cX10_isField 10 = .ok (.iconst 1, 1) := by decide +kernel
theorem dX10_isField_11 : decode cX10_isField 11 = .ok (.isub, 1) := by decide +kernel
theorem dX10_isField_12 : decode cX10_isField 12 = .ok (.invokestatic 85, 3) := by decide +kernel
theorem dX10_isField_15 : decode cX10_isField 15 = .ok (.ireturn, 1) := by decide +kernel
theorem dX10_field_0 : decode cX10_field 0 = .ok (.aload_n 0, 1) := by decide +kernel
theorem dX10_field_1 : decode cX10_field 1 = .ok (.iconst 0, 1) := by decide +kernel
theorem dX10_field_2 : decode cX10_field 2 = .ok (.putfield 81, 3) := by decide +kernel
theorem dX10_field_5 : decode cX10_field 5 = .ok (.aload_n 0, 1) := by decide +kernel
theorem dX10_field_6 : decode cX10_field 6 = .ok (.iload_n 1, 1) := by decide +kernel
theorem dX10_field_7 : decode cX10_field 7 = .ok (.invokevirtual 231, 3) := by decide +kernel
theorem dX10_field_10 : decode cX10_field 10 = .ok (.ifCond .ne 5, 3) := by decide +kernel
theorem dX10_field_13 : decode cX10_field 13 = .ok (.iconst (-1), 1) := by decide +kernel
theorem dX10_field_14 : decode cX10_field 14 = .ok (.ireturn, 1) := by decide +kernel
theorem dX10_field_15 : decode cX10_field 15 = .ok (.iload_n 2, 1) := by decide +kernel
theorem dX10_field_16 : decode cX10_field 16 = .ok (.tableswitch 85 0 7 #[48, 54, 60, 66, 72, 72, 72, 79], 48) := by decide +kernel
theorem dX10_field_64 : decode cX10_field 64 = .ok (.aload_n 0, 1) := by decide +kernel
theorem dX10_field_65 : decode cX10_field 65 = .ok (.iload_n 1, 1) := by decide +kernel
theorem dX10_field_66 : decode cX10_field 66 = .ok (.invokevirtual 218, 3) := by decide +kernel
theorem dX10_field_69 : decode cX10_field 69 = .ok (.ireturn, 1) := by decide +kernel
theorem dX10_field_70 : decode cX10_field 70 = .ok (.aload_n 0, 1) := by decide +kernel
theorem dX10_field_71 : decode cX10_field 71 = .ok (.iload_n 1, 1) := by decide +kernel
theorem dX10_field_72 : decode cX10_field 72 = .ok (.invokevirtual 235, 3) := by decide +kernel
theorem dX10_field_75 : decode cX10_field 75 = .ok (.ireturn, 1) := by decide +kernel
theorem dX10_field_76 : decode cX10_field 76 = .ok (.aload_n 0, 1) := by decide +kernel
theorem dX10_field_77 : decode cX10_field 77 = .ok (.iload_n 1, 1) := by decide +kernel
theorem dX10_field_78 : decode cX10_field 78 = .ok (.invokevirtual 166, 3) := by decide +kernel
theorem dX10_field_81 : decode cX10_field 81 = .ok (.ireturn, 1) := by decide +kernel
theorem dX10_field_82 : decode cX10_field 82 = .ok (.aload_n 0, 1) := by decide +kernel
theorem dX10_field_83 : decode cX10_field 83 = .ok (.iload_n 1, 1) := by decide +kernel
theorem dX10_field_84 : decode cX10_field 84 = .ok (.invokevirtual 238, 3) := by decide +kernel
theorem dX10_field_87 : decode cX10_field 87 = .ok (.ireturn, 1) := by decide +kernel
theorem dX10_field_88 : decode cX10_field 88 = .ok (.aload_n 0, 1) := by decide +kernel
theorem dX10_field_89 : decode cX10_field 89 = .ok (.iload_n 1, 1) := by decide +kernel
theorem dX10_field_90 : decode cX10_field 90 = .ok (.iload_n 2, 1) := by decide +kernel
theorem dX10_field_91 : decode cX10_field 91 = .ok (.invokevirtual 241, 3) := by decide +kernel
theorem dX10_field_94 : decode cX10_field 94 = .ok (.ireturn, 1) := by decide +kernel
theorem dX10_field_95 : decode cX10_field 95 = .ok (.aload_n 0, 1) := by decide +kernel
theorem dX10_field_96 : decode cX10_field 96 = .ok (.iload_n 1, 1) := by decide +kernel
theorem dX10_field_97 : decode cX10_field 97 = .ok (.invokevirtual 244, 3) := by decide +kernel
theorem dX10_field_100 : decode cX10_field 100 = .ok (.ireturn, 1) := by decide +kernel
theorem dX10_field_101 : decode cX10_field 101 = .ok (.iconst (-1), 1) := by decide +kernel
theorem dX10_field_102 : decode cX10_field 102 = .ok (.ireturn, 1) := by decide +kernel
theorem dX10_sewn_0 : decode cX10_sewn 0 = .ok (.aload_n 0, 1) := by decide +kernel
theorem dX10_sewn_1 : decode cX10_sewn 1 = .ok (.iconst 0, 1) := by decide +kernel
theorem dX10_sewn_2 : decode cX10_sewn 2 = .ok (.putfield 81, 3) := by decide +kernel
theorem dX10_sewn_5 : decode cX10_sewn 5 = .ok (.aload_n 0, 1) := by decide +kernel
theorem dX10_sewn_6 : decode cX10_sewn 6 = .ok (.iload_n 1, 1) := by decide +kernel
theorem dX10_sewn_7 : decode cX10_sewn 7 = .ok (.invokevirtual 231, 3) := by decide +kernel
theorem dX10_sewn_10 : decode cX10_sewn 10 = .ok (.ifCond .eq 31, 3) := by decide +kernel
theorem dX10_sewn_13 : decode cX10_sewn 13 = .ok (.iload_n 2, 1) := by decide +kernel
theorem dX10_sewn_14 : decode cX10_sewn 14 = .ok (.iconst 0, 1) := by decide +kernel
theorem dX10_sewn_15 : decode cX10_sewn 15 = .ok (.iconst 1, 1) := by decide +kernel
theorem dX10_sewn_16 : decode cX10_sewn 16 = .ok (.invokestatic 85, 3) := by decide +kernel
theorem dX10_sewn_19 : decode cX10_sewn 19 = .ok (.ifCond .eq 22, 3) := by decide +kernel
theorem dX10_sewn_22 : decode cX10_sewn 22 = .ok (.iload_n 3, 1) := by decide +kernel
theorem dX10_sewn_23 : decode cX10_sewn 23 = .ok (.iconst 0, 1) := by decide +kernel
theorem dX10_sewn_24 : decode cX10_sewn 24 = .ok (.iconst 3, 1) := by decide +kernel
theorem dX10_sewn_25 : decode cX10_sewn 25 = .ok (.invokestatic 85, 3) := by decide +kernel
theorem dX10_sewn_28 : decode cX10_sewn 28 = .ok (.ifCond .eq 13, 3) := by decide +kernel
theorem dX10_sewn_31 : decode cX10_sewn 31 = .ok (.aload_n 0, 1) := by decide +kernel
theorem dX10_sewn_32 : decode cX10_sewn 32 = .ok (.iload_n 1, 1) := by decide +kernel
theorem dX10_sewn_33 : decode cX10_sewn 33 = .ok (.iload_n 2, 1) := by decide +kernel
theorem dX10_sewn_34 : decode cX10_sewn 34 = .ok (.iload_n 3, 1) := by decide +kernel
theorem dX10_sewn_35 : decode cX10_sewn 35 = .ok (.invokevirtual 214, 3) := by decide +kernel
theorem dX10_sewn_38 : decode cX10_sewn 38 = .ok (.goto 4, 3) := by decide +kernel
theorem dX10_sewn_41 : decode cX10_sewn 41 = .ok (.iconst (-1), 1) := by decide +kernel
theorem dX10_sewn_42 : decode cX10_sewn 42 = .ok (.ireturn, 1) := by decide +kernel
theorem dX10_row_0 : decode cX10_row 0 = .ok (.aload_n 0, 1) := by decide +kernel
theorem dX10_row_1 : decode cX10_row 1 = .ok (.iconst 0, 1) := by decide +kernel
theorem dX10_row_2 : decode cX10_row 2 = .ok (.putfield 81, 3) := by decide +kernel
theorem dX10_row_5 : decode cX10_row 5 = .ok (.aload_n 0, 1) := by decide +kernel
theorem dX10_row_6 : decode cX10_row 6 = .ok (.iload_n 1, 1) := by decide +kernel
theorem dX10_row_7 : decode cX10_row 7 = .ok (.invokevirtual 231, 3) := by decide +kernel
theorem dX10_row_10 : decode cX10_row 10 = .ok (.ifCond .eq 26, 3) := by decide +kernel
theorem dX10_row_13 : decode cX10_row 13 = .ok (.iload_n 2, 1) := by decide +kernel
theorem dX10_row_14 : decode cX10_row 14 = .ok (.iconst 0, 1) := by decide +kernel
theorem dX10_row_15 : decode cX10_row 15 = .ok (.iconst 1, 1) := by decide +kernel
theorem dX10_row_16 : decode cX10_row 16 = .ok (.invokestatic 85, 3) := by decide +kernel
theorem dX10_row_19 : decode cX10_row 19 = .ok (.ifCond .eq 17, 3) := by decide +kernel
theorem dX10_row_22 : decode cX10_row 22 = .ok (.iload_n 3, 1) := by decide +kernel
theorem dX10_row_23 : decode cX10_row 23 = .ok (.ifCond .lt 13, 3) := by decide +kernel
theorem dX10_row_26 : decode cX10_row 26 = .ok (.iload 4, 2) := by decide +kernel
theorem dX10_row_28 : decode cX10_row 28 = .ok (.iconst 0, 1) := by decide +kernel
theorem dX10_row_29 : decode cX10_row 29 = .ok (.iconst 3, 1) := by decide +kernel
theorem dX10_row_30 : decode cX10_row 30 = .ok (.invokestatic 85, 3) := by decide +kernel
theorem dX10_row_33 : decode cX10_row 33 = .ok (.ifCond .ne 5, 3) := by decide +kernel
theorem dX10_row_36 : decode cX10_row 36 = .ok (.iconst (-1), 1) := by decide +kernel
theorem dX10_row_37 : decode cX10_row 37 = .ok (.ireturn, 1) := by decide +kernel
theorem dX10_row_38 : decode cX10_row 38 = .ok (.aload_n 0, 1) := by decide +kernel
theorem dX10_row_39 : decode cX10_row 39 = .ok (.iload_n 1, 1) := by decide +kernel
theorem dX10_row_40 : decode cX10_row 40 = .ok (.iload_n 2, 1) := by decide +kernel
theorem dX10_row_41 : decode cX10_row 41 = .ok (.invokevirtual 205, 3) := by decide +kernel
theorem dX10_row_44 : decode cX10_row 44 = .ok (.iload_n 3, 1) := by decide +kernel
theorem dX10_row_45 : decode cX10_row 45 = .ok (.aload_n 0, 1) := by decide +kernel
theorem dX10_row_46 : decode cX10_row 46 = .ok (.getfield 172, 3) := by decide +kernel
theorem dX10_row_49 : decode cX10_row 49 = .ok (.if_icmp .lt 6, 3) := by decide +kernel
theorem dX10_row_52 : decode cX10_row 52 = .ok (.bipush (-9), 2) := by decide +kernel
theorem dX10_row_54 : decode cX10_row 54 = .ok (.ireturn, 1) := by decide +kernel
theorem dX10_row_55 : decode cX10_row 55 = .ok (.iload 4, 2) := by decide +kernel
theorem dX10_row_57 : decode cX10_row 57 = .ok (.ifCond .ne 22, 3) := by decide +kernel
theorem dX10_row_60 : decode cX10_row 60 = .ok (.aload_n 0, 1) := by decide +kernel
theorem dX10_row_61 : decode cX10_row 61 = .ok (.aload_n 0, 1) := by decide +kernel
theorem dX10_row_62 : decode cX10_row 62 = .ok (.getfield 36, 3) := by decide +kernel
theorem dX10_row_65 : decode cX10_row 65 = .ok (.iload_n 3, 1) := by decide +kernel
theorem dX10_row_66 : decode cX10_row 66 = .ok (.iaload, 1) := by decide +kernel
theorem dX10_row_67 : decode cX10_row 67 = .ok (.aload_n 0, 1) := by decide +kernel
theorem dX10_row_68 : decode cX10_row 68 = .ok (.getfield 39, 3) := by decide +kernel
theorem dX10_row_71 : decode cX10_row 71 = .ok (.iload_n 3, 1) := by decide +kernel
theorem dX10_row_72 : decode cX10_row 72 = .ok (.iaload, 1) := by decide +kernel
theorem dX10_row_73 : decode cX10_row 73 = .ok (.invokevirtual 175, 3) := by decide +kernel
theorem dX10_row_76 : decode cX10_row 76 = .ok (.goto 37, 3) := by decide +kernel
theorem dX10_row_79 : decode cX10_row 79 = .ok (.iload 4, 2) := by decide +kernel
theorem dX10_row_81 : decode cX10_row 81 = .ok (.iconst 1, 1) := by decide +kernel
theorem dX10_row_82 : decode cX10_row 82 = .ok (.if_icmp .ne 11, 3) := by decide +kernel
theorem dX10_row_85 : decode cX10_row 85 = .ok (.aload_n 0, 1) := by decide +kernel
theorem dX10_row_86 : decode cX10_row 86 = .ok (.iload_n 3, 1) := by decide +kernel
theorem dX10_row_87 : decode cX10_row 87 = .ok (.invokevirtual 187, 3) := by decide +kernel
theorem dX10_row_90 : decode cX10_row 90 = .ok (.goto 23, 3) := by decide +kernel
theorem dX10_row_93 : decode cX10_row 93 = .ok (.iload 4, 2) := by decide +kernel
theorem dX10_row_95 : decode cX10_row 95 = .ok (.iconst 2, 1) := by decide +kernel
theorem dX10_row_96 : decode cX10_row 96 = .ok (.if_icmp .ne 11, 3) := by decide +kernel
theorem dX10_row_99 : decode cX10_row 99 = .ok (.aload_n 0, 1) := by decide +kernel
theorem dX10_row_100 : decode cX10_row 100 = .ok (.iload_n 3, 1) := by decide +kernel
theorem dX10_row_101 : decode cX10_row 101 = .ok (.invokevirtual 202, 3) := by decide +kernel
theorem dX10_row_104 : decode cX10_row 104 = .ok (.goto 9, 3) := by decide +kernel
theorem dX10_row_107 : decode cX10_row 107 = .ok (.aload_n 0, 1) := by decide +kernel
theorem dX10_row_108 : decode cX10_row 108 = .ok (.getfield 54, 3) := by decide +kernel
theorem dX10_row_111 : decode cX10_row 111 = .ok (.iload_n 3, 1) := by decide +kernel
theorem dX10_row_112 : decode cX10_row 112 = .ok (.iaload, 1) := by decide +kernel
theorem dX10_row_113 : decode cX10_row 113 = .ok (.ireturn, 1) := by decide +kernel
theorem dX10_part_0 : decode cX10_part 0 = .ok (.aload_n 0, 1) := by decide +kernel
theorem dX10_part_1 : decode cX10_part 1 = .ok (.iconst 0, 1) := by decide +kernel
theorem dX10_part_2 : decode cX10_part 2 = .ok (.putfield 81, 3) := by decide +kernel
theorem dX10_part_5 : decode cX10_part 5 = .ok (.aload_n 0, 1) := by decide +kernel
theorem dX10_part_6 : decode cX10_part 6 = .ok (.iload_n 1, 1) := by decide +kernel
theorem dX10_part_7 : decode cX10_part 7 = .ok (.invokevirtual 231, 3) := by decide +kernel
theorem dX10_part_10 : decode cX10_part 10 = .ok (.ifCond .eq 26, 3) := by decide +kernel
theorem dX10_part_13 : decode cX10_part 13 = .ok (.iload_n 2, 1) := by decide +kernel
theorem dX10_part_14 : decode cX10_part 14 = .ok (.iconst 0, 1) := by decide +kernel
theorem dX10_part_15 : decode cX10_part 15 = .ok (.iconst 1, 1) := by decide +kernel
theorem dX10_part_16 : decode cX10_part 16 = .ok (.invokestatic 85, 3) := by decide +kernel
theorem dX10_part_19 : decode cX10_part 19 = .ok (.ifCond .eq 17, 3) := by decide +kernel
theorem dX10_part_22 : decode cX10_part 22 = .ok (.iload_n 3, 1) := by decide +kernel
theorem dX10_part_23 : decode cX10_part 23 = .ok (.ifCond .lt 13, 3) := by decide +kernel
theorem dX10_part_26 : decode cX10_part 26 = .ok (.iload 4, 2) := by decide +kernel
theorem dX10_part_28 : decode cX10_part 28 = .ok (.iconst 0, 1) := by decide +kernel
theorem dX10_part_29 : decode cX10_part 29 = .ok (.iconst 3, 1) := by decide +kernel
theorem dX10_part_30 : decode cX10_part 30 = .ok (.invokestatic 85, 3) := by decide +kernel
theorem dX10_part_33 : decode cX10_part 33 = .ok (.ifCond .ne 5, 3) := by decide +kernel
theorem dX10_part_36 : decode cX10_part 36 = .ok (.iconst (-1), 1) := by decide +kernel
theorem dX10_part_37 : decode cX10_part 37 = .ok (.ireturn, 1) := by decide +kernel
theorem dX10_part_38 : decode cX10_part 38 = .ok (.aload_n 0, 1) := by decide +kernel
theorem dX10_part_39 : decode cX10_part 39 = .ok (.iload_n 1, 1) := by decide +kernel
theorem dX10_part_40 : decode cX10_part 40 = .ok (.iload_n 2, 1) := by decide +kernel
theorem dX10_part_41 : decode cX10_part 41 = .ok (.invokevirtual 205, 3) := by decide +kernel
theorem dX10_part_44 : decode cX10_part 44 = .ok (.iload_n 3, 1) := by decide +kernel
theorem dX10_part_45 : decode cX10_part 45 = .ok (.aload_n 0, 1) := by decide +kernel
theorem dX10_part_46 : decode cX10_part 46 = .ok (.getfield 184, 3) := by decide +kernel
theorem dX10_part_49 : decode cX10_part 49 = .ok (.if_icmp .ge 19, 3) := by decide +kernel
theorem dX10_part_52 : decode cX10_part 52 = .ok (.iload 4, 2) := by decide +kernel
theorem dX10_part_54 : decode cX10_part 54 = .ok (.iconst 3, 1) := by decide +kernel
theorem dX10_part_55 : decode cX10_part 55 = .ok (.if_icmp .ne 16, 3) := by decide +kernel
theorem dX10_part_58 : decode cX10_part 58 = .ok (.iload_n 3, 1) := by decide +kernel
theorem dX10_part_59 : decode cX10_part 59 = .ok (.aload_n 0, 1) := by decide +kernel
theorem dX10_part_60 : decode cX10_part 60 = .ok (.getfield 184, 3) := by decide +kernel
theorem dX10_part_63 : decode cX10_part 63 = .ok (.iconst 1, 1) := by decide +kernel
theorem dX10_part_64 : decode cX10_part 64 = .ok (.isub, 1) := by decide +kernel
theorem dX10_part_65 : decode cX10_part 65 = .ok (.if_icmp .ne 6, 3) := by decide +kernel
theorem dX10_part_68 : decode cX10_part 68 = .ok (.bipush (-9), 2) := by decide +kernel
theorem dX10_part_70 : decode cX10_part 70 = .ok (.ireturn, 1) := by decide +kernel
theorem dX10_part_71 : decode cX10_part 71 = .ok (.iload 4, 2) := by decide +kernel
theorem dX10_part_73 : decode cX10_part 73 = .ok (.ifCond .ne 12, 3) := by decide +kernel
theorem dX10_part_76 : decode cX10_part 76 = .ok (.aload_n 0, 1) := by decide +kernel
theorem dX10_part_77 : decode cX10_part 77 = .ok (.getfield 57, 3) := by decide +kernel
theorem dX10_part_80 : decode cX10_part 80 = .ok (.iload_n 3, 1) := by decide +kernel
theorem dX10_part_81 : decode cX10_part 81 = .ok (.iaload, 1) := by decide +kernel
theorem dX10_part_82 : decode cX10_part 82 = .ok (.goto 36, 3) := by decide +kernel
theorem dX10_part_85 : decode cX10_part 85 = .ok (.iload 4, 2) := by decide +kernel
theorem dX10_part_87 : decode cX10_part 87 = .ok (.iconst 1, 1) := by decide +kernel
theorem dX10_part_88 : decode cX10_part 88 = .ok (.if_icmp .ne 11, 3) := by decide +kernel
theorem dX10_part_91 : decode cX10_part 91 = .ok (.aload_n 0, 1) := by decide +kernel
theorem dX10_part_92 : decode cX10_part 92 = .ok (.iload_n 3, 1) := by decide +kernel
theorem dX10_part_93 : decode cX10_part 93 = .ok (.invokevirtual 193, 3) := by decide +kernel
theorem dX10_part_96 : decode cX10_part 96 = .ok (.goto 22, 3) := by decide +kernel
theorem dX10_part_99 : decode cX10_part 99 = .ok (.iload 4, 2) := by decide +kernel
theorem dX10_part_101 : decode cX10_part 101 = .ok (.iconst 2, 1) := by decide +kernel
theorem dX10_part_102 : decode cX10_part 102 = .ok (.if_icmp .ne 11, 3) := by decide +kernel
theorem dX10_part_105 : decode cX10_part 105 = .ok (.aload_n 0, 1) := by decide +kernel
theorem dX10_part_106 : decode cX10_part 106 = .ok (.iload_n 3, 1) := by decide +kernel
theorem dX10_part_107 : decode cX10_part 107 = .ok (.invokevirtual 190, 3) := by decide +kernel
theorem dX10_part_110 : decode cX10_part 110 = .ok (.goto 8, 3) := by decide +kernel
theorem dX10_part_113 : decode cX10_part 113 = .ok (.aload_n 0, 1) := by decide +kernel
theorem dX10_part_114 : decode cX10_part 114 = .ok (.iload_n 3, 1) := by decide +kernel
theorem dX10_part_115 : decode cX10_part 115 = .ok (.invokevirtual 199, 3) := by decide +kernel
theorem dX10_part_118 : decode cX10_part 118 = .ok (.ireturn, 1) := by decide +kernel
theorem dX10_laysAhead_0 : decode cX10_laysAhead 0 = .ok (.iconst 0, 1) := by decide +kernel
theorem dX10_laysAhead_1 : decode cX10_laysAhead 1 = .ok (.istore_n 1, 1) := by decide +kernel
theorem dX10_laysAhead_2 : decode cX10_laysAhead 2 = .ok (.iload_n 1, 1) := by decide +kernel
theorem dX10_laysAhead_3 : decode cX10_laysAhead 3 = .ok (.aload_n 0, 1) := by decide +kernel
theorem dX10_laysAhead_4 : decode cX10_laysAhead 4 = .ok (.getfield 160, 3) := by decide +kernel
theorem dX10_laysAhead_7 : decode cX10_laysAhead 7 = .ok (.if_icmp .ge 20, 3) := by decide +kernel
theorem dX10_laysAhead_10 : decode cX10_laysAhead 10 = .ok (.aload_n 0, 1) := by decide +kernel
theorem dX10_laysAhead_11 : decode cX10_laysAhead 11 = .ok (.getfield 75, 3) := by decide +kernel
theorem dX10_laysAhead_14 : decode cX10_laysAhead 14 = .ok (.iload_n 1, 1) := by decide +kernel
theorem dX10_laysAhead_15 : decode cX10_laysAhead 15 = .ok (.aload_n 0, 1) := by decide +kernel
theorem dX10_laysAhead_16 : decode cX10_laysAhead 16 = .ok (.iload_n 1, 1) := by decide +kernel
theorem dX10_laysAhead_17 : decode cX10_laysAhead 17 = .ok (.invokevirtual 218, 3) := by decide +kernel
theorem dX10_laysAhead_20 : decode cX10_laysAhead 20 = .ok (.iastore, 1) := by decide +kernel
theorem dX10_laysAhead_21 : decode cX10_laysAhead 21 = .ok (.iinc 1 1, 3) := by decide +kernel
theorem dX10_laysAhead_24 : decode cX10_laysAhead 24 = .ok (.goto (-22), 3) := by decide +kernel
theorem dX10_laysAhead_27 : decode cX10_laysAhead 27 = .ok (.iconst 0, 1) := by decide +kernel
theorem dX10_laysAhead_28 : decode cX10_laysAhead 28 = .ok (.istore_n 1, 1) := by decide +kernel
theorem dX10_laysAhead_29 : decode cX10_laysAhead 29 = .ok (.iload_n 1, 1) := by decide +kernel
theorem dX10_laysAhead_30 : decode cX10_laysAhead 30 = .ok (.aload_n 0, 1) := by decide +kernel
theorem dX10_laysAhead_31 : decode cX10_laysAhead 31 = .ok (.getfield 160, 3) := by decide +kernel
theorem dX10_laysAhead_34 : decode cX10_laysAhead 34 = .ok (.if_icmp .ge 98, 3) := by decide +kernel
theorem dX10_laysAhead_37 : decode cX10_laysAhead 37 = .ok (.aload_n 0, 1) := by decide +kernel
theorem dX10_laysAhead_38 : decode cX10_laysAhead 38 = .ok (.getfield 72, 3) := by decide +kernel
theorem dX10_laysAhead_41 : decode cX10_laysAhead 41 = .ok (.iload_n 1, 1) := by decide +kernel
theorem dX10_laysAhead_42 : decode cX10_laysAhead 42 = .ok (.iconst 0, 1) := by decide +kernel
theorem dX10_laysAhead_43 : decode cX10_laysAhead 43 = .ok (.iastore, 1) := by decide +kernel
theorem dX10_laysAhead_44 : decode cX10_laysAhead 44 = .ok (.iconst 0, 1) := by decide +kernel
theorem dX10_laysAhead_45 : decode cX10_laysAhead 45 = .ok (.istore_n 2, 1) := by decide +kernel
theorem dX10_laysAhead_46 : decode cX10_laysAhead 46 = .ok (.iload_n 2, 1) := by decide +kernel
theorem dX10_laysAhead_47 : decode cX10_laysAhead 47 = .ok (.aload_n 0, 1) := by decide +kernel
theorem dX10_laysAhead_48 : decode cX10_laysAhead 48 = .ok (.getfield 160, 3) := by decide +kernel
theorem dX10_laysAhead_51 : decode cX10_laysAhead 51 = .ok (.if_icmp .ge 75, 3) := by decide +kernel
theorem dX10_laysAhead_54 : decode cX10_laysAhead 54 = .ok (.aload_n 0, 1) := by decide +kernel
theorem dX10_laysAhead_55 : decode cX10_laysAhead 55 = .ok (.getfield 7, 3) := by decide +kernel
theorem dX10_laysAhead_58 : decode cX10_laysAhead 58 = .ok (.bipush 8, 2) := by decide +kernel
theorem dX10_laysAhead_60 : decode cX10_laysAhead 60 = .ok (.aload_n 0, 1) := by decide +kernel
theorem dX10_laysAhead_61 : decode cX10_laysAhead 61 = .ok (.getfield 75, 3) := by decide +kernel
theorem dX10_laysAhead_64 : decode cX10_laysAhead 64 = .ok (.iload_n 2, 1) := by decide +kernel
theorem dX10_laysAhead_65 : decode cX10_laysAhead 65 = .ok (.iaload, 1) := by decide +kernel
theorem dX10_laysAhead_66 : decode cX10_laysAhead 66 = .ok (.iadd, 1) := by decide +kernel
theorem dX10_laysAhead_67 : decode cX10_laysAhead 67 = .ok (.iaload, 1) := by decide +kernel
theorem dX10_laysAhead_68 : decode cX10_laysAhead 68 = .ok (.aload_n 0, 1) := by decide +kernel
theorem dX10_laysAhead_69 : decode cX10_laysAhead 69 = .ok (.getfield 7, 3) := by decide +kernel
theorem dX10_laysAhead_72 : decode cX10_laysAhead 72 = .ok (.bipush 8, 2) := by decide +kernel
theorem dX10_laysAhead_74 : decode cX10_laysAhead 74 = .ok (.aload_n 0, 1) := by decide +kernel
theorem dX10_laysAhead_75 : decode cX10_laysAhead 75 = .ok (.getfield 75, 3) := by decide +kernel
theorem dX10_laysAhead_78 : decode cX10_laysAhead 78 = .ok (.iload_n 1, 1) := by decide +kernel
theorem dX10_laysAhead_79 : decode cX10_laysAhead 79 = .ok (.iaload, 1) := by decide +kernel
theorem dX10_laysAhead_80 : decode cX10_laysAhead 80 = .ok (.iadd, 1) := by decide +kernel
theorem dX10_laysAhead_81 : decode cX10_laysAhead 81 = .ok (.iaload, 1) := by decide +kernel
theorem dX10_laysAhead_82 : decode cX10_laysAhead 82 = .ok (.if_icmp .ge 16, 3) := by decide +kernel
theorem dX10_laysAhead_85 : decode cX10_laysAhead 85 = .ok (.aload_n 0, 1) := by decide +kernel
theorem dX10_laysAhead_86 : decode cX10_laysAhead 86 = .ok (.iload_n 1, 1) := by decide +kernel
theorem dX10_laysAhead_87 : decode cX10_laysAhead 87 = .ok (.iload_n 2, 1) := by decide +kernel
theorem dX10_laysAhead_88 : decode cX10_laysAhead 88 = .ok (.invokevirtual 225, 3) := by decide +kernel
theorem dX10_laysAhead_91 : decode cX10_laysAhead 91 = .ok (.ifCond .eq 7, 3) := by decide +kernel
theorem dX10_laysAhead_94 : decode cX10_laysAhead 94 = .ok (.iconst 1, 1) := by decide +kernel
theorem dX10_laysAhead_95 : decode cX10_laysAhead 95 = .ok (.goto 4, 3) := by decide +kernel
theorem dX10_laysAhead_98 : decode cX10_laysAhead 98 = .ok (.iconst 0, 1) := by decide +kernel
theorem dX10_laysAhead_99 : decode cX10_laysAhead 99 = .ok (.istore_n 3, 1) := by decide +kernel
theorem dX10_laysAhead_100 : decode cX10_laysAhead 100 = .ok (.aload_n 0, 1) := by decide +kernel
theorem dX10_laysAhead_101 : decode cX10_laysAhead 101 = .ok (.getfield 72, 3) := by decide +kernel
theorem dX10_laysAhead_104 : decode cX10_laysAhead 104 = .ok (.iload_n 1, 1) := by decide +kernel
theorem dX10_laysAhead_105 : decode cX10_laysAhead 105 = .ok (.dup2, 1) := by decide +kernel
theorem dX10_laysAhead_106 : decode cX10_laysAhead 106 = .ok (.iaload, 1) := by decide +kernel
theorem dX10_laysAhead_107 : decode cX10_laysAhead 107 = .ok (.iload_n 3, 1) := by decide +kernel
theorem dX10_laysAhead_108 : decode cX10_laysAhead 108 = .ok (.ifCond .eq 9, 3) := by decide +kernel
theorem dX10_laysAhead_111 : decode cX10_laysAhead 111 = .ok (.iconst 1, 1) := by decide +kernel
theorem dX10_laysAhead_112 : decode cX10_laysAhead 112 = .ok (.iload_n 2, 1) := by decide +kernel
theorem dX10_laysAhead_113 : decode cX10_laysAhead 113 = .ok (.ishl, 1) := by decide +kernel
theorem dX10_laysAhead_114 : decode cX10_laysAhead 114 = .ok (.goto 4, 3) := by decide +kernel
theorem dX10_laysAhead_117 : decode cX10_laysAhead 117 = .ok (.iconst 0, 1) := by decide +kernel
theorem dX10_laysAhead_118 : decode cX10_laysAhead 118 = .ok (.ior, 1) := by decide +kernel
theorem dX10_laysAhead_119 : decode cX10_laysAhead 119 = .ok (.iastore, 1) := by decide +kernel
theorem dX10_laysAhead_120 : decode cX10_laysAhead 120 = .ok (.iinc 2 1, 3) := by decide +kernel
theorem dX10_laysAhead_123 : decode cX10_laysAhead 123 = .ok (.goto (-77), 3) := by decide +kernel
theorem dX10_laysAhead_126 : decode cX10_laysAhead 126 = .ok (.iinc 1 1, 3) := by decide +kernel
theorem dX10_laysAhead_129 : decode cX10_laysAhead 129 = .ok (.goto (-100), 3) := by decide +kernel
theorem dX10_laysAhead_132 : decode cX10_laysAhead 132 = .ok (.return_, 1) := by decide +kernel
theorem dX10_mayCome_0 : decode cX10_mayCome 0 = .ok (.iload_n 1, 1) := by decide +kernel
theorem dX10_mayCome_1 : decode cX10_mayCome 1 = .ok (.iload_n 2, 1) := by decide +kernel
theorem dX10_mayCome_2 : decode cX10_mayCome 2 = .ok (.ishr, 1) := by decide +kernel
theorem dX10_mayCome_3 : decode cX10_mayCome 3 = .ok (.iconst 1, 1) := by decide +kernel
theorem dX10_mayCome_4 : decode cX10_mayCome 4 = .ok (.iand, 1) := by decide +kernel
theorem dX10_mayCome_5 : decode cX10_mayCome 5 = .ok (.ifCond .ne 20, 3) := by decide +kernel
theorem dX10_mayCome_8 : decode cX10_mayCome 8 = .ok (.aload_n 0, 1) := by decide +kernel
theorem dX10_mayCome_9 : decode cX10_mayCome 9 = .ok (.getfield 72, 3) := by decide +kernel
theorem dX10_mayCome_12 : decode cX10_mayCome 12 = .ok (.iload_n 2, 1) := by decide +kernel
theorem dX10_mayCome_13 : decode cX10_mayCome 13 = .ok (.iaload, 1) := by decide +kernel
theorem dX10_mayCome_14 : decode cX10_mayCome 14 = .ok (.iload_n 1, 1) := by decide +kernel
theorem dX10_mayCome_15 : decode cX10_mayCome 15 = .ok (.iconst (-1), 1) := by decide +kernel
theorem dX10_mayCome_16 : decode cX10_mayCome 16 = .ok (.ixor, 1) := by decide +kernel
theorem dX10_mayCome_17 : decode cX10_mayCome 17 = .ok (.iand, 1) := by decide +kernel
theorem dX10_mayCome_18 : decode cX10_mayCome 18 = .ok (.ifCond .ne 7, 3) := by decide +kernel
theorem dX10_mayCome_21 : decode cX10_mayCome 21 = .ok (.iconst 1, 1) := by decide +kernel
theorem dX10_mayCome_22 : decode cX10_mayCome 22 = .ok (.goto 4, 3) := by decide +kernel
theorem dX10_mayCome_25 : decode cX10_mayCome 25 = .ok (.iconst 0, 1) := by decide +kernel
theorem dX10_mayCome_26 : decode cX10_mayCome 26 = .ok (.ireturn, 1) := by decide +kernel
theorem dX10_withField_0 : decode cX10_withField 0 = .ok (.aload_n 0, 1) := by decide +kernel
theorem dX10_withField_1 : decode cX10_withField 1 = .ok (.getfield 78, 3) := by decide +kernel
theorem dX10_withField_4 : decode cX10_withField 4 = .ok (.iconst 4, 1) := by decide +kernel
theorem dX10_withField_5 : decode cX10_withField 5 = .ok (.iload_n 1, 1) := by decide +kernel
theorem dX10_withField_6 : decode cX10_withField 6 = .ok (.iconst 1, 1) := by decide +kernel
theorem dX10_withField_7 : decode cX10_withField 7 = .ok (.iload_n 3, 1) := by decide +kernel
theorem dX10_withField_8 : decode cX10_withField 8 = .ok (.ishl, 1) := by decide +kernel
theorem dX10_withField_9 : decode cX10_withField 9 = .ok (.ior, 1) := by decide +kernel
theorem dX10_withField_10 : decode cX10_withField 10 = .ok (.imul, 1) := by decide +kernel
theorem dX10_withField_11 : decode cX10_withField 11 = .ok (.aload_n 0, 1) := by decide +kernel
theorem dX10_withField_12 : decode cX10_withField 12 = .ok (.getfield 75, 3) := by decide +kernel
theorem dX10_withField_15 : decode cX10_withField 15 = .ok (.iload_n 3, 1) := by decide +kernel
theorem dX10_withField_16 : decode cX10_withField 16 = .ok (.iaload, 1) := by decide +kernel
theorem dX10_withField_17 : decode cX10_withField 17 = .ok (.iadd, 1) := by decide +kernel
theorem dX10_withField_18 : decode cX10_withField 18 = .ok (.iaload, 1) := by decide +kernel
theorem dX10_withField_19 : decode cX10_withField 19 = .ok (.iload_n 2, 1) := by decide +kernel
theorem dX10_withField_20 : decode cX10_withField 20 = .ok (.ifCond .eq 17, 3) := by decide +kernel
theorem dX10_withField_23 : decode cX10_withField 23 = .ok (.iload_n 2, 1) := by decide +kernel
theorem dX10_withField_24 : decode cX10_withField 24 = .ok (.aload_n 0, 1) := by decide +kernel
theorem dX10_withField_25 : decode cX10_withField 25 = .ok (.getfield 75, 3) := by decide +kernel
theorem dX10_withField_28 : decode cX10_withField 28 = .ok (.iload_n 3, 1) := by decide +kernel
theorem dX10_withField_29 : decode cX10_withField 29 = .ok (.iaload, 1) := by decide +kernel
theorem dX10_withField_30 : decode cX10_withField 30 = .ok (.if_icmp .eq 7, 3) := by decide +kernel
theorem dX10_withField_33 : decode cX10_withField 33 = .ok (.iconst 1, 1) := by decide +kernel
theorem dX10_withField_34 : decode cX10_withField 34 = .ok (.goto 4, 3) := by decide +kernel
theorem dX10_withField_37 : decode cX10_withField 37 = .ok (.iconst 0, 1) := by decide +kernel
theorem dX10_withField_38 : decode cX10_withField 38 = .ok (.iadd, 1) := by decide +kernel
theorem dX10_withField_39 : decode cX10_withField 39 = .ok (.ireturn, 1) := by decide +kernel
theorem dX10_laysChanges_0 : decode cX10_laysChanges 0 = .ok (.iconst 1, 1) := by decide +kernel
theorem dX10_laysChanges_1 : decode cX10_laysChanges 1 = .ok (.aload_n 0, 1) := by decide +kernel
theorem dX10_laysChanges_2 : decode cX10_laysChanges 2 = .ok (.getfield 160, 3) := by decide +kernel
theorem dX10_laysChanges_5 : decode cX10_laysChanges 5 = .ok (.ishl, 1) := by decide +kernel
theorem dX10_laysChanges_6 : decode cX10_laysChanges 6 = .ok (.iconst 1, 1) := by decide +kernel
theorem dX10_laysChanges_7 : decode cX10_laysChanges 7 = .ok (.isub, 1) := by decide +kernel
theorem dX10_laysChanges_8 : decode cX10_laysChanges 8 = .ok (.istore_n 1, 1) := by decide +kernel
theorem dX10_laysChanges_9 : decode cX10_laysChanges 9 = .ok (.iload_n 1, 1) := by decide +kernel
theorem dX10_laysChanges_10 : decode cX10_laysChanges 10 = .ok (.istore_n 2, 1) := by decide +kernel
theorem dX10_laysChanges_11 : decode cX10_laysChanges 11 = .ok (.iload_n 2, 1) := by decide +kernel
theorem dX10_laysChanges_12 : decode cX10_laysChanges 12 = .ok (.ifCond .lt 108, 3) := by decide +kernel
theorem dX10_laysChanges_15 : decode cX10_laysChanges 15 = .ok (.iconst 0, 1) := by decide +kernel
theorem dX10_laysChanges_16 : decode cX10_laysChanges 16 = .ok (.istore_n 3, 1) := by decide +kernel
theorem dX10_laysChanges_17 : decode cX10_laysChanges 17 = .ok (.iload_n 3, 1) := by decide +kernel
theorem dX10_laysChanges_18 : decode cX10_laysChanges 18 = .ok (.iconst 4, 1) := by decide +kernel
theorem dX10_laysChanges_19 : decode cX10_laysChanges 19 = .ok (.if_icmp .ge 95, 3) := by decide +kernel
theorem dX10_laysChanges_22 : decode cX10_laysChanges 22 = .ok (.iload_n 2, 1) := by decide +kernel
theorem dX10_laysChanges_23 : decode cX10_laysChanges 23 = .ok (.iload_n 1, 1) := by decide +kernel
theorem dX10_laysChanges_24 : decode cX10_laysChanges 24 = .ok (.if_icmp .ne 7, 3) := by decide +kernel
theorem dX10_laysChanges_27 : decode cX10_laysChanges 27 = .ok (.iconst 0, 1) := by decide +kernel
theorem dX10_laysChanges_28 : decode cX10_laysChanges 28 = .ok (.goto 6, 3) := by decide +kernel
theorem dX10_laysChanges_31 : decode cX10_laysChanges 31 = .ok (.sipush 1000, 3) := by decide +kernel
theorem dX10_laysChanges_34 : decode cX10_laysChanges 34 = .ok (.istore 4, 2) := by decide +kernel
theorem dX10_laysChanges_36 : decode cX10_laysChanges 36 = .ok (.iconst 0, 1) := by decide +kernel
theorem dX10_laysChanges_37 : decode cX10_laysChanges 37 = .ok (.istore 5, 2) := by decide +kernel
theorem dX10_laysChanges_39 : decode cX10_laysChanges 39 = .ok (.iload 5, 2) := by decide +kernel
theorem dX10_laysChanges_41 : decode cX10_laysChanges 41 = .ok (.aload_n 0, 1) := by decide +kernel
theorem dX10_laysChanges_42 : decode cX10_laysChanges 42 = .ok (.getfield 160, 3) := by decide +kernel
theorem dX10_laysChanges_45 : decode cX10_laysChanges 45 = .ok (.if_icmp .ge 51, 3) := by decide +kernel
theorem dX10_laysChanges_48 : decode cX10_laysChanges 48 = .ok (.aload_n 0, 1) := by decide +kernel
theorem dX10_laysChanges_49 : decode cX10_laysChanges 49 = .ok (.iload_n 2, 1) := by decide +kernel
theorem dX10_laysChanges_50 : decode cX10_laysChanges 50 = .ok (.iload 5, 2) := by decide +kernel
theorem dX10_laysChanges_52 : decode cX10_laysChanges 52 = .ok (.invokevirtual 247, 3) := by decide +kernel
theorem dX10_laysChanges_55 : decode cX10_laysChanges 55 = .ok (.ifCond .eq 14, 3) := by decide +kernel
theorem dX10_laysChanges_58 : decode cX10_laysChanges 58 = .ok (.aload_n 0, 1) := by decide +kernel
theorem dX10_laysChanges_59 : decode cX10_laysChanges 59 = .ok (.iload_n 2, 1) := by decide +kernel
theorem dX10_laysChanges_60 : decode cX10_laysChanges 60 = .ok (.iload_n 3, 1) := by decide +kernel
theorem dX10_laysChanges_61 : decode cX10_laysChanges 61 = .ok (.iload 5, 2) := by decide +kernel
theorem dX10_laysChanges_63 : decode cX10_laysChanges 63 = .ok (.invokevirtual 250, 3) := by decide +kernel
theorem dX10_laysChanges_66 : decode cX10_laysChanges 66 = .ok (.goto 6, 3) := by decide +kernel
theorem dX10_laysChanges_69 : decode cX10_laysChanges 69 = .ok (.sipush 1000, 3) := by decide +kernel
theorem dX10_laysChanges_72 : decode cX10_laysChanges 72 = .ok (.istore 6, 2) := by decide +kernel
theorem dX10_laysChanges_74 : decode cX10_laysChanges 74 = .ok (.iload 6, 2) := by decide +kernel
theorem dX10_laysChanges_76 : decode cX10_laysChanges 76 = .ok (.iload 4, 2) := by decide +kernel
theorem dX10_laysChanges_78 : decode cX10_laysChanges 78 = .ok (.if_icmp .ge 8, 3) := by decide +kernel
theorem dX10_laysChanges_81 : decode cX10_laysChanges 81 = .ok (.iload 6, 2) := by decide +kernel
theorem dX10_laysChanges_83 : decode cX10_laysChanges 83 = .ok (.goto 5, 3) := by decide +kernel
theorem dX10_laysChanges_86 : decode cX10_laysChanges 86 = .ok (.iload 4, 2) := by decide +kernel
theorem dX10_laysChanges_88 : decode cX10_laysChanges 88 = .ok (.istore 4, 2) := by decide +kernel
theorem dX10_laysChanges_90 : decode cX10_laysChanges 90 = .ok (.iinc 5 1, 3) := by decide +kernel
theorem dX10_laysChanges_93 : decode cX10_laysChanges 93 = .ok (.goto (-54), 3) := by decide +kernel
theorem dX10_laysChanges_96 : decode cX10_laysChanges 96 = .ok (.aload_n 0, 1) := by decide +kernel
theorem dX10_laysChanges_97 : decode cX10_laysChanges 97 = .ok (.getfield 78, 3) := by decide +kernel
theorem dX10_laysChanges_100 : decode cX10_laysChanges 100 = .ok (.iconst 4, 1) := by decide +kernel
theorem dX10_laysChanges_101 : decode cX10_laysChanges 101 = .ok (.iload_n 2, 1) := by decide +kernel
theorem dX10_laysChanges_102 : decode cX10_laysChanges 102 = .ok (.imul, 1) := by decide +kernel
theorem dX10_laysChanges_103 : decode cX10_laysChanges 103 = .ok (.iload_n 3, 1) := by decide +kernel
theorem dX10_laysChanges_104 : decode cX10_laysChanges 104 = .ok (.iadd, 1) := by decide +kernel
theorem dX10_laysChanges_105 : decode cX10_laysChanges 105 = .ok (.iload 4, 2) := by decide +kernel
theorem dX10_laysChanges_107 : decode cX10_laysChanges 107 = .ok (.iastore, 1) := by decide +kernel
theorem dX10_laysChanges_108 : decode cX10_laysChanges 108 = .ok (.iinc 3 1, 3) := by decide +kernel
theorem dX10_laysChanges_111 : decode cX10_laysChanges 111 = .ok (.goto (-94), 3) := by decide +kernel
theorem dX10_laysChanges_114 : decode cX10_laysChanges 114 = .ok (.iinc 2 (-1), 3) := by decide +kernel
theorem dX10_laysChanges_117 : decode cX10_laysChanges 117 = .ok (.goto (-106), 3) := by decide +kernel
theorem dX10_laysChanges_120 : decode cX10_laysChanges 120 = .ok (.return_, 1) := by decide +kernel
theorem dX10_fieldAt_0 : decode cX10_fieldAt 0 = .ok (.iconst 0, 1) := by decide +kernel
theorem dX10_fieldAt_1 : decode cX10_fieldAt 1 = .ok (.istore_n 2, 1) := by decide +kernel
theorem dX10_fieldAt_2 : decode cX10_fieldAt 2 = .ok (.iconst 0, 1) := by decide +kernel
theorem dX10_fieldAt_3 : decode cX10_fieldAt 3 = .ok (.istore_n 3, 1) := by decide +kernel
theorem dX10_fieldAt_4 : decode cX10_fieldAt 4 = .ok (.bipush (-9), 2) := by decide +kernel
theorem dX10_fieldAt_6 : decode cX10_fieldAt 6 = .ok (.istore 4, 2) := by decide +kernel
theorem dX10_fieldAt_8 : decode cX10_fieldAt 8 = .ok (.iconst 0, 1) := by decide +kernel
theorem dX10_fieldAt_9 : decode cX10_fieldAt 9 = .ok (.istore 5, 2) := by decide +kernel
theorem dX10_fieldAt_11 : decode cX10_fieldAt 11 = .ok (.iload 5, 2) := by decide +kernel
theorem dX10_fieldAt_13 : decode cX10_fieldAt 13 = .ok (.iload_n 1, 1) := by decide +kernel
theorem dX10_fieldAt_14 : decode cX10_fieldAt 14 = .ok (.if_icmp .gt 64, 3) := by decide +kernel
theorem dX10_fieldAt_17 : decode cX10_fieldAt 17 = .ok (.iconst 0, 1) := by decide +kernel
theorem dX10_fieldAt_18 : decode cX10_fieldAt 18 = .ok (.istore 4, 2) := by decide +kernel
theorem dX10_fieldAt_20 : decode cX10_fieldAt 20 = .ok (.aload_n 0, 1) := by decide +kernel
theorem dX10_fieldAt_21 : decode cX10_fieldAt 21 = .ok (.iload_n 2, 1) := by decide +kernel
theorem dX10_fieldAt_22 : decode cX10_fieldAt 22 = .ok (.iload 4, 2) := by decide +kernel
theorem dX10_fieldAt_24 : decode cX10_fieldAt 24 = .ok (.invokevirtual 247, 3) := by decide +kernel
theorem dX10_fieldAt_27 : decode cX10_fieldAt 27 = .ok (.ifCond .eq 24, 3) := by decide +kernel
theorem dX10_fieldAt_30 : decode cX10_fieldAt 30 = .ok (.aload_n 0, 1) := by decide +kernel
theorem dX10_fieldAt_31 : decode cX10_fieldAt 31 = .ok (.iload_n 2, 1) := by decide +kernel
theorem dX10_fieldAt_32 : decode cX10_fieldAt 32 = .ok (.iload_n 3, 1) := by decide +kernel
theorem dX10_fieldAt_33 : decode cX10_fieldAt 33 = .ok (.iload 4, 2) := by decide +kernel
theorem dX10_fieldAt_35 : decode cX10_fieldAt 35 = .ok (.invokevirtual 250, 3) := by decide +kernel
theorem dX10_fieldAt_38 : decode cX10_fieldAt 38 = .ok (.aload_n 0, 1) := by decide +kernel
theorem dX10_fieldAt_39 : decode cX10_fieldAt 39 = .ok (.getfield 78, 3) := by decide +kernel
theorem dX10_fieldAt_42 : decode cX10_fieldAt 42 = .ok (.iconst 4, 1) := by decide +kernel
theorem dX10_fieldAt_43 : decode cX10_fieldAt 43 = .ok (.iload_n 2, 1) := by decide +kernel
theorem dX10_fieldAt_44 : decode cX10_fieldAt 44 = .ok (.imul, 1) := by decide +kernel
theorem dX10_fieldAt_45 : decode cX10_fieldAt 45 = .ok (.iload_n 3, 1) := by decide +kernel
theorem dX10_fieldAt_46 : decode cX10_fieldAt 46 = .ok (.iadd, 1) := by decide +kernel
theorem dX10_fieldAt_47 : decode cX10_fieldAt 47 = .ok (.iaload, 1) := by decide +kernel
theorem dX10_fieldAt_48 : decode cX10_fieldAt 48 = .ok (.if_icmp .eq 9, 3) := by decide +kernel
theorem dX10_fieldAt_51 : decode cX10_fieldAt 51 = .ok (.iinc 4 1, 3) := by decide +kernel
theorem dX10_fieldAt_54 : decode cX10_fieldAt 54 = .ok (.goto (-34), 3) := by decide +kernel
theorem dX10_fieldAt_57 : decode cX10_fieldAt 57 = .ok (.aload_n 0, 1) := by decide +kernel
theorem dX10_fieldAt_58 : decode cX10_fieldAt 58 = .ok (.getfield 75, 3) := by decide +kernel
theorem dX10_fieldAt_61 : decode cX10_fieldAt 61 = .ok (.iload 4, 2) := by decide +kernel
theorem dX10_fieldAt_63 : decode cX10_fieldAt 63 = .ok (.iaload, 1) := by decide +kernel
theorem dX10_fieldAt_64 : decode cX10_fieldAt 64 = .ok (.istore_n 3, 1) := by decide +kernel
theorem dX10_fieldAt_65 : decode cX10_fieldAt 65 = .ok (.iload_n 2, 1) := by decide +kernel
theorem dX10_fieldAt_66 : decode cX10_fieldAt 66 = .ok (.iconst 1, 1) := by decide +kernel
theorem dX10_fieldAt_67 : decode cX10_fieldAt 67 = .ok (.iload 4, 2) := by decide +kernel
theorem dX10_fieldAt_69 : decode cX10_fieldAt 69 = .ok (.ishl, 1) := by decide +kernel
theorem dX10_fieldAt_70 : decode cX10_fieldAt 70 = .ok (.ior, 1) := by decide +kernel
theorem dX10_fieldAt_71 : decode cX10_fieldAt 71 = .ok (.istore_n 2, 1) := by decide +kernel
theorem dX10_fieldAt_72 : decode cX10_fieldAt 72 = .ok (.iinc 5 1, 3) := by decide +kernel
theorem dX10_fieldAt_75 : decode cX10_fieldAt 75 = .ok (.goto (-64), 3) := by decide +kernel
theorem dX10_fieldAt_78 : decode cX10_fieldAt 78 = .ok (.iload 4, 2) := by decide +kernel
theorem dX10_fieldAt_80 : decode cX10_fieldAt 80 = .ok (.ireturn, 1) := by decide +kernel
theorem dX10_order_0 : decode cX10_order 0 = .ok (.aload_n 0, 1) := by decide +kernel
theorem dX10_order_1 : decode cX10_order 1 = .ok (.iconst 0, 1) := by decide +kernel
theorem dX10_order_2 : decode cX10_order 2 = .ok (.putfield 81, 3) := by decide +kernel
theorem dX10_order_5 : decode cX10_order 5 = .ok (.iload_n 1, 1) := by decide +kernel
theorem dX10_order_6 : decode cX10_order 6 = .ok (.iconst (-1), 1) := by decide +kernel
theorem dX10_order_7 : decode cX10_order 7 = .ok (.if_icmp .ge 5, 3) := by decide +kernel
theorem dX10_order_10 : decode cX10_order 10 = .ok (.iconst (-1), 1) := by decide +kernel
theorem dX10_order_11 : decode cX10_order 11 = .ok (.ireturn, 1) := by decide +kernel
theorem dX10_order_12 : decode cX10_order 12 = .ok (.aload_n 0, 1) := by decide +kernel
theorem dX10_order_13 : decode cX10_order 13 = .ok (.invokevirtual 228, 3) := by decide +kernel
theorem dX10_order_16 : decode cX10_order 16 = .ok (.aload_n 0, 1) := by decide +kernel
theorem dX10_order_17 : decode cX10_order 17 = .ok (.getfield 160, 3) := by decide +kernel
theorem dX10_order_20 : decode cX10_order 20 = .ok (.bipush 10, 2) := by decide +kernel
theorem dX10_order_22 : decode cX10_order 22 = .ok (.if_icmp .le 6, 3) := by decide +kernel
theorem dX10_order_25 : decode cX10_order 25 = .ok (.bipush (-3), 2) := by decide +kernel
theorem dX10_order_27 : decode cX10_order 27 = .ok (.ireturn, 1) := by decide +kernel
theorem dX10_order_28 : decode cX10_order 28 = .ok (.aload_n 0, 1) := by decide +kernel
theorem dX10_order_29 : decode cX10_order 29 = .ok (.getfield 160, 3) := by decide +kernel
theorem dX10_order_32 : decode cX10_order 32 = .ok (.ifCond .eq 11, 3) := by decide +kernel
theorem dX10_order_35 : decode cX10_order 35 = .ok (.iload_n 1, 1) := by decide +kernel
theorem dX10_order_36 : decode cX10_order 36 = .ok (.aload_n 0, 1) := by decide +kernel
theorem dX10_order_37 : decode cX10_order 37 = .ok (.getfield 160, 3) := by decide +kernel
theorem dX10_order_40 : decode cX10_order 40 = .ok (.if_icmp .lt 6, 3) := by decide +kernel
theorem dX10_order_43 : decode cX10_order 43 = .ok (.bipush (-9), 2) := by decide +kernel
theorem dX10_order_45 : decode cX10_order 45 = .ok (.ireturn, 1) := by decide +kernel
theorem dX10_order_46 : decode cX10_order 46 = .ok (.aload_n 0, 1) := by decide +kernel
theorem dX10_order_47 : decode cX10_order 47 = .ok (.invokevirtual 253, 3) := by decide +kernel
theorem dX10_order_50 : decode cX10_order 50 = .ok (.aload_n 0, 1) := by decide +kernel
theorem dX10_order_51 : decode cX10_order 51 = .ok (.invokevirtual 256, 3) := by decide +kernel
theorem dX10_order_54 : decode cX10_order 54 = .ok (.iload_n 1, 1) := by decide +kernel
theorem dX10_order_55 : decode cX10_order 55 = .ok (.iconst (-1), 1) := by decide +kernel
theorem dX10_order_56 : decode cX10_order 56 = .ok (.if_icmp .ne 12, 3) := by decide +kernel
theorem dX10_order_59 : decode cX10_order 59 = .ok (.aload_n 0, 1) := by decide +kernel
theorem dX10_order_60 : decode cX10_order 60 = .ok (.getfield 78, 3) := by decide +kernel
theorem dX10_order_63 : decode cX10_order 63 = .ok (.iconst 0, 1) := by decide +kernel
theorem dX10_order_64 : decode cX10_order 64 = .ok (.iaload, 1) := by decide +kernel
theorem dX10_order_65 : decode cX10_order 65 = .ok (.goto 8, 3) := by decide +kernel
theorem dX10_order_68 : decode cX10_order 68 = .ok (.aload_n 0, 1) := by decide +kernel
theorem dX10_order_69 : decode cX10_order 69 = .ok (.iload_n 1, 1) := by decide +kernel
theorem dX10_order_70 : decode cX10_order 70 = .ok (.invokevirtual 259, 3) := by decide +kernel
theorem dX10_order_73 : decode cX10_order 73 = .ok (.ireturn, 1) := by decide +kernel
theorem dX10_sees_0 : decode cX10_sees 0 = .ok (.aload_n 0, 1) := by decide +kernel
theorem dX10_sees_1 : decode cX10_sees 1 = .ok (.iconst 0, 1) := by decide +kernel
theorem dX10_sees_2 : decode cX10_sees 2 = .ok (.putfield 81, 3) := by decide +kernel
theorem dX10_sees_5 : decode cX10_sees 5 = .ok (.iload_n 1, 1) := by decide +kernel
theorem dX10_sees_6 : decode cX10_sees 6 = .ok (.iconst 0, 1) := by decide +kernel
theorem dX10_sees_7 : decode cX10_sees 7 = .ok (.iconst 1, 1) := by decide +kernel
theorem dX10_sees_8 : decode cX10_sees 8 = .ok (.invokestatic 85, 3) := by decide +kernel
theorem dX10_sees_11 : decode cX10_sees 11 = .ok (.ifCond .eq 22, 3) := by decide +kernel
theorem dX10_sees_14 : decode cX10_sees 14 = .ok (.iload_n 2, 1) := by decide +kernel
theorem dX10_sees_15 : decode cX10_sees 15 = .ok (.iconst 0, 1) := by decide +kernel
theorem dX10_sees_16 : decode cX10_sees 16 = .ok (.iconst 3, 1) := by decide +kernel
theorem dX10_sees_17 : decode cX10_sees 17 = .ok (.invokestatic 85, 3) := by decide +kernel
theorem dX10_sees_20 : decode cX10_sees 20 = .ok (.ifCond .eq 13, 3) := by decide +kernel
theorem dX10_sees_23 : decode cX10_sees 23 = .ok (.iload_n 3, 1) := by decide +kernel
theorem dX10_sees_24 : decode cX10_sees 24 = .ok (.iconst 0, 1) := by decide +kernel
theorem dX10_sees_25 : decode cX10_sees 25 = .ok (.bipush 99, 2) := by decide +kernel
theorem dX10_sees_27 : decode cX10_sees 27 = .ok (.invokestatic 85, 3) := by decide +kernel
theorem dX10_sees_30 : decode cX10_sees 30 = .ok (.ifCond .ne 5, 3) := by decide +kernel
theorem dX10_sees_33 : decode cX10_sees 33 = .ok (.iconst (-1), 1) := by decide +kernel
theorem dX10_sees_34 : decode cX10_sees 34 = .ok (.ireturn, 1) := by decide +kernel
theorem dX10_sees_35 : decode cX10_sees 35 = .ok (.aload_n 0, 1) := by decide +kernel
theorem dX10_sees_36 : decode cX10_sees 36 = .ok (.getfield 262, 3) := by decide +kernel
theorem dX10_sees_39 : decode cX10_sees 39 = .ok (.bipush 6, 2) := by decide +kernel
theorem dX10_sees_41 : decode cX10_sees 41 = .ok (.if_icmp .ne 6, 3) := by decide +kernel
theorem dX10_sees_44 : decode cX10_sees 44 = .ok (.bipush (-3), 2) := by decide +kernel
theorem dX10_sees_46 : decode cX10_sees 46 = .ok (.ireturn, 1) := by decide +kernel
theorem dX10_sees_47 : decode cX10_sees 47 = .ok (.aload_n 0, 1) := by decide +kernel
theorem dX10_sees_48 : decode cX10_sees 48 = .ok (.getfield 26, 3) := by decide +kernel
theorem dX10_sees_51 : decode cX10_sees 51 = .ok (.iconst 3, 1) := by decide +kernel
theorem dX10_sees_52 : decode cX10_sees 52 = .ok (.aload_n 0, 1) := by decide +kernel
theorem dX10_sees_53 : decode cX10_sees 53 = .ok (.getfield 262, 3) := by decide +kernel
theorem dX10_sees_56 : decode cX10_sees 56 = .ok (.imul, 1) := by decide +kernel
theorem dX10_sees_57 : decode cX10_sees 57 = .ok (.iload_n 1, 1) := by decide +kernel
theorem dX10_sees_58 : decode cX10_sees 58 = .ok (.iastore, 1) := by decide +kernel
theorem dX10_sees_59 : decode cX10_sees 59 = .ok (.aload_n 0, 1) := by decide +kernel
theorem dX10_sees_60 : decode cX10_sees 60 = .ok (.getfield 26, 3) := by decide +kernel
theorem dX10_sees_63 : decode cX10_sees 63 = .ok (.iconst 3, 1) := by decide +kernel
theorem dX10_sees_64 : decode cX10_sees 64 = .ok (.aload_n 0, 1) := by decide +kernel
theorem dX10_sees_65 : decode cX10_sees 65 = .ok (.getfield 262, 3) := by decide +kernel
theorem dX10_sees_68 : decode cX10_sees 68 = .ok (.imul, 1) := by decide +kernel
theorem dX10_sees_69 : decode cX10_sees 69 = .ok (.iconst 1, 1) := by decide +kernel
theorem dX10_sees_70 : decode cX10_sees 70 = .ok (.iadd, 1) := by decide +kernel
theorem dX10_sees_71 : decode cX10_sees 71 = .ok (.iload_n 2, 1) := by decide +kernel
theorem dX10_sees_72 : decode cX10_sees 72 = .ok (.iastore, 1) := by decide +kernel
theorem dX10_sees_73 : decode cX10_sees 73 = .ok (.aload_n 0, 1) := by decide +kernel
theorem dX10_sees_74 : decode cX10_sees 74 = .ok (.getfield 26, 3) := by decide +kernel
theorem dX10_sees_77 : decode cX10_sees 77 = .ok (.iconst 3, 1) := by decide +kernel
theorem dX10_sees_78 : decode cX10_sees 78 = .ok (.aload_n 0, 1) := by decide +kernel
theorem dX10_sees_79 : decode cX10_sees 79 = .ok (.getfield 262, 3) := by decide +kernel
theorem dX10_sees_82 : decode cX10_sees 82 = .ok (.imul, 1) := by decide +kernel
theorem dX10_sees_83 : decode cX10_sees 83 = .ok (.iconst 2, 1) := by decide +kernel
theorem dX10_sees_84 : decode cX10_sees 84 = .ok (.iadd, 1) := by decide +kernel
theorem dX10_sees_85 : decode cX10_sees 85 = .ok (.iload_n 3, 1) := by decide +kernel
theorem dX10_sees_86 : decode cX10_sees 86 = .ok (.iastore, 1) := by decide +kernel
theorem dX10_sees_87 : decode cX10_sees 87 = .ok (.aload_n 0, 1) := by decide +kernel
theorem dX10_sees_88 : decode cX10_sees 88 = .ok (.dup, 1) := by decide +kernel
theorem dX10_sees_89 : decode cX10_sees 89 = .ok (.getfield 262, 3) := by decide +kernel
theorem dX10_sees_92 : decode cX10_sees 92 = .ok (.iconst 1, 1) := by decide +kernel
theorem dX10_sees_93 : decode cX10_sees 93 = .ok (.iadd, 1) := by decide +kernel
theorem dX10_sees_94 : decode cX10_sees 94 = .ok (.putfield 262, 3) := by decide +kernel
theorem dX10_sees_97 : decode cX10_sees 97 = .ok (.aload_n 0, 1) := by decide +kernel
theorem dX10_sees_98 : decode cX10_sees 98 = .ok (.getfield 262, 3) := by decide +kernel
theorem dX10_sees_101 : decode cX10_sees 101 = .ok (.ireturn, 1) := by decide +kernel
theorem dX10_forget_0 : decode cX10_forget 0 = .ok (.aload_n 0, 1) := by decide +kernel
theorem dX10_forget_1 : decode cX10_forget 1 = .ok (.iconst 0, 1) := by decide +kernel
theorem dX10_forget_2 : decode cX10_forget 2 = .ok (.putfield 81, 3) := by decide +kernel
theorem dX10_forget_5 : decode cX10_forget 5 = .ok (.aload_n 0, 1) := by decide +kernel
theorem dX10_forget_6 : decode cX10_forget 6 = .ok (.getfield 262, 3) := by decide +kernel
theorem dX10_forget_9 : decode cX10_forget 9 = .ok (.istore_n 1, 1) := by decide +kernel
theorem dX10_forget_10 : decode cX10_forget 10 = .ok (.aload_n 0, 1) := by decide +kernel
theorem dX10_forget_11 : decode cX10_forget 11 = .ok (.iconst 0, 1) := by decide +kernel
theorem dX10_forget_12 : decode cX10_forget 12 = .ok (.putfield 262, 3) := by decide +kernel
theorem dX10_forget_15 : decode cX10_forget 15 = .ok (.iload_n 1, 1) := by decide +kernel
theorem dX10_forget_16 : decode cX10_forget 16 = .ok (.ireturn, 1) := by decide +kernel
theorem dX10_isSo_0 : decode cX10_isSo 0 = .ok (.iconst 1, 1) := by decide +kernel
theorem dX10_isSo_1 : decode cX10_isSo 1 = .ok (.istore_n 2, 1) := by decide +kernel
theorem dX10_isSo_2 : decode cX10_isSo 2 = .ok (.iconst 0, 1) := by decide +kernel
theorem dX10_isSo_3 : decode cX10_isSo 3 = .ok (.istore_n 3, 1) := by decide +kernel
theorem dX10_isSo_4 : decode cX10_isSo 4 = .ok (.iload_n 3, 1) := by decide +kernel
theorem dX10_isSo_5 : decode cX10_isSo 5 = .ok (.aload_n 0, 1) := by decide +kernel
theorem dX10_isSo_6 : decode cX10_isSo 6 = .ok (.getfield 262, 3) := by decide +kernel
theorem dX10_isSo_9 : decode cX10_isSo 9 = .ok (.if_icmp .ge 55, 3) := by decide +kernel
theorem dX10_isSo_12 : decode cX10_isSo 12 = .ok (.iload_n 2, 1) := by decide +kernel
theorem dX10_isSo_13 : decode cX10_isSo 13 = .ok (.ifCond .eq 51, 3) := by decide +kernel
theorem dX10_isSo_16 : decode cX10_isSo 16 = .ok (.aload_n 0, 1) := by decide +kernel
theorem dX10_isSo_17 : decode cX10_isSo 17 = .ok (.iload_n 1, 1) := by decide +kernel
theorem dX10_isSo_18 : decode cX10_isSo 18 = .ok (.aload_n 0, 1) := by decide +kernel
theorem dX10_isSo_19 : decode cX10_isSo 19 = .ok (.getfield 26, 3) := by decide +kernel
theorem dX10_isSo_22 : decode cX10_isSo 22 = .ok (.iconst 3, 1) := by decide +kernel
theorem dX10_isSo_23 : decode cX10_isSo 23 = .ok (.iload_n 3, 1) := by decide +kernel
theorem dX10_isSo_24 : decode cX10_isSo 24 = .ok (.imul, 1) := by decide +kernel
theorem dX10_isSo_25 : decode cX10_isSo 25 = .ok (.iaload, 1) := by decide +kernel
theorem dX10_isSo_26 : decode cX10_isSo 26 = .ok (.aload_n 0, 1) := by decide +kernel
theorem dX10_isSo_27 : decode cX10_isSo 27 = .ok (.getfield 26, 3) := by decide +kernel
theorem dX10_isSo_30 : decode cX10_isSo 30 = .ok (.iconst 3, 1) := by decide +kernel
theorem dX10_isSo_31 : decode cX10_isSo 31 = .ok (.iload_n 3, 1) := by decide +kernel
theorem dX10_isSo_32 : decode cX10_isSo 32 = .ok (.imul, 1) := by decide +kernel
theorem dX10_isSo_33 : decode cX10_isSo 33 = .ok (.iconst 1, 1) := by decide +kernel
theorem dX10_isSo_34 : decode cX10_isSo 34 = .ok (.iadd, 1) := by decide +kernel
theorem dX10_isSo_35 : decode cX10_isSo 35 = .ok (.iaload, 1) := by decide +kernel
theorem dX10_isSo_36 : decode cX10_isSo 36 = .ok (.invokevirtual 214, 3) := by decide +kernel
theorem dX10_isSo_39 : decode cX10_isSo 39 = .ok (.aload_n 0, 1) := by decide +kernel
theorem dX10_isSo_40 : decode cX10_isSo 40 = .ok (.getfield 26, 3) := by decide +kernel
theorem dX10_isSo_43 : decode cX10_isSo 43 = .ok (.iconst 3, 1) := by decide +kernel
theorem dX10_isSo_44 : decode cX10_isSo 44 = .ok (.iload_n 3, 1) := by decide +kernel
theorem dX10_isSo_45 : decode cX10_isSo 45 = .ok (.imul, 1) := by decide +kernel
theorem dX10_isSo_46 : decode cX10_isSo 46 = .ok (.iconst 2, 1) := by decide +kernel
theorem dX10_isSo_47 : decode cX10_isSo 47 = .ok (.iadd, 1) := by decide +kernel
theorem dX10_isSo_48 : decode cX10_isSo 48 = .ok (.iaload, 1) := by decide +kernel
theorem dX10_isSo_49 : decode cX10_isSo 49 = .ok (.if_icmp .ne 7, 3) := by decide +kernel
theorem dX10_isSo_52 : decode cX10_isSo 52 = .ok (.iconst 1, 1) := by decide +kernel
theorem dX10_isSo_53 : decode cX10_isSo 53 = .ok (.goto 4, 3) := by decide +kernel
theorem dX10_isSo_56 : decode cX10_isSo 56 = .ok (.iconst 0, 1) := by decide +kernel
theorem dX10_isSo_57 : decode cX10_isSo 57 = .ok (.istore_n 2, 1) := by decide +kernel
theorem dX10_isSo_58 : decode cX10_isSo 58 = .ok (.iinc 3 1, 3) := by decide +kernel
theorem dX10_isSo_61 : decode cX10_isSo 61 = .ok (.goto (-57), 3) := by decide +kernel
theorem dX10_isSo_64 : decode cX10_isSo 64 = .ok (.iload_n 2, 1) := by decide +kernel
theorem dX10_isSo_65 : decode cX10_isSo 65 = .ok (.ireturn, 1) := by decide +kernel
theorem dX10_which_0 : decode cX10_which 0 = .ok (.aload_n 0, 1) := by decide +kernel
theorem dX10_which_1 : decode cX10_which 1 = .ok (.iconst 0, 1) := by decide +kernel
theorem dX10_which_2 : decode cX10_which 2 = .ok (.putfield 81, 3) := by decide +kernel
theorem dX10_which_5 : decode cX10_which 5 = .ok (.iload_n 1, 1) := by decide +kernel
theorem dX10_which_6 : decode cX10_which 6 = .ok (.iconst 0, 1) := by decide +kernel
theorem dX10_which_7 : decode cX10_which 7 = .ok (.iconst 1, 1) := by decide +kernel
theorem dX10_which_8 : decode cX10_which 8 = .ok (.invokestatic 85, 3) := by decide +kernel
theorem dX10_which_11 : decode cX10_which 11 = .ok (.ifCond .ne 5, 3) := by decide +kernel
theorem dX10_which_14 : decode cX10_which 14 = .ok (.iconst (-1), 1) := by decide +kernel
theorem dX10_which_15 : decode cX10_which 15 = .ok (.ireturn, 1) := by decide +kernel
theorem dX10_which_16 : decode cX10_which 16 = .ok (.aload_n 0, 1) := by decide +kernel
theorem dX10_which_17 : decode cX10_which 17 = .ok (.invokevirtual 228, 3) := by decide +kernel
theorem dX10_which_20 : decode cX10_which 20 = .ok (.iconst 0, 1) := by decide +kernel
theorem dX10_which_21 : decode cX10_which 21 = .ok (.istore_n 2, 1) := by decide +kernel
theorem dX10_which_22 : decode cX10_which 22 = .ok (.bipush (-9), 2) := by decide +kernel
theorem dX10_which_24 : decode cX10_which 24 = .ok (.istore_n 3, 1) := by decide +kernel
theorem dX10_which_25 : decode cX10_which 25 = .ok (.iconst 0, 1) := by decide +kernel
theorem dX10_which_26 : decode cX10_which 26 = .ok (.istore 4, 2) := by decide +kernel
theorem dX10_which_28 : decode cX10_which 28 = .ok (.iload 4, 2) := by decide +kernel
theorem dX10_which_30 : decode cX10_which 30 = .ok (.aload_n 0, 1) := by decide +kernel
theorem dX10_which_31 : decode cX10_which 31 = .ok (.getfield 160, 3) := by decide +kernel
theorem dX10_which_34 : decode cX10_which 34 = .ok (.if_icmp .ge 32, 3) := by decide +kernel
theorem dX10_which_37 : decode cX10_which 37 = .ok (.aload_n 0, 1) := by decide +kernel
theorem dX10_which_38 : decode cX10_which 38 = .ok (.iload 4, 2) := by decide +kernel
theorem dX10_which_40 : decode cX10_which 40 = .ok (.invokevirtual 265, 3) := by decide +kernel
theorem dX10_which_43 : decode cX10_which 43 = .ok (.ifCond .eq 17, 3) := by decide +kernel
theorem dX10_which_46 : decode cX10_which 46 = .ok (.iload_n 2, 1) := by decide +kernel
theorem dX10_which_47 : decode cX10_which 47 = .ok (.ifCond .ne 8, 3) := by decide +kernel
theorem dX10_which_50 : decode cX10_which 50 = .ok (.iload 4, 2) := by decide +kernel
theorem dX10_which_52 : decode cX10_which 52 = .ok (.goto 4, 3) := by decide +kernel
theorem dX10_which_55 : decode cX10_which 55 = .ok (.iload_n 3, 1) := by decide +kernel
theorem dX10_which_56 : decode cX10_which 56 = .ok (.istore_n 3, 1) := by decide +kernel
theorem dX10_which_57 : decode cX10_which 57 = .ok (.iinc 2 1, 3) := by decide +kernel
theorem dX10_which_60 : decode cX10_which 60 = .ok (.iinc 4 1, 3) := by decide +kernel
theorem dX10_which_63 : decode cX10_which 63 = .ok (.goto (-35), 3) := by decide +kernel
theorem dX10_which_66 : decode cX10_which 66 = .ok (.iload_n 1, 1) := by decide +kernel
theorem dX10_which_67 : decode cX10_which 67 = .ok (.ifCond .ne 7, 3) := by decide +kernel
theorem dX10_which_70 : decode cX10_which 70 = .ok (.iload_n 2, 1) := by decide +kernel
theorem dX10_which_71 : decode cX10_which 71 = .ok (.goto 4, 3) := by decide +kernel
theorem dX10_which_74 : decode cX10_which 74 = .ok (.iload_n 3, 1) := by decide +kernel
theorem dX10_which_75 : decode cX10_which 75 = .ok (.ireturn, 1) := by decide +kernel
theorem dX10_fieldsNow_0 : decode cX10_fieldsNow 0 = .ok (.aload_n 0, 1) := by decide +kernel
theorem dX10_fieldsNow_1 : decode cX10_fieldsNow 1 = .ok (.invokevirtual 228, 3) := by decide +kernel
theorem dX10_fieldsNow_4 : decode cX10_fieldsNow 4 = .ok (.aload_n 0, 1) := by decide +kernel
theorem dX10_fieldsNow_5 : decode cX10_fieldsNow 5 = .ok (.getfield 160, 3) := by decide +kernel
theorem dX10_fieldsNow_8 : decode cX10_fieldsNow 8 = .ok (.ireturn, 1) := by decide +kernel
theorem dX10_keep_0 : decode cX10_keep 0 = .ok (.aload_n 0, 1) := by decide +kernel
theorem dX10_keep_1 : decode cX10_keep 1 = .ok (.iconst 0, 1) := by decide +kernel
theorem dX10_keep_2 : decode cX10_keep 2 = .ok (.putfield 81, 3) := by decide +kernel
theorem dX10_keep_5 : decode cX10_keep 5 = .ok (.iload_n 1, 1) := by decide +kernel
theorem dX10_keep_6 : decode cX10_keep 6 = .ok (.iconst 0, 1) := by decide +kernel
theorem dX10_keep_7 : decode cX10_keep 7 = .ok (.iconst 1, 1) := by decide +kernel
theorem dX10_keep_8 : decode cX10_keep 8 = .ok (.invokestatic 85, 3) := by decide +kernel
theorem dX10_keep_11 : decode cX10_keep 11 = .ok (.ifCond .ne 5, 3) := by decide +kernel
theorem dX10_keep_14 : decode cX10_keep 14 = .ok (.iconst (-1), 1) := by decide +kernel
theorem dX10_keep_15 : decode cX10_keep 15 = .ok (.ireturn, 1) := by decide +kernel
theorem dX10_keep_16 : decode cX10_keep 16 = .ok (.iconst 0, 1) := by decide +kernel
theorem dX10_keep_17 : decode cX10_keep 17 = .ok (.istore_n 2, 1) := by decide +kernel
theorem dX10_keep_18 : decode cX10_keep 18 = .ok (.iload_n 2, 1) := by decide +kernel
theorem dX10_keep_19 : decode cX10_keep 19 = .ok (.bipush 60, 2) := by decide +kernel
theorem dX10_keep_21 : decode cX10_keep 21 = .ok (.if_icmp .ge 26, 3) := by decide +kernel
theorem dX10_keep_24 : decode cX10_keep 24 = .ok (.aload_n 0, 1) := by decide +kernel
theorem dX10_keep_25 : decode cX10_keep 25 = .ok (.getfield 19, 3) := by decide +kernel
theorem dX10_keep_28 : decode cX10_keep 28 = .ok (.bipush 60, 2) := by decide +kernel
theorem dX10_keep_30 : decode cX10_keep 30 = .ok (.iload_n 1, 1) := by decide +kernel
theorem dX10_keep_31 : decode cX10_keep 31 = .ok (.imul, 1) := by decide +kernel
theorem dX10_keep_32 : decode cX10_keep 32 = .ok (.iload_n 2, 1) := by decide +kernel
theorem dX10_keep_33 : decode cX10_keep 33 = .ok (.iadd, 1) := by decide +kernel
theorem dX10_keep_34 : decode cX10_keep 34 = .ok (.aload_n 0, 1) := by decide +kernel
theorem dX10_keep_35 : decode cX10_keep 35 = .ok (.getfield 7, 3) := by decide +kernel
theorem dX10_keep_38 : decode cX10_keep 38 = .ok (.iload_n 2, 1) := by decide +kernel
theorem dX10_keep_39 : decode cX10_keep 39 = .ok (.iaload, 1) := by decide +kernel
theorem dX10_keep_40 : decode cX10_keep 40 = .ok (.iastore, 1) := by decide +kernel
theorem dX10_keep_41 : decode cX10_keep 41 = .ok (.iinc 2 1, 3) := by decide +kernel
theorem dX10_keep_44 : decode cX10_keep 44 = .ok (.goto (-26), 3) := by decide +kernel
theorem dX10_keep_47 : decode cX10_keep 47 = .ok (.aload_n 0, 1) := by decide +kernel
theorem dX10_keep_48 : decode cX10_keep 48 = .ok (.getfield 22, 3) := by decide +kernel
theorem dX10_keep_51 : decode cX10_keep 51 = .ok (.iload_n 1, 1) := by decide +kernel
theorem dX10_keep_52 : decode cX10_keep 52 = .ok (.iconst 1, 1) := by decide +kernel
theorem dX10_keep_53 : decode cX10_keep 53 = .ok (.bastore, 1) := by decide +kernel
theorem dX10_keep_54 : decode cX10_keep 54 = .ok (.aload_n 0, 1) := by decide +kernel
theorem dX10_keep_55 : decode cX10_keep 55 = .ok (.invokevirtual 268, 3) := by decide +kernel
theorem dX10_keep_58 : decode cX10_keep 58 = .ok (.ireturn, 1) := by decide +kernel
theorem dX10_back_0 : decode cX10_back 0 = .ok (.aload_n 0, 1) := by decide +kernel
theorem dX10_back_1 : decode cX10_back 1 = .ok (.iconst 0, 1) := by decide +kernel
theorem dX10_back_2 : decode cX10_back 2 = .ok (.putfield 81, 3) := by decide +kernel
theorem dX10_back_5 : decode cX10_back 5 = .ok (.iload_n 1, 1) := by decide +kernel
theorem dX10_back_6 : decode cX10_back 6 = .ok (.iconst 0, 1) := by decide +kernel
theorem dX10_back_7 : decode cX10_back 7 = .ok (.iconst 1, 1) := by decide +kernel
theorem dX10_back_8 : decode cX10_back 8 = .ok (.invokestatic 85, 3) := by decide +kernel
theorem dX10_back_11 : decode cX10_back 11 = .ok (.ifCond .ne 5, 3) := by decide +kernel
theorem dX10_back_14 : decode cX10_back 14 = .ok (.iconst (-1), 1) := by decide +kernel
theorem dX10_back_15 : decode cX10_back 15 = .ok (.ireturn, 1) := by decide +kernel
theorem dX10_back_16 : decode cX10_back 16 = .ok (.aload_n 0, 1) := by decide +kernel
theorem dX10_back_17 : decode cX10_back 17 = .ok (.getfield 22, 3) := by decide +kernel
theorem dX10_back_20 : decode cX10_back 20 = .ok (.iload_n 1, 1) := by decide +kernel
theorem dX10_back_21 : decode cX10_back 21 = .ok (.baload, 1) := by decide +kernel
theorem dX10_back_22 : decode cX10_back 22 = .ok (.ifCond .ne 6, 3) := by decide +kernel
theorem dX10_back_25 : decode cX10_back 25 = .ok (.bipush (-2), 2) := by decide +kernel
theorem dX10_back_27 : decode cX10_back 27 = .ok (.ireturn, 1) := by decide +kernel
theorem dX10_back_28 : decode cX10_back 28 = .ok (.iconst 0, 1) := by decide +kernel
theorem dX10_back_29 : decode cX10_back 29 = .ok (.istore_n 2, 1) := by decide +kernel
theorem dX10_back_30 : decode cX10_back 30 = .ok (.iload_n 2, 1) := by decide +kernel
theorem dX10_back_31 : decode cX10_back 31 = .ok (.bipush 60, 2) := by decide +kernel
theorem dX10_back_33 : decode cX10_back 33 = .ok (.if_icmp .ge 26, 3) := by decide +kernel
theorem dX10_back_36 : decode cX10_back 36 = .ok (.aload_n 0, 1) := by decide +kernel
theorem dX10_back_37 : decode cX10_back 37 = .ok (.getfield 7, 3) := by decide +kernel
theorem dX10_back_40 : decode cX10_back 40 = .ok (.iload_n 2, 1) := by decide +kernel
theorem dX10_back_41 : decode cX10_back 41 = .ok (.aload_n 0, 1) := by decide +kernel
theorem dX10_back_42 : decode cX10_back 42 = .ok (.getfield 19, 3) := by decide +kernel
theorem dX10_back_45 : decode cX10_back 45 = .ok (.bipush 60, 2) := by decide +kernel
theorem dX10_back_47 : decode cX10_back 47 = .ok (.iload_n 1, 1) := by decide +kernel
theorem dX10_back_48 : decode cX10_back 48 = .ok (.imul, 1) := by decide +kernel
theorem dX10_back_49 : decode cX10_back 49 = .ok (.iload_n 2, 1) := by decide +kernel
theorem dX10_back_50 : decode cX10_back 50 = .ok (.iadd, 1) := by decide +kernel
theorem dX10_back_51 : decode cX10_back 51 = .ok (.iaload, 1) := by decide +kernel
theorem dX10_back_52 : decode cX10_back 52 = .ok (.iastore, 1) := by decide +kernel
theorem dX10_back_53 : decode cX10_back 53 = .ok (.iinc 2 1, 3) := by decide +kernel
theorem dX10_back_56 : decode cX10_back 56 = .ok (.goto (-26), 3) := by decide +kernel
theorem dX10_back_59 : decode cX10_back 59 = .ok (.aload_n 0, 1) := by decide +kernel
theorem dX10_back_60 : decode cX10_back 60 = .ok (.iconst 0, 1) := by decide +kernel
theorem dX10_back_61 : decode cX10_back 61 = .ok (.putfield 144, 3) := by decide +kernel
theorem dX10_back_64 : decode cX10_back 64 = .ok (.aload_n 0, 1) := by decide +kernel
theorem dX10_back_65 : decode cX10_back 65 = .ok (.invokevirtual 268, 3) := by decide +kernel
theorem dX10_back_68 : decode cX10_back 68 = .ok (.ireturn, 1) := by decide +kernel
theorem dX10_coloured_0 : decode cX10_coloured 0 = .ok (.iconst 0, 1) := by decide +kernel
theorem dX10_coloured_1 : decode cX10_coloured 1 = .ok (.istore_n 1, 1) := by decide +kernel
theorem dX10_coloured_2 : decode cX10_coloured 2 = .ok (.iconst 0, 1) := by decide +kernel
theorem dX10_coloured_3 : decode cX10_coloured 3 = .ok (.istore_n 2, 1) := by decide +kernel
theorem dX10_coloured_4 : decode cX10_coloured 4 = .ok (.iload_n 2, 1) := by decide +kernel
theorem dX10_coloured_5 : decode cX10_coloured 5 = .ok (.aload_n 0, 1) := by decide +kernel
theorem dX10_coloured_6 : decode cX10_coloured 6 = .ok (.invokevirtual 151, 3) := by decide +kernel
theorem dX10_coloured_9 : decode cX10_coloured 9 = .ok (.if_icmp .ge 29, 3) := by decide +kernel
theorem dX10_coloured_12 : decode cX10_coloured 12 = .ok (.iload_n 1, 1) := by decide +kernel
theorem dX10_coloured_13 : decode cX10_coloured 13 = .ok (.aload_n 0, 1) := by decide +kernel
theorem dX10_coloured_14 : decode cX10_coloured 14 = .ok (.getfield 7, 3) := by decide +kernel
theorem dX10_coloured_17 : decode cX10_coloured 17 = .ok (.bipush 12, 2) := by decide +kernel
theorem dX10_coloured_19 : decode cX10_coloured 19 = .ok (.iload_n 2, 1) := by decide +kernel
theorem dX10_coloured_20 : decode cX10_coloured 20 = .ok (.iadd, 1) := by decide +kernel
theorem dX10_coloured_21 : decode cX10_coloured 21 = .ok (.iaload, 1) := by decide +kernel
theorem dX10_coloured_22 : decode cX10_coloured 22 = .ok (.ifCond .le 7, 3) := by decide +kernel
theorem dX10_coloured_25 : decode cX10_coloured 25 = .ok (.iconst 1, 1) := by decide +kernel
theorem dX10_coloured_26 : decode cX10_coloured 26 = .ok (.goto 4, 3) := by decide +kernel
theorem dX10_coloured_29 : decode cX10_coloured 29 = .ok (.iconst 0, 1) := by decide +kernel
theorem dX10_coloured_30 : decode cX10_coloured 30 = .ok (.iadd, 1) := by decide +kernel
theorem dX10_coloured_31 : decode cX10_coloured 31 = .ok (.istore_n 1, 1) := by decide +kernel
theorem dX10_coloured_32 : decode cX10_coloured 32 = .ok (.iinc 2 1, 3) := by decide +kernel
theorem dX10_coloured_35 : decode cX10_coloured 35 = .ok (.goto (-31), 3) := by decide +kernel
theorem dX10_coloured_38 : decode cX10_coloured 38 = .ok (.iload_n 1, 1) := by decide +kernel
theorem dX10_coloured_39 : decode cX10_coloured 39 = .ok (.ireturn, 1) := by decide +kernel
theorem dX10_count_0 : decode cX10_count 0 = .ok (.aload_n 0, 1) := by decide +kernel
theorem dX10_count_1 : decode cX10_count 1 = .ok (.iconst 0, 1) := by decide +kernel
theorem dX10_count_2 : decode cX10_count 2 = .ok (.putfield 81, 3) := by decide +kernel
theorem dX10_count_5 : decode cX10_count 5 = .ok (.iload_n 1, 1) := by decide +kernel
theorem dX10_count_6 : decode cX10_count 6 = .ok (.tableswitch 103 0 8 #[50, 57, 64, 69, 76, 83, 88, 93, 98], 50) := by decide +kernel
theorem dX10_count_56 : decode cX10_count 56 = .ok (.aload_n 0, 1) := by decide +kernel
theorem dX10_count_57 : decode cX10_count 57 = .ok (.getfield 7, 3) := by decide +kernel
theorem dX10_count_60 : decode cX10_count 60 = .ok (.iconst 0, 1) := by decide +kernel
theorem dX10_count_61 : decode cX10_count 61 = .ok (.iaload, 1) := by decide +kernel
theorem dX10_count_62 : decode cX10_count 62 = .ok (.ireturn, 1) := by decide +kernel
theorem dX10_count_63 : decode cX10_count 63 = .ok (.aload_n 0, 1) := by decide +kernel
theorem dX10_count_64 : decode cX10_count 64 = .ok (.getfield 7, 3) := by decide +kernel
theorem dX10_count_67 : decode cX10_count 67 = .ok (.iconst 1, 1) := by decide +kernel
theorem dX10_count_68 : decode cX10_count 68 = .ok (.iaload, 1) := by decide +kernel
theorem dX10_count_69 : decode cX10_count 69 = .ok (.ireturn, 1) := by decide +kernel
theorem dX10_count_70 : decode cX10_count 70 = .ok (.aload_n 0, 1) := by decide +kernel
theorem dX10_count_71 : decode cX10_count 71 = .ok (.invokevirtual 268, 3) := by decide +kernel
theorem dX10_count_74 : decode cX10_count 74 = .ok (.ireturn, 1) := by decide +kernel
theorem dX10_count_75 : decode cX10_count 75 = .ok (.aload_n 0, 1) := by decide +kernel
theorem dX10_count_76 : decode cX10_count 76 = .ok (.getfield 7, 3) := by decide +kernel
theorem dX10_count_79 : decode cX10_count 79 = .ok (.iconst 2, 1) := by decide +kernel
theorem dX10_count_80 : decode cX10_count 80 = .ok (.iaload, 1) := by decide +kernel
theorem dX10_count_81 : decode cX10_count 81 = .ok (.ireturn, 1) := by decide +kernel
theorem dX10_count_82 : decode cX10_count 82 = .ok (.aload_n 0, 1) := by decide +kernel
theorem dX10_count_83 : decode cX10_count 83 = .ok (.getfield 7, 3) := by decide +kernel
theorem dX10_count_86 : decode cX10_count 86 = .ok (.iconst 3, 1) := by decide +kernel
theorem dX10_count_87 : decode cX10_count 87 = .ok (.iaload, 1) := by decide +kernel
theorem dX10_count_88 : decode cX10_count 88 = .ok (.ireturn, 1) := by decide +kernel
theorem dX10_count_89 : decode cX10_count 89 = .ok (.aload_n 0, 1) := by decide +kernel
theorem dX10_count_90 : decode cX10_count 90 = .ok (.invokevirtual 271, 3) := by decide +kernel
theorem dX10_count_93 : decode cX10_count 93 = .ok (.ireturn, 1) := by decide +kernel
theorem dX10_count_94 : decode cX10_count 94 = .ok (.aload_n 0, 1) := by decide +kernel
theorem dX10_count_95 : decode cX10_count 95 = .ok (.getfield 262, 3) := by decide +kernel
theorem dX10_count_98 : decode cX10_count 98 = .ok (.ireturn, 1) := by decide +kernel
theorem dX10_count_99 : decode cX10_count 99 = .ok (.aload_n 0, 1) := by decide +kernel
theorem dX10_count_100 : decode cX10_count 100 = .ok (.getfield 89, 3) := by decide +kernel
theorem dX10_count_103 : decode cX10_count 103 = .ok (.ireturn, 1) := by decide +kernel
theorem dX10_count_104 : decode cX10_count 104 = .ok (.aload_n 0, 1) := by decide +kernel
theorem dX10_count_105 : decode cX10_count 105 = .ok (.getfield 144, 3) := by decide +kernel
theorem dX10_count_108 : decode cX10_count 108 = .ok (.ireturn, 1) := by decide +kernel
theorem dX10_count_109 : decode cX10_count 109 = .ok (.iconst (-1), 1) := by decide +kernel
theorem dX10_count_110 : decode cX10_count 110 = .ok (.ireturn, 1) := by decide +kernel
theorem dJ9_max_7cf53_0 : decode cJ9_max_7cf53 0 = .ok (.iload_n 0, 1) := by decide +kernel
theorem dJ9_max_7cf53_1 : decode cJ9_max_7cf53 1 = .ok (.iload_n 1, 1) := by decide +kernel
theorem dJ9_max_7cf53_2 : decode cJ9_max_7cf53 2 = .ok (.if_icmp .lt 7, 3) := by decide +kernel
theorem dJ9_max_7cf53_5 : decode cJ9_max_7cf53 5 = .ok (.iload_n 0, 1) := by decide +kernel
theorem dJ9_max_7cf53_6 : decode cJ9_max_7cf53 6 = .ok (.goto 4, 3) := by decide +kernel
theorem dJ9_max_7cf53_9 : decode cJ9_max_7cf53 9 = .ok (.iload_n 1, 1) := by decide +kernel
theorem dJ9_max_7cf53_10 : decode cJ9_max_7cf53 10 = .ok (.ireturn, 1) := by decide +kernel
theorem dJ9_min_7cf53_0 : decode cJ9_min_7cf53 0 = .ok (.iload_n 0, 1) := by decide +kernel
theorem dJ9_min_7cf53_1 : decode cJ9_min_7cf53 1 = .ok (.iload_n 1, 1) := by decide +kernel
theorem dJ9_min_7cf53_2 : decode cJ9_min_7cf53 2 = .ok (.if_icmp .gt 7, 3) := by decide +kernel
theorem dJ9_min_7cf53_5 : decode cJ9_min_7cf53 5 = .ok (.iload_n 0, 1) := by decide +kernel
theorem dJ9_min_7cf53_6 : decode cJ9_min_7cf53 6 = .ok (.goto 4, 3) := by decide +kernel
theorem dJ9_min_7cf53_9 : decode cJ9_min_7cf53 9 = .ok (.iload_n 1, 1) := by decide +kernel
theorem dJ9_min_7cf53_10 : decode cJ9_min_7cf53 10 = .ok (.ireturn, 1) := by decide +kernel
theorem dJ0_length_8abf5_0 : decode cJ0_length_8abf5 0 = .ok (.aload_n 0, 1) := by decide +kernel
theorem dJ0_length_8abf5_1 : decode cJ0_length_8abf5 1 = .ok (.getfield 9, 3) := by decide +kernel
theorem dJ0_length_8abf5_4 : decode cJ0_length_8abf5 4 = .ok (.arraylength, 1) := by decide +kernel
theorem dJ0_length_8abf5_5 : decode cJ0_length_8abf5 5 = .ok (.aload_n 0, 1) := by decide +kernel
theorem dJ0_length_8abf5_6 : decode cJ0_length_8abf5 6 = .ok (.invokevirtual 335, 3) := by decide +kernel
theorem dJ0_length_8abf5_9 : decode cJ0_length_8abf5 9 = .ok (.ishr, 1) := by decide +kernel
theorem dJ0_length_8abf5_10 : decode cJ0_length_8abf5 10 = .ok (.ireturn, 1) := by decide +kernel
theorem dJ0_charAt_5068e_0 : decode cJ0_charAt_5068e 0 = .ok (.aload_n 0, 1) := by decide +kernel
theorem dJ0_charAt_5068e_1 : decode cJ0_charAt_5068e 1 = .ok (.invokevirtual 492, 3) := by decide +kernel
theorem dJ0_charAt_5068e_4 : decode cJ0_charAt_5068e 4 = .ok (.ifCond .eq 12, 3) := by decide +kernel
theorem dJ0_charAt_5068e_7 : decode cJ0_charAt_5068e 7 = .ok (.aload_n 0, 1) := by decide +kernel
theorem dJ0_charAt_5068e_8 : decode cJ0_charAt_5068e 8 = .ok (.getfield 9, 3) := by decide +kernel
theorem dJ0_charAt_5068e_11 : decode cJ0_charAt_5068e 11 = .ok (.iload_n 1, 1) := by decide +kernel
theorem dJ0_charAt_5068e_12 : decode cJ0_charAt_5068e 12 = .ok (.invokestatic 495, 3) := by decide +kernel
theorem dJ0_charAt_5068e_15 : decode cJ0_charAt_5068e 15 = .ok (.ireturn, 1) := by decide +kernel
theorem dJ0_charAt_5068e_16 : decode cJ0_charAt_5068e 16 = .ok (.aload_n 0, 1) := by decide +kernel
theorem dJ0_charAt_5068e_17 : decode cJ0_charAt_5068e 17 = .ok (.getfield 9, 3) := by decide +kernel
theorem dJ0_charAt_5068e_20 : decode cJ0_charAt_5068e 20 = .ok (.iload_n 1, 1) := by decide +kernel
theorem dJ0_charAt_5068e_21 : decode cJ0_charAt_5068e 21 = .ok (.invokestatic 498, 3) := by decide +kernel
theorem dJ0_charAt_5068e_24 : decode cJ0_charAt_5068e 24 = .ok (.ireturn, 1) := by decide +kernel
theorem dJ0_coder_7d493_0 : decode cJ0_coder_7d493 0 = .ok (.getstatic 38, 3) := by decide +kernel
theorem dJ0_coder_7d493_3 : decode cJ0_coder_7d493 3 = .ok (.ifCond .eq 10, 3) := by decide +kernel
theorem dJ0_coder_7d493_6 : decode cJ0_coder_7d493 6 = .ok (.aload_n 0, 1) := by decide +kernel
theorem dJ0_coder_7d493_7 : decode cJ0_coder_7d493 7 = .ok (.getfield 15, 3) := by decide +kernel
theorem dJ0_coder_7d493_10 : decode cJ0_coder_7d493 10 = .ok (.goto 4, 3) := by decide +kernel
theorem dJ0_coder_7d493_13 : decode cJ0_coder_7d493 13 = .ok (.iconst 1, 1) := by decide +kernel
theorem dJ0_coder_7d493_14 : decode cJ0_coder_7d493 14 = .ok (.ireturn, 1) := by decide +kernel
theorem dJ0_isLatin1_aae02_0 : decode cJ0_isLatin1_aae02 0 = .ok (.getstatic 38, 3) := by decide +kernel
theorem dJ0_isLatin1_aae02_3 : decode cJ0_isLatin1_aae02 3 = .ok (.ifCond .eq 14, 3) := by decide +kernel
theorem dJ0_isLatin1_aae02_6 : decode cJ0_isLatin1_aae02 6 = .ok (.aload_n 0, 1) := by decide +kernel
theorem dJ0_isLatin1_aae02_7 : decode cJ0_isLatin1_aae02 7 = .ok (.getfield 15, 3) := by decide +kernel
theorem dJ0_isLatin1_aae02_10 : decode cJ0_isLatin1_aae02 10 = .ok (.ifCond .ne 7, 3) := by decide +kernel
theorem dJ0_isLatin1_aae02_13 : decode cJ0_isLatin1_aae02 13 = .ok (.iconst 1, 1) := by decide +kernel
theorem dJ0_isLatin1_aae02_14 : decode cJ0_isLatin1_aae02 14 = .ok (.goto 4, 3) := by decide +kernel
theorem dJ0_isLatin1_aae02_17 : decode cJ0_isLatin1_aae02 17 = .ok (.iconst 0, 1) := by decide +kernel
theorem dJ0_isLatin1_aae02_18 : decode cJ0_isLatin1_aae02 18 = .ok (.ireturn, 1) := by decide +kernel
theorem dJ0_checkIndex_df160_0 : decode cJ0_checkIndex_df160 0 = .ok (.iload_n 0, 1) := by decide +kernel
theorem dJ0_checkIndex_df160_1 : decode cJ0_checkIndex_df160 1 = .ok (.iload_n 1, 1) := by decide +kernel
theorem dJ0_checkIndex_df160_2 : decode cJ0_checkIndex_df160 2 = .ok (.getstatic 1053, 3) := by decide +kernel
theorem dJ0_checkIndex_df160_5 : decode cJ0_checkIndex_df160 5 = .ok (.invokestatic 1059, 3) := by decide +kernel
theorem dJ0_checkIndex_df160_8 : decode cJ0_checkIndex_df160 8 = .ok (.pop, 1) := by decide +kernel
theorem dJ0_checkIndex_df160_9 : decode cJ0_checkIndex_df160 9 = .ok (.return_, 1) := by decide +kernel
theorem dJ1_charAt_3b067_0 : decode cJ1_charAt_3b067 0 = .ok (.iload_n 1, 1) := by decide +kernel
theorem dJ1_charAt_3b067_1 : decode cJ1_charAt_3b067 1 = .ok (.aload_n 0, 1) := by decide +kernel
theorem dJ1_charAt_3b067_2 : decode cJ1_charAt_3b067 2 = .ok (.arraylength, 1) := by decide +kernel
theorem dJ1_charAt_3b067_3 : decode cJ1_charAt_3b067 3 = .ok (.invokestatic 9, 3) := by decide +kernel
theorem dJ1_charAt_3b067_6 : decode cJ1_charAt_3b067 6 = .ok (.aload_n 0, 1) := by decide +kernel
theorem dJ1_charAt_3b067_7 : decode cJ1_charAt_3b067 7 = .ok (.iload_n 1, 1) := by decide +kernel
theorem dJ1_charAt_3b067_8 : decode cJ1_charAt_3b067 8 = .ok (.baload, 1) := by decide +kernel
theorem dJ1_charAt_3b067_9 : decode cJ1_charAt_3b067 9 = .ok (.sipush 255, 3) := by decide +kernel
theorem dJ1_charAt_3b067_12 : decode cJ1_charAt_3b067 12 = .ok (.iand, 1) := by decide +kernel
theorem dJ1_charAt_3b067_13 : decode cJ1_charAt_3b067 13 = .ok (.i2c, 1) := by decide +kernel
theorem dJ1_charAt_3b067_14 : decode cJ1_charAt_3b067 14 = .ok (.ireturn, 1) := by decide +kernel
theorem dJ2_getChar_3b067_0 : decode cJ2_getChar_3b067 0 = .ok (.getstatic 44, 3) := by decide +kernel
theorem dJ2_getChar_3b067_3 : decode cJ2_getChar_3b067 3 = .ok (.ifCond .ne 25, 3) := by decide +kernel
theorem dJ2_getChar_3b067_6 : decode cJ2_getChar_3b067 6 = .ok (.iload_n 1, 1) := by decide +kernel
theorem dJ2_getChar_3b067_7 : decode cJ2_getChar_3b067 7 = .ok (.ifCond .lt 11, 3) := by decide +kernel
theorem dJ2_getChar_3b067_10 : decode cJ2_getChar_3b067 10 = .ok (.iload_n 1, 1) := by decide +kernel
theorem dJ2_getChar_3b067_11 : decode cJ2_getChar_3b067 11 = .ok (.aload_n 0, 1) := by decide +kernel
theorem dJ2_getChar_3b067_12 : decode cJ2_getChar_3b067 12 = .ok (.invokestatic 48, 3) := by decide +kernel
theorem dJ2_getChar_3b067_15 : decode cJ2_getChar_3b067 15 = .ok (.if_icmp .lt 13, 3) := by decide +kernel
theorem dJ2_getChar_3b067_18 : decode cJ2_getChar_3b067 18 = .ok (.new 52, 3) := by decide +kernel
theorem dJ2_getChar_3b067_21 : decode cJ2_getChar_3b067 21 = .ok (.dup, 1) := by decide +kernel
theorem dJ2_getChar_3b067_22 : decode cJ2_getChar_3b067 22 = .ok (.ldc 54, 2) := by decide +kernel
theorem dJ2_getChar_3b067_24 : decode cJ2_getChar_3b067 24 = .ok (.invokespecial 56, 3) := by decide +kernel
theorem dJ2_getChar_3b067_27 : decode cJ2_getChar_3b067 27 = .ok (.athrow, 1) := by decide +kernel
theorem dJ2_getChar_3b067_28 : decode cJ2_getChar_3b067 28 = .ok (.iload_n 1, 1) := by decide +kernel
theorem dJ2_getChar_3b067_29 : decode cJ2_getChar_3b067 29 = .ok (.iconst 1, 1) := by decide +kernel
theorem dJ2_getChar_3b067_30 : decode cJ2_getChar_3b067 30 = .ok (.ishl, 1) := by decide +kernel
theorem dJ2_getChar_3b067_31 : decode cJ2_getChar_3b067 31 = .ok (.istore_n 1, 1) := by decide +kernel
theorem dJ2_getChar_3b067_32 : decode cJ2_getChar_3b067 32 = .ok (.aload_n 0, 1) := by decide +kernel
theorem dJ2_getChar_3b067_33 : decode cJ2_getChar_3b067 33 = .ok (.iload_n 1, 1) := by decide +kernel
theorem dJ2_getChar_3b067_34 : decode cJ2_getChar_3b067 34 = .ok (.iinc 1 1, 3) := by decide +kernel
theorem dJ2_getChar_3b067_37 : decode cJ2_getChar_3b067 37 = .ok (.baload, 1) := by decide +kernel
theorem dJ2_getChar_3b067_38 : decode cJ2_getChar_3b067 38 = .ok (.sipush 255, 3) := by decide +kernel
theorem dJ2_getChar_3b067_41 : decode cJ2_getChar_3b067 41 = .ok (.iand, 1) := by decide +kernel
theorem dJ2_getChar_3b067_42 : decode cJ2_getChar_3b067 42 = .ok (.getstatic 59, 3) := by decide +kernel
theorem dJ2_getChar_3b067_45 : decode cJ2_getChar_3b067 45 = .ok (.ishl, 1) := by decide +kernel
theorem dJ2_getChar_3b067_46 : decode cJ2_getChar_3b067 46 = .ok (.aload_n 0, 1) := by decide +kernel
theorem dJ2_getChar_3b067_47 : decode cJ2_getChar_3b067 47 = .ok (.iload_n 1, 1) := by decide +kernel
theorem dJ2_getChar_3b067_48 : decode cJ2_getChar_3b067 48 = .ok (.baload, 1) := by decide +kernel
theorem dJ2_getChar_3b067_49 : decode cJ2_getChar_3b067 49 = .ok (.sipush 255, 3) := by decide +kernel
theorem dJ2_getChar_3b067_52 : decode cJ2_getChar_3b067 52 = .ok (.iand, 1) := by decide +kernel
theorem dJ2_getChar_3b067_53 : decode cJ2_getChar_3b067 53 = .ok (.getstatic 63, 3) := by decide +kernel
theorem dJ2_getChar_3b067_56 : decode cJ2_getChar_3b067 56 = .ok (.ishl, 1) := by decide +kernel
theorem dJ2_getChar_3b067_57 : decode cJ2_getChar_3b067 57 = .ok (.ior, 1) := by decide +kernel
theorem dJ2_getChar_3b067_58 : decode cJ2_getChar_3b067 58 = .ok (.i2c, 1) := by decide +kernel
theorem dJ2_getChar_3b067_59 : decode cJ2_getChar_3b067 59 = .ok (.ireturn, 1) := by decide +kernel
theorem dJ2_length_9d52b_0 : decode cJ2_length_9d52b 0 = .ok (.aload_n 0, 1) := by decide +kernel
theorem dJ2_length_9d52b_1 : decode cJ2_length_9d52b 1 = .ok (.arraylength, 1) := by decide +kernel
theorem dJ2_length_9d52b_2 : decode cJ2_length_9d52b 2 = .ok (.iconst 1, 1) := by decide +kernel
theorem dJ2_length_9d52b_3 : decode cJ2_length_9d52b 3 = .ok (.ishr, 1) := by decide +kernel
theorem dJ2_length_9d52b_4 : decode cJ2_length_9d52b 4 = .ok (.ireturn, 1) := by decide +kernel
theorem dJ2_charAt_3b067_0 : decode cJ2_charAt_3b067 0 = .ok (.iload_n 1, 1) := by decide +kernel
theorem dJ2_charAt_3b067_1 : decode cJ2_charAt_3b067 1 = .ok (.aload_n 0, 1) := by decide +kernel
theorem dJ2_charAt_3b067_2 : decode cJ2_charAt_3b067 2 = .ok (.invokestatic 67, 3) := by decide +kernel
theorem dJ2_charAt_3b067_5 : decode cJ2_charAt_3b067 5 = .ok (.aload_n 0, 1) := by decide +kernel
theorem dJ2_charAt_3b067_6 : decode cJ2_charAt_3b067 6 = .ok (.iload_n 1, 1) := by decide +kernel
theorem dJ2_charAt_3b067_7 : decode cJ2_charAt_3b067 7 = .ok (.invokestatic 71, 3) := by decide +kernel
theorem dJ2_charAt_3b067_10 : decode cJ2_charAt_3b067 10 = .ok (.ireturn, 1) := by decide +kernel
theorem dJ2_checkIndex_2214a_0 : decode cJ2_checkIndex_2214a 0 = .ok (.iload_n 0, 1) := by decide +kernel
theorem dJ2_checkIndex_2214a_1 : decode cJ2_checkIndex_2214a 1 = .ok (.aload_n 1, 1) := by decide +kernel
theorem dJ2_checkIndex_2214a_2 : decode cJ2_checkIndex_2214a 2 = .ok (.invokestatic 48, 3) := by decide +kernel
theorem dJ2_checkIndex_2214a_5 : decode cJ2_checkIndex_2214a 5 = .ok (.invokestatic 414, 3) := by decide +kernel
theorem dJ2_checkIndex_2214a_8 : decode cJ2_checkIndex_2214a 8 = .ok (.return_, 1) := by decide +kernel
theorem dJ7_fill_53178_0 : decode cJ7_fill_53178 0 = .ok (.iconst 0, 1) := by decide +kernel
theorem dJ7_fill_53178_1 : decode cJ7_fill_53178 1 = .ok (.istore_n 2, 1) := by decide +kernel
theorem dJ7_fill_53178_2 : decode cJ7_fill_53178 2 = .ok (.aload_n 0, 1) := by decide +kernel
theorem dJ7_fill_53178_3 : decode cJ7_fill_53178 3 = .ok (.arraylength, 1) := by decide +kernel
theorem dJ7_fill_53178_4 : decode cJ7_fill_53178 4 = .ok (.istore_n 3, 1) := by decide +kernel
theorem dJ7_fill_53178_5 : decode cJ7_fill_53178 5 = .ok (.iload_n 2, 1) := by decide +kernel
theorem dJ7_fill_53178_6 : decode cJ7_fill_53178 6 = .ok (.iload_n 3, 1) := by decide +kernel
theorem dJ7_fill_53178_7 : decode cJ7_fill_53178 7 = .ok (.if_icmp .ge 13, 3) := by decide +kernel
theorem dJ7_fill_53178_10 : decode cJ7_fill_53178 10 = .ok (.aload_n 0, 1) := by decide +kernel
theorem dJ7_fill_53178_11 : decode cJ7_fill_53178 11 = .ok (.iload_n 2, 1) := by decide +kernel
theorem dJ7_fill_53178_12 : decode cJ7_fill_53178 12 = .ok (.iload_n 1, 1) := by decide +kernel
theorem dJ7_fill_53178_13 : decode cJ7_fill_53178 13 = .ok (.iastore, 1) := by decide +kernel
theorem dJ7_fill_53178_14 : decode cJ7_fill_53178 14 = .ok (.iinc 2 1, 3) := by decide +kernel
theorem dJ7_fill_53178_17 : decode cJ7_fill_53178 17 = .ok (.goto (-12), 3) := by decide +kernel
theorem dJ7_fill_53178_20 : decode cJ7_fill_53178 20 = .ok (.return_, 1) := by decide +kernel
theorem dJ3_checkIndex_8e157_0 : decode cJ3_checkIndex_8e157 0 = .ok (.iload_n 0, 1) := by decide +kernel
theorem dJ3_checkIndex_8e157_1 : decode cJ3_checkIndex_8e157 1 = .ok (.ifCond .lt 8, 3) := by decide +kernel
theorem dJ3_checkIndex_8e157_4 : decode cJ3_checkIndex_8e157 4 = .ok (.iload_n 0, 1) := by decide +kernel
theorem dJ3_checkIndex_8e157_5 : decode cJ3_checkIndex_8e157 5 = .ok (.iload_n 1, 1) := by decide +kernel
theorem dJ3_checkIndex_8e157_6 : decode cJ3_checkIndex_8e157 6 = .ok (.if_icmp .lt 10, 3) := by decide +kernel
theorem dJ3_checkIndex_8e157_9 : decode cJ3_checkIndex_8e157 9 = .ok (.aload_n 2, 1) := by decide +kernel
theorem dJ3_checkIndex_8e157_10 : decode cJ3_checkIndex_8e157 10 = .ok (.iload_n 0, 1) := by decide +kernel
theorem dJ3_checkIndex_8e157_11 : decode cJ3_checkIndex_8e157 11 = .ok (.iload_n 1, 1) := by decide +kernel
theorem dJ3_checkIndex_8e157_12 : decode cJ3_checkIndex_8e157 12 = .ok (.invokestatic 95, 3) := by decide +kernel
theorem dJ3_checkIndex_8e157_15 : decode cJ3_checkIndex_8e157 15 = .ok (.athrow, 1) := by decide +kernel
theorem dJ3_checkIndex_8e157_16 : decode cJ3_checkIndex_8e157 16 = .ok (.iload_n 0, 1) := by decide +kernel
theorem dJ3_checkIndex_8e157_17 : decode cJ3_checkIndex_8e157 17 = .ok (.ireturn, 1) := by decide +kernel
theorem dL_law_0 : decode cL_law 0 = .ok (.new 7, 3) := by decide +kernel
theorem dL_law_3 : decode cL_law 3 = .ok (.dup, 1) := by decide +kernel
theorem dL_law_4 : decode cL_law 4 = .ok (.invokespecial 9, 3) := by decide +kernel
theorem dL_law_7 : decode cL_law 7 = .ok (.astore_n 1, 1) := by decide +kernel
theorem dL_law_8 : decode cL_law 8 = .ok (.new 10, 3) := by decide +kernel
theorem dL_law_11 : decode cL_law 11 = .ok (.dup, 1) := by decide +kernel
theorem dL_law_12 : decode cL_law 12 = .ok (.invokespecial 12, 3) := by decide +kernel
theorem dL_law_15 : decode cL_law 15 = .ok (.astore_n 2, 1) := by decide +kernel
theorem dL_law_16 : decode cL_law 16 = .ok (.iconst 0, 1) := by decide +kernel
theorem dL_law_17 : decode cL_law 17 = .ok (.istore_n 3, 1) := by decide +kernel
theorem dL_law_18 : decode cL_law 18 = .ok (.iload_n 3, 1) := by decide +kernel
theorem dL_law_19 : decode cL_law 19 = .ok (.aload_n 0, 1) := by decide +kernel
theorem dL_law_20 : decode cL_law 20 = .ok (.arraylength, 1) := by decide +kernel
theorem dL_law_21 : decode cL_law 21 = .ok (.bipush 6, 2) := by decide +kernel
theorem dL_law_23 : decode cL_law 23 = .ok (.isub, 1) := by decide +kernel
theorem dL_law_24 : decode cL_law 24 = .ok (.if_icmp .gt 747, 3) := by decide +kernel
theorem dL_law_27 : decode cL_law 27 = .ok (.aload_n 0, 1) := by decide +kernel
theorem dL_law_28 : decode cL_law 28 = .ok (.iload_n 3, 1) := by decide +kernel
theorem dL_law_29 : decode cL_law 29 = .ok (.iaload, 1) := by decide +kernel
theorem dL_law_30 : decode cL_law 30 = .ok (.bipush 31, 2) := by decide +kernel
theorem dL_law_32 : decode cL_law 32 = .ok (.iand, 1) := by decide +kernel
theorem dL_law_33 : decode cL_law 33 = .ok (.tableswitch 732 0 20 #[99, 122, 135, 148, 211, 244, 277, 300, 323, 336, 379, 412, 455, 508, 561, 584, 627, 640, 663, 686, 709], 99) := by decide +kernel
theorem dL_law_132 : decode cL_law 132 = .ok (.aload_n 1, 1) := by decide +kernel
theorem dL_law_133 : decode cL_law 133 = .ok (.aload_n 0, 1) := by decide +kernel
theorem dL_law_134 : decode cL_law 134 = .ok (.iload_n 3, 1) := by decide +kernel
theorem dL_law_135 : decode cL_law 135 = .ok (.iconst 1, 1) := by decide +kernel
theorem dL_law_136 : decode cL_law 136 = .ok (.iadd, 1) := by decide +kernel
theorem dL_law_137 : decode cL_law 137 = .ok (.iaload, 1) := by decide +kernel
theorem dL_law_138 : decode cL_law 138 = .ok (.invokevirtual 13, 3) := by decide +kernel
theorem dL_law_141 : decode cL_law 141 = .ok (.aload_n 2, 1) := by decide +kernel
theorem dL_law_142 : decode cL_law 142 = .ok (.aload_n 0, 1) := by decide +kernel
theorem dL_law_143 : decode cL_law 143 = .ok (.iload_n 3, 1) := by decide +kernel
theorem dL_law_144 : decode cL_law 144 = .ok (.iconst 1, 1) := by decide +kernel
theorem dL_law_145 : decode cL_law 145 = .ok (.iadd, 1) := by decide +kernel
theorem dL_law_146 : decode cL_law 146 = .ok (.iaload, 1) := by decide +kernel
theorem dL_law_147 : decode cL_law 147 = .ok (.invokevirtual 17, 3) := by decide +kernel
theorem dL_law_150 : decode cL_law 150 = .ok (.if_icmp .eq 615, 3) := by decide +kernel
theorem dL_law_153 : decode cL_law 153 = .ok (.iconst 0, 1) := by decide +kernel
theorem dL_law_154 : decode cL_law 154 = .ok (.ireturn, 1) := by decide +kernel
theorem dL_law_155 : decode cL_law 155 = .ok (.aload_n 1, 1) := by decide +kernel
theorem dL_law_156 : decode cL_law 156 = .ok (.invokevirtual 18, 3) := by decide +kernel
theorem dL_law_159 : decode cL_law 159 = .ok (.aload_n 2, 1) := by decide +kernel
theorem dL_law_160 : decode cL_law 160 = .ok (.invokevirtual 22, 3) := by decide +kernel
theorem dL_law_163 : decode cL_law 163 = .ok (.if_icmp .eq 602, 3) := by decide +kernel
theorem dL_law_166 : decode cL_law 166 = .ok (.iconst 0, 1) := by decide +kernel
theorem dL_law_167 : decode cL_law 167 = .ok (.ireturn, 1) := by decide +kernel
theorem dL_law_168 : decode cL_law 168 = .ok (.aload_n 1, 1) := by decide +kernel
theorem dL_law_169 : decode cL_law 169 = .ok (.invokevirtual 23, 3) := by decide +kernel
theorem dL_law_172 : decode cL_law 172 = .ok (.aload_n 2, 1) := by decide +kernel
theorem dL_law_173 : decode cL_law 173 = .ok (.invokevirtual 26, 3) := by decide +kernel
theorem dL_law_176 : decode cL_law 176 = .ok (.if_icmp .eq 589, 3) := by decide +kernel
theorem dL_law_179 : decode cL_law 179 = .ok (.iconst 0, 1) := by decide +kernel
theorem dL_law_180 : decode cL_law 180 = .ok (.ireturn, 1) := by decide +kernel
theorem dL_law_181 : decode cL_law 181 = .ok (.aload_n 1, 1) := by decide +kernel
theorem dL_law_182 : decode cL_law 182 = .ok (.aload_n 0, 1) := by decide +kernel
theorem dL_law_183 : decode cL_law 183 = .ok (.iload_n 3, 1) := by decide +kernel
theorem dL_law_184 : decode cL_law 184 = .ok (.iconst 1, 1) := by decide +kernel
theorem dL_law_185 : decode cL_law 185 = .ok (.iadd, 1) := by decide +kernel
theorem dL_law_186 : decode cL_law 186 = .ok (.iaload, 1) := by decide +kernel
theorem dL_law_187 : decode cL_law 187 = .ok (.aload_n 0, 1) := by decide +kernel
theorem dL_law_188 : decode cL_law 188 = .ok (.iload_n 3, 1) := by decide +kernel
theorem dL_law_189 : decode cL_law 189 = .ok (.iconst 2, 1) := by decide +kernel
theorem dL_law_190 : decode cL_law 190 = .ok (.iadd, 1) := by decide +kernel
theorem dL_law_191 : decode cL_law 191 = .ok (.iaload, 1) := by decide +kernel
theorem dL_law_192 : decode cL_law 192 = .ok (.aload_n 0, 1) := by decide +kernel
theorem dL_law_193 : decode cL_law 193 = .ok (.iload_n 3, 1) := by decide +kernel
theorem dL_law_194 : decode cL_law 194 = .ok (.iconst 3, 1) := by decide +kernel
theorem dL_law_195 : decode cL_law 195 = .ok (.iadd, 1) := by decide +kernel
theorem dL_law_196 : decode cL_law 196 = .ok (.iaload, 1) := by decide +kernel
theorem dL_law_197 : decode cL_law 197 = .ok (.aload_n 0, 1) := by decide +kernel
theorem dL_law_198 : decode cL_law 198 = .ok (.iload_n 3, 1) := by decide +kernel
theorem dL_law_199 : decode cL_law 199 = .ok (.iconst 4, 1) := by decide +kernel
theorem dL_law_200 : decode cL_law 200 = .ok (.iadd, 1) := by decide +kernel
theorem dL_law_201 : decode cL_law 201 = .ok (.iaload, 1) := by decide +kernel
theorem dL_law_202 : decode cL_law 202 = .ok (.aload_n 0, 1) := by decide +kernel
theorem dL_law_203 : decode cL_law 203 = .ok (.iload_n 3, 1) := by decide +kernel
theorem dL_law_204 : decode cL_law 204 = .ok (.iconst 5, 1) := by decide +kernel
theorem dL_law_205 : decode cL_law 205 = .ok (.iadd, 1) := by decide +kernel
theorem dL_law_206 : decode cL_law 206 = .ok (.iaload, 1) := by decide +kernel
theorem dL_law_207 : decode cL_law 207 = .ok (.invokevirtual 27, 3) := by decide +kernel
theorem dL_law_210 : decode cL_law 210 = .ok (.aload_n 2, 1) := by decide +kernel
theorem dL_law_211 : decode cL_law 211 = .ok (.aload_n 0, 1) := by decide +kernel
theorem dL_law_212 : decode cL_law 212 = .ok (.iload_n 3, 1) := by decide +kernel
theorem dL_law_213 : decode cL_law 213 = .ok (.iconst 1, 1) := by decide +kernel
theorem dL_law_214 : decode cL_law 214 = .ok (.iadd, 1) := by decide +kernel
theorem dL_law_215 : decode cL_law 215 = .ok (.iaload, 1) := by decide +kernel
theorem dL_law_216 : decode cL_law 216 = .ok (.aload_n 0, 1) := by decide +kernel
theorem dL_law_217 : decode cL_law 217 = .ok (.iload_n 3, 1) := by decide +kernel
theorem dL_law_218 : decode cL_law 218 = .ok (.iconst 2, 1) := by decide +kernel
theorem dL_law_219 : decode cL_law 219 = .ok (.iadd, 1) := by decide +kernel
theorem dL_law_220 : decode cL_law 220 = .ok (.iaload, 1) := by decide +kernel
theorem dL_law_221 : decode cL_law 221 = .ok (.aload_n 0, 1) := by decide +kernel
theorem dL_law_222 : decode cL_law 222 = .ok (.iload_n 3, 1) := by decide +kernel
theorem dL_law_223 : decode cL_law 223 = .ok (.iconst 3, 1) := by decide +kernel
theorem dL_law_224 : decode cL_law 224 = .ok (.iadd, 1) := by decide +kernel
theorem dL_law_225 : decode cL_law 225 = .ok (.iaload, 1) := by decide +kernel
theorem dL_law_226 : decode cL_law 226 = .ok (.aload_n 0, 1) := by decide +kernel
theorem dL_law_227 : decode cL_law 227 = .ok (.iload_n 3, 1) := by decide +kernel
theorem dL_law_228 : decode cL_law 228 = .ok (.iconst 4, 1) := by decide +kernel
theorem dL_law_229 : decode cL_law 229 = .ok (.iadd, 1) := by decide +kernel
theorem dL_law_230 : decode cL_law 230 = .ok (.iaload, 1) := by decide +kernel
theorem dL_law_231 : decode cL_law 231 = .ok (.aload_n 0, 1) := by decide +kernel
theorem dL_law_232 : decode cL_law 232 = .ok (.iload_n 3, 1) := by decide +kernel
theorem dL_law_233 : decode cL_law 233 = .ok (.iconst 5, 1) := by decide +kernel
theorem dL_law_234 : decode cL_law 234 = .ok (.iadd, 1) := by decide +kernel
theorem dL_law_235 : decode cL_law 235 = .ok (.iaload, 1) := by decide +kernel
theorem dL_law_236 : decode cL_law 236 = .ok (.invokevirtual 31, 3) := by decide +kernel
theorem dL_law_239 : decode cL_law 239 = .ok (.if_icmp .eq 526, 3) := by decide +kernel
theorem dL_law_242 : decode cL_law 242 = .ok (.iconst 0, 1) := by decide +kernel
theorem dL_law_243 : decode cL_law 243 = .ok (.ireturn, 1) := by decide +kernel
theorem dL_law_244 : decode cL_law 244 = .ok (.aload_n 1, 1) := by decide +kernel
theorem dL_law_245 : decode cL_law 245 = .ok (.aload_n 0, 1) := by decide +kernel
theorem dL_law_246 : decode cL_law 246 = .ok (.iload_n 3, 1) := by decide +kernel
theorem dL_law_247 : decode cL_law 247 = .ok (.iconst 1, 1) := by decide +kernel
theorem dL_law_248 : decode cL_law 248 = .ok (.iadd, 1) := by decide +kernel
theorem dL_law_249 : decode cL_law 249 = .ok (.iaload, 1) := by decide +kernel
theorem dL_law_250 : decode cL_law 250 = .ok (.aload_n 0, 1) := by decide +kernel
theorem dL_law_251 : decode cL_law 251 = .ok (.iload_n 3, 1) := by decide +kernel
theorem dL_law_252 : decode cL_law 252 = .ok (.iconst 2, 1) := by decide +kernel
theorem dL_law_253 : decode cL_law 253 = .ok (.iadd, 1) := by decide +kernel
theorem dL_law_254 : decode cL_law 254 = .ok (.iaload, 1) := by decide +kernel
theorem dL_law_255 : decode cL_law 255 = .ok (.invokevirtual 32, 3) := by decide +kernel
theorem dL_law_258 : decode cL_law 258 = .ok (.aload_n 2, 1) := by decide +kernel
theorem dL_law_259 : decode cL_law 259 = .ok (.aload_n 0, 1) := by decide +kernel
theorem dL_law_260 : decode cL_law 260 = .ok (.iload_n 3, 1) := by decide +kernel
theorem dL_law_261 : decode cL_law 261 = .ok (.iconst 1, 1) := by decide +kernel
theorem dL_law_262 : decode cL_law 262 = .ok (.iadd, 1) := by decide +kernel
theorem dL_law_263 : decode cL_law 263 = .ok (.iaload, 1) := by decide +kernel
theorem dL_law_264 : decode cL_law 264 = .ok (.aload_n 0, 1) := by decide +kernel
theorem dL_law_265 : decode cL_law 265 = .ok (.iload_n 3, 1) := by decide +kernel
theorem dL_law_266 : decode cL_law 266 = .ok (.iconst 2, 1) := by decide +kernel
theorem dL_law_267 : decode cL_law 267 = .ok (.iadd, 1) := by decide +kernel
theorem dL_law_268 : decode cL_law 268 = .ok (.iaload, 1) := by decide +kernel
theorem dL_law_269 : decode cL_law 269 = .ok (.invokevirtual 36, 3) := by decide +kernel
theorem dL_law_272 : decode cL_law 272 = .ok (.if_icmp .eq 493, 3) := by decide +kernel
theorem dL_law_275 : decode cL_law 275 = .ok (.iconst 0, 1) := by decide +kernel
theorem dL_law_276 : decode cL_law 276 = .ok (.ireturn, 1) := by decide +kernel
theorem dL_law_277 : decode cL_law 277 = .ok (.aload_n 1, 1) := by decide +kernel
theorem dL_law_278 : decode cL_law 278 = .ok (.aload_n 0, 1) := by decide +kernel
theorem dL_law_279 : decode cL_law 279 = .ok (.iload_n 3, 1) := by decide +kernel
theorem dL_law_280 : decode cL_law 280 = .ok (.iconst 1, 1) := by decide +kernel
theorem dL_law_281 : decode cL_law 281 = .ok (.iadd, 1) := by decide +kernel
theorem dL_law_282 : decode cL_law 282 = .ok (.iaload, 1) := by decide +kernel
theorem dL_law_283 : decode cL_law 283 = .ok (.aload_n 0, 1) := by decide +kernel
theorem dL_law_284 : decode cL_law 284 = .ok (.iload_n 3, 1) := by decide +kernel
theorem dL_law_285 : decode cL_law 285 = .ok (.iconst 2, 1) := by decide +kernel
theorem dL_law_286 : decode cL_law 286 = .ok (.iadd, 1) := by decide +kernel
theorem dL_law_287 : decode cL_law 287 = .ok (.iaload, 1) := by decide +kernel
theorem dL_law_288 : decode cL_law 288 = .ok (.invokevirtual 37, 3) := by decide +kernel
theorem dL_law_291 : decode cL_law 291 = .ok (.aload_n 2, 1) := by decide +kernel
theorem dL_law_292 : decode cL_law 292 = .ok (.aload_n 0, 1) := by decide +kernel
theorem dL_law_293 : decode cL_law 293 = .ok (.iload_n 3, 1) := by decide +kernel
theorem dL_law_294 : decode cL_law 294 = .ok (.iconst 1, 1) := by decide +kernel
theorem dL_law_295 : decode cL_law 295 = .ok (.iadd, 1) := by decide +kernel
theorem dL_law_296 : decode cL_law 296 = .ok (.iaload, 1) := by decide +kernel
theorem dL_law_297 : decode cL_law 297 = .ok (.aload_n 0, 1) := by decide +kernel
theorem dL_law_298 : decode cL_law 298 = .ok (.iload_n 3, 1) := by decide +kernel
theorem dL_law_299 : decode cL_law 299 = .ok (.iconst 2, 1) := by decide +kernel
theorem dL_law_300 : decode cL_law 300 = .ok (.iadd, 1) := by decide +kernel
theorem dL_law_301 : decode cL_law 301 = .ok (.iaload, 1) := by decide +kernel
theorem dL_law_302 : decode cL_law 302 = .ok (.invokevirtual 40, 3) := by decide +kernel
theorem dL_law_305 : decode cL_law 305 = .ok (.if_icmp .eq 460, 3) := by decide +kernel
theorem dL_law_308 : decode cL_law 308 = .ok (.iconst 0, 1) := by decide +kernel
theorem dL_law_309 : decode cL_law 309 = .ok (.ireturn, 1) := by decide +kernel
theorem dL_law_310 : decode cL_law 310 = .ok (.aload_n 1, 1) := by decide +kernel
theorem dL_law_311 : decode cL_law 311 = .ok (.aload_n 0, 1) := by decide +kernel
theorem dL_law_312 : decode cL_law 312 = .ok (.iload_n 3, 1) := by decide +kernel
theorem dL_law_313 : decode cL_law 313 = .ok (.iconst 1, 1) := by decide +kernel
theorem dL_law_314 : decode cL_law 314 = .ok (.iadd, 1) := by decide +kernel
theorem dL_law_315 : decode cL_law 315 = .ok (.iaload, 1) := by decide +kernel
theorem dL_law_316 : decode cL_law 316 = .ok (.invokevirtual 41, 3) := by decide +kernel
theorem dL_law_319 : decode cL_law 319 = .ok (.aload_n 2, 1) := by decide +kernel
theorem dL_law_320 : decode cL_law 320 = .ok (.aload_n 0, 1) := by decide +kernel
theorem dL_law_321 : decode cL_law 321 = .ok (.iload_n 3, 1) := by decide +kernel
theorem dL_law_322 : decode cL_law 322 = .ok (.iconst 1, 1) := by decide +kernel
theorem dL_law_323 : decode cL_law 323 = .ok (.iadd, 1) := by decide +kernel
theorem dL_law_324 : decode cL_law 324 = .ok (.iaload, 1) := by decide +kernel
theorem dL_law_325 : decode cL_law 325 = .ok (.invokevirtual 44, 3) := by decide +kernel
theorem dL_law_328 : decode cL_law 328 = .ok (.if_icmp .eq 437, 3) := by decide +kernel
theorem dL_law_331 : decode cL_law 331 = .ok (.iconst 0, 1) := by decide +kernel
theorem dL_law_332 : decode cL_law 332 = .ok (.ireturn, 1) := by decide +kernel
theorem dL_law_333 : decode cL_law 333 = .ok (.aload_n 1, 1) := by decide +kernel
theorem dL_law_334 : decode cL_law 334 = .ok (.aload_n 0, 1) := by decide +kernel
theorem dL_law_335 : decode cL_law 335 = .ok (.iload_n 3, 1) := by decide +kernel
theorem dL_law_336 : decode cL_law 336 = .ok (.iconst 1, 1) := by decide +kernel
theorem dL_law_337 : decode cL_law 337 = .ok (.iadd, 1) := by decide +kernel
theorem dL_law_338 : decode cL_law 338 = .ok (.iaload, 1) := by decide +kernel
theorem dL_law_339 : decode cL_law 339 = .ok (.invokevirtual 45, 3) := by decide +kernel
theorem dL_law_342 : decode cL_law 342 = .ok (.aload_n 2, 1) := by decide +kernel
theorem dL_law_343 : decode cL_law 343 = .ok (.aload_n 0, 1) := by decide +kernel
theorem dL_law_344 : decode cL_law 344 = .ok (.iload_n 3, 1) := by decide +kernel
theorem dL_law_345 : decode cL_law 345 = .ok (.iconst 1, 1) := by decide +kernel
theorem dL_law_346 : decode cL_law 346 = .ok (.iadd, 1) := by decide +kernel
theorem dL_law_347 : decode cL_law 347 = .ok (.iaload, 1) := by decide +kernel
theorem dL_law_348 : decode cL_law 348 = .ok (.invokevirtual 48, 3) := by decide +kernel
theorem dL_law_351 : decode cL_law 351 = .ok (.if_icmp .eq 414, 3) := by decide +kernel
theorem dL_law_354 : decode cL_law 354 = .ok (.iconst 0, 1) := by decide +kernel
theorem dL_law_355 : decode cL_law 355 = .ok (.ireturn, 1) := by decide +kernel
theorem dL_law_356 : decode cL_law 356 = .ok (.aload_n 1, 1) := by decide +kernel
theorem dL_law_357 : decode cL_law 357 = .ok (.invokevirtual 49, 3) := by decide +kernel
theorem dL_law_360 : decode cL_law 360 = .ok (.aload_n 2, 1) := by decide +kernel
theorem dL_law_361 : decode cL_law 361 = .ok (.invokevirtual 52, 3) := by decide +kernel
theorem dL_law_364 : decode cL_law 364 = .ok (.if_icmp .eq 401, 3) := by decide +kernel
theorem dL_law_367 : decode cL_law 367 = .ok (.iconst 0, 1) := by decide +kernel
theorem dL_law_368 : decode cL_law 368 = .ok (.ireturn, 1) := by decide +kernel
theorem dL_law_369 : decode cL_law 369 = .ok (.aload_n 1, 1) := by decide +kernel
theorem dL_law_370 : decode cL_law 370 = .ok (.aload_n 0, 1) := by decide +kernel
theorem dL_law_371 : decode cL_law 371 = .ok (.iload_n 3, 1) := by decide +kernel
theorem dL_law_372 : decode cL_law 372 = .ok (.iconst 1, 1) := by decide +kernel
theorem dL_law_373 : decode cL_law 373 = .ok (.iadd, 1) := by decide +kernel
theorem dL_law_374 : decode cL_law 374 = .ok (.iaload, 1) := by decide +kernel
theorem dL_law_375 : decode cL_law 375 = .ok (.aload_n 0, 1) := by decide +kernel
theorem dL_law_376 : decode cL_law 376 = .ok (.iload_n 3, 1) := by decide +kernel
theorem dL_law_377 : decode cL_law 377 = .ok (.iconst 2, 1) := by decide +kernel
theorem dL_law_378 : decode cL_law 378 = .ok (.iadd, 1) := by decide +kernel
theorem dL_law_379 : decode cL_law 379 = .ok (.iaload, 1) := by decide +kernel
theorem dL_law_380 : decode cL_law 380 = .ok (.aload_n 0, 1) := by decide +kernel
theorem dL_law_381 : decode cL_law 381 = .ok (.iload_n 3, 1) := by decide +kernel
theorem dL_law_382 : decode cL_law 382 = .ok (.iconst 3, 1) := by decide +kernel
theorem dL_law_383 : decode cL_law 383 = .ok (.iadd, 1) := by decide +kernel
theorem dL_law_384 : decode cL_law 384 = .ok (.iaload, 1) := by decide +kernel
theorem dL_law_385 : decode cL_law 385 = .ok (.invokevirtual 53, 3) := by decide +kernel
theorem dL_law_388 : decode cL_law 388 = .ok (.aload_n 2, 1) := by decide +kernel
theorem dL_law_389 : decode cL_law 389 = .ok (.aload_n 0, 1) := by decide +kernel
theorem dL_law_390 : decode cL_law 390 = .ok (.iload_n 3, 1) := by decide +kernel
theorem dL_law_391 : decode cL_law 391 = .ok (.iconst 1, 1) := by decide +kernel
theorem dL_law_392 : decode cL_law 392 = .ok (.iadd, 1) := by decide +kernel
theorem dL_law_393 : decode cL_law 393 = .ok (.iaload, 1) := by decide +kernel
theorem dL_law_394 : decode cL_law 394 = .ok (.aload_n 0, 1) := by decide +kernel
theorem dL_law_395 : decode cL_law 395 = .ok (.iload_n 3, 1) := by decide +kernel
theorem dL_law_396 : decode cL_law 396 = .ok (.iconst 2, 1) := by decide +kernel
theorem dL_law_397 : decode cL_law 397 = .ok (.iadd, 1) := by decide +kernel
theorem dL_law_398 : decode cL_law 398 = .ok (.iaload, 1) := by decide +kernel
theorem dL_law_399 : decode cL_law 399 = .ok (.aload_n 0, 1) := by decide +kernel
theorem dL_law_400 : decode cL_law 400 = .ok (.iload_n 3, 1) := by decide +kernel
theorem dL_law_401 : decode cL_law 401 = .ok (.iconst 3, 1) := by decide +kernel
theorem dL_law_402 : decode cL_law 402 = .ok (.iadd, 1) := by decide +kernel
theorem dL_law_403 : decode cL_law 403 = .ok (.iaload, 1) := by decide +kernel
theorem dL_law_404 : decode cL_law 404 = .ok (.invokevirtual 57, 3) := by decide +kernel
theorem dL_law_407 : decode cL_law 407 = .ok (.if_icmp .eq 358, 3) := by decide +kernel
theorem dL_law_410 : decode cL_law 410 = .ok (.iconst 0, 1) := by decide +kernel
theorem dL_law_411 : decode cL_law 411 = .ok (.ireturn, 1) := by decide +kernel
theorem dL_law_412 : decode cL_law 412 = .ok (.aload_n 1, 1) := by decide +kernel
theorem dL_law_413 : decode cL_law 413 = .ok (.aload_n 0, 1) := by decide +kernel
theorem dL_law_414 : decode cL_law 414 = .ok (.iload_n 3, 1) := by decide +kernel
theorem dL_law_415 : decode cL_law 415 = .ok (.iconst 1, 1) := by decide +kernel
theorem dL_law_416 : decode cL_law 416 = .ok (.iadd, 1) := by decide +kernel
theorem dL_law_417 : decode cL_law 417 = .ok (.iaload, 1) := by decide +kernel
theorem dL_law_418 : decode cL_law 418 = .ok (.aload_n 0, 1) := by decide +kernel
theorem dL_law_419 : decode cL_law 419 = .ok (.iload_n 3, 1) := by decide +kernel
theorem dL_law_420 : decode cL_law 420 = .ok (.iconst 2, 1) := by decide +kernel
theorem dL_law_421 : decode cL_law 421 = .ok (.iadd, 1) := by decide +kernel
theorem dL_law_422 : decode cL_law 422 = .ok (.iaload, 1) := by decide +kernel
theorem dL_law_423 : decode cL_law 423 = .ok (.invokevirtual 58, 3) := by decide +kernel
theorem dL_law_426 : decode cL_law 426 = .ok (.aload_n 2, 1) := by decide +kernel
theorem dL_law_427 : decode cL_law 427 = .ok (.aload_n 0, 1) := by decide +kernel
theorem dL_law_428 : decode cL_law 428 = .ok (.iload_n 3, 1) := by decide +kernel
theorem dL_law_429 : decode cL_law 429 = .ok (.iconst 1, 1) := by decide +kernel
theorem dL_law_430 : decode cL_law 430 = .ok (.iadd, 1) := by decide +kernel
theorem dL_law_431 : decode cL_law 431 = .ok (.iaload, 1) := by decide +kernel
theorem dL_law_432 : decode cL_law 432 = .ok (.aload_n 0, 1) := by decide +kernel
theorem dL_law_433 : decode cL_law 433 = .ok (.iload_n 3, 1) := by decide +kernel
theorem dL_law_434 : decode cL_law 434 = .ok (.iconst 2, 1) := by decide +kernel
theorem dL_law_435 : decode cL_law 435 = .ok (.iadd, 1) := by decide +kernel
theorem dL_law_436 : decode cL_law 436 = .ok (.iaload, 1) := by decide +kernel
theorem dL_law_437 : decode cL_law 437 = .ok (.invokevirtual 61, 3) := by decide +kernel
theorem dL_law_440 : decode cL_law 440 = .ok (.if_icmp .eq 325, 3) := by decide +kernel
theorem dL_law_443 : decode cL_law 443 = .ok (.iconst 0, 1) := by decide +kernel
theorem dL_law_444 : decode cL_law 444 = .ok (.ireturn, 1) := by decide +kernel
theorem dL_law_445 : decode cL_law 445 = .ok (.aload_n 1, 1) := by decide +kernel
theorem dL_law_446 : decode cL_law 446 = .ok (.aload_n 0, 1) := by decide +kernel
theorem dL_law_447 : decode cL_law 447 = .ok (.iload_n 3, 1) := by decide +kernel
theorem dL_law_448 : decode cL_law 448 = .ok (.iconst 1, 1) := by decide +kernel
theorem dL_law_449 : decode cL_law 449 = .ok (.iadd, 1) := by decide +kernel
theorem dL_law_450 : decode cL_law 450 = .ok (.iaload, 1) := by decide +kernel
theorem dL_law_451 : decode cL_law 451 = .ok (.aload_n 0, 1) := by decide +kernel
theorem dL_law_452 : decode cL_law 452 = .ok (.iload_n 3, 1) := by decide +kernel
theorem dL_law_453 : decode cL_law 453 = .ok (.iconst 2, 1) := by decide +kernel
theorem dL_law_454 : decode cL_law 454 = .ok (.iadd, 1) := by decide +kernel
theorem dL_law_455 : decode cL_law 455 = .ok (.iaload, 1) := by decide +kernel
theorem dL_law_456 : decode cL_law 456 = .ok (.aload_n 0, 1) := by decide +kernel
theorem dL_law_457 : decode cL_law 457 = .ok (.iload_n 3, 1) := by decide +kernel
theorem dL_law_458 : decode cL_law 458 = .ok (.iconst 3, 1) := by decide +kernel
theorem dL_law_459 : decode cL_law 459 = .ok (.iadd, 1) := by decide +kernel
theorem dL_law_460 : decode cL_law 460 = .ok (.iaload, 1) := by decide +kernel
theorem dL_law_461 : decode cL_law 461 = .ok (.invokevirtual 62, 3) := by decide +kernel
theorem dL_law_464 : decode cL_law 464 = .ok (.aload_n 2, 1) := by decide +kernel
theorem dL_law_465 : decode cL_law 465 = .ok (.aload_n 0, 1) := by decide +kernel
theorem dL_law_466 : decode cL_law 466 = .ok (.iload_n 3, 1) := by decide +kernel
theorem dL_law_467 : decode cL_law 467 = .ok (.iconst 1, 1) := by decide +kernel
theorem dL_law_468 : decode cL_law 468 = .ok (.iadd, 1) := by decide +kernel
theorem dL_law_469 : decode cL_law 469 = .ok (.iaload, 1) := by decide +kernel
theorem dL_law_470 : decode cL_law 470 = .ok (.aload_n 0, 1) := by decide +kernel
theorem dL_law_471 : decode cL_law 471 = .ok (.iload_n 3, 1) := by decide +kernel
theorem dL_law_472 : decode cL_law 472 = .ok (.iconst 2, 1) := by decide +kernel
theorem dL_law_473 : decode cL_law 473 = .ok (.iadd, 1) := by decide +kernel
theorem dL_law_474 : decode cL_law 474 = .ok (.iaload, 1) := by decide +kernel
theorem dL_law_475 : decode cL_law 475 = .ok (.aload_n 0, 1) := by decide +kernel
theorem dL_law_476 : decode cL_law 476 = .ok (.iload_n 3, 1) := by decide +kernel
theorem dL_law_477 : decode cL_law 477 = .ok (.iconst 3, 1) := by decide +kernel
theorem dL_law_478 : decode cL_law 478 = .ok (.iadd, 1) := by decide +kernel
theorem dL_law_479 : decode cL_law 479 = .ok (.iaload, 1) := by decide +kernel
theorem dL_law_480 : decode cL_law 480 = .ok (.invokevirtual 65, 3) := by decide +kernel
theorem dL_law_483 : decode cL_law 483 = .ok (.if_icmp .eq 282, 3) := by decide +kernel
theorem dL_law_486 : decode cL_law 486 = .ok (.iconst 0, 1) := by decide +kernel
theorem dL_law_487 : decode cL_law 487 = .ok (.ireturn, 1) := by decide +kernel
theorem dL_law_488 : decode cL_law 488 = .ok (.aload_n 1, 1) := by decide +kernel
theorem dL_law_489 : decode cL_law 489 = .ok (.aload_n 0, 1) := by decide +kernel
theorem dL_law_490 : decode cL_law 490 = .ok (.iload_n 3, 1) := by decide +kernel
theorem dL_law_491 : decode cL_law 491 = .ok (.iconst 1, 1) := by decide +kernel
theorem dL_law_492 : decode cL_law 492 = .ok (.iadd, 1) := by decide +kernel
theorem dL_law_493 : decode cL_law 493 = .ok (.iaload, 1) := by decide +kernel
theorem dL_law_494 : decode cL_law 494 = .ok (.aload_n 0, 1) := by decide +kernel
theorem dL_law_495 : decode cL_law 495 = .ok (.iload_n 3, 1) := by decide +kernel
theorem dL_law_496 : decode cL_law 496 = .ok (.iconst 2, 1) := by decide +kernel
theorem dL_law_497 : decode cL_law 497 = .ok (.iadd, 1) := by decide +kernel
theorem dL_law_498 : decode cL_law 498 = .ok (.iaload, 1) := by decide +kernel
theorem dL_law_499 : decode cL_law 499 = .ok (.aload_n 0, 1) := by decide +kernel
theorem dL_law_500 : decode cL_law 500 = .ok (.iload_n 3, 1) := by decide +kernel
theorem dL_law_501 : decode cL_law 501 = .ok (.iconst 3, 1) := by decide +kernel
theorem dL_law_502 : decode cL_law 502 = .ok (.iadd, 1) := by decide +kernel
theorem dL_law_503 : decode cL_law 503 = .ok (.iaload, 1) := by decide +kernel
theorem dL_law_504 : decode cL_law 504 = .ok (.aload_n 0, 1) := by decide +kernel
theorem dL_law_505 : decode cL_law 505 = .ok (.iload_n 3, 1) := by decide +kernel
theorem dL_law_506 : decode cL_law 506 = .ok (.iconst 4, 1) := by decide +kernel
theorem dL_law_507 : decode cL_law 507 = .ok (.iadd, 1) := by decide +kernel
theorem dL_law_508 : decode cL_law 508 = .ok (.iaload, 1) := by decide +kernel
theorem dL_law_509 : decode cL_law 509 = .ok (.invokevirtual 66, 3) := by decide +kernel
theorem dL_law_512 : decode cL_law 512 = .ok (.aload_n 2, 1) := by decide +kernel
theorem dL_law_513 : decode cL_law 513 = .ok (.aload_n 0, 1) := by decide +kernel
theorem dL_law_514 : decode cL_law 514 = .ok (.iload_n 3, 1) := by decide +kernel
theorem dL_law_515 : decode cL_law 515 = .ok (.iconst 1, 1) := by decide +kernel
theorem dL_law_516 : decode cL_law 516 = .ok (.iadd, 1) := by decide +kernel
theorem dL_law_517 : decode cL_law 517 = .ok (.iaload, 1) := by decide +kernel
theorem dL_law_518 : decode cL_law 518 = .ok (.aload_n 0, 1) := by decide +kernel
theorem dL_law_519 : decode cL_law 519 = .ok (.iload_n 3, 1) := by decide +kernel
theorem dL_law_520 : decode cL_law 520 = .ok (.iconst 2, 1) := by decide +kernel
theorem dL_law_521 : decode cL_law 521 = .ok (.iadd, 1) := by decide +kernel
theorem dL_law_522 : decode cL_law 522 = .ok (.iaload, 1) := by decide +kernel
theorem dL_law_523 : decode cL_law 523 = .ok (.aload_n 0, 1) := by decide +kernel
theorem dL_law_524 : decode cL_law 524 = .ok (.iload_n 3, 1) := by decide +kernel
theorem dL_law_525 : decode cL_law 525 = .ok (.iconst 3, 1) := by decide +kernel
theorem dL_law_526 : decode cL_law 526 = .ok (.iadd, 1) := by decide +kernel
theorem dL_law_527 : decode cL_law 527 = .ok (.iaload, 1) := by decide +kernel
theorem dL_law_528 : decode cL_law 528 = .ok (.aload_n 0, 1) := by decide +kernel
theorem dL_law_529 : decode cL_law 529 = .ok (.iload_n 3, 1) := by decide +kernel
theorem dL_law_530 : decode cL_law 530 = .ok (.iconst 4, 1) := by decide +kernel
theorem dL_law_531 : decode cL_law 531 = .ok (.iadd, 1) := by decide +kernel
theorem dL_law_532 : decode cL_law 532 = .ok (.iaload, 1) := by decide +kernel
theorem dL_law_533 : decode cL_law 533 = .ok (.invokevirtual 70, 3) := by decide +kernel
theorem dL_law_536 : decode cL_law 536 = .ok (.if_icmp .eq 229, 3) := by decide +kernel
theorem dL_law_539 : decode cL_law 539 = .ok (.iconst 0, 1) := by decide +kernel
theorem dL_law_540 : decode cL_law 540 = .ok (.ireturn, 1) := by decide +kernel
theorem dL_law_541 : decode cL_law 541 = .ok (.aload_n 1, 1) := by decide +kernel
theorem dL_law_542 : decode cL_law 542 = .ok (.aload_n 0, 1) := by decide +kernel
theorem dL_law_543 : decode cL_law 543 = .ok (.iload_n 3, 1) := by decide +kernel
theorem dL_law_544 : decode cL_law 544 = .ok (.iconst 1, 1) := by decide +kernel
theorem dL_law_545 : decode cL_law 545 = .ok (.iadd, 1) := by decide +kernel
theorem dL_law_546 : decode cL_law 546 = .ok (.iaload, 1) := by decide +kernel
theorem dL_law_547 : decode cL_law 547 = .ok (.aload_n 0, 1) := by decide +kernel
theorem dL_law_548 : decode cL_law 548 = .ok (.iload_n 3, 1) := by decide +kernel
theorem dL_law_549 : decode cL_law 549 = .ok (.iconst 2, 1) := by decide +kernel
theorem dL_law_550 : decode cL_law 550 = .ok (.iadd, 1) := by decide +kernel
theorem dL_law_551 : decode cL_law 551 = .ok (.iaload, 1) := by decide +kernel
theorem dL_law_552 : decode cL_law 552 = .ok (.aload_n 0, 1) := by decide +kernel
theorem dL_law_553 : decode cL_law 553 = .ok (.iload_n 3, 1) := by decide +kernel
theorem dL_law_554 : decode cL_law 554 = .ok (.iconst 3, 1) := by decide +kernel
theorem dL_law_555 : decode cL_law 555 = .ok (.iadd, 1) := by decide +kernel
theorem dL_law_556 : decode cL_law 556 = .ok (.iaload, 1) := by decide +kernel
theorem dL_law_557 : decode cL_law 557 = .ok (.aload_n 0, 1) := by decide +kernel
theorem dL_law_558 : decode cL_law 558 = .ok (.iload_n 3, 1) := by decide +kernel
theorem dL_law_559 : decode cL_law 559 = .ok (.iconst 4, 1) := by decide +kernel
theorem dL_law_560 : decode cL_law 560 = .ok (.iadd, 1) := by decide +kernel
theorem dL_law_561 : decode cL_law 561 = .ok (.iaload, 1) := by decide +kernel
theorem dL_law_562 : decode cL_law 562 = .ok (.invokevirtual 71, 3) := by decide +kernel
theorem dL_law_565 : decode cL_law 565 = .ok (.aload_n 2, 1) := by decide +kernel
theorem dL_law_566 : decode cL_law 566 = .ok (.aload_n 0, 1) := by decide +kernel
theorem dL_law_567 : decode cL_law 567 = .ok (.iload_n 3, 1) := by decide +kernel
theorem dL_law_568 : decode cL_law 568 = .ok (.iconst 1, 1) := by decide +kernel
theorem dL_law_569 : decode cL_law 569 = .ok (.iadd, 1) := by decide +kernel
theorem dL_law_570 : decode cL_law 570 = .ok (.iaload, 1) := by decide +kernel
theorem dL_law_571 : decode cL_law 571 = .ok (.aload_n 0, 1) := by decide +kernel
theorem dL_law_572 : decode cL_law 572 = .ok (.iload_n 3, 1) := by decide +kernel
theorem dL_law_573 : decode cL_law 573 = .ok (.iconst 2, 1) := by decide +kernel
theorem dL_law_574 : decode cL_law 574 = .ok (.iadd, 1) := by decide +kernel
theorem dL_law_575 : decode cL_law 575 = .ok (.iaload, 1) := by decide +kernel
theorem dL_law_576 : decode cL_law 576 = .ok (.aload_n 0, 1) := by decide +kernel
theorem dL_law_577 : decode cL_law 577 = .ok (.iload_n 3, 1) := by decide +kernel
theorem dL_law_578 : decode cL_law 578 = .ok (.iconst 3, 1) := by decide +kernel
theorem dL_law_579 : decode cL_law 579 = .ok (.iadd, 1) := by decide +kernel
theorem dL_law_580 : decode cL_law 580 = .ok (.iaload, 1) := by decide +kernel
theorem dL_law_581 : decode cL_law 581 = .ok (.aload_n 0, 1) := by decide +kernel
theorem dL_law_582 : decode cL_law 582 = .ok (.iload_n 3, 1) := by decide +kernel
theorem dL_law_583 : decode cL_law 583 = .ok (.iconst 4, 1) := by decide +kernel
theorem dL_law_584 : decode cL_law 584 = .ok (.iadd, 1) := by decide +kernel
theorem dL_law_585 : decode cL_law 585 = .ok (.iaload, 1) := by decide +kernel
theorem dL_law_586 : decode cL_law 586 = .ok (.invokevirtual 74, 3) := by decide +kernel
theorem dL_law_589 : decode cL_law 589 = .ok (.if_icmp .eq 176, 3) := by decide +kernel
theorem dL_law_592 : decode cL_law 592 = .ok (.iconst 0, 1) := by decide +kernel
theorem dL_law_593 : decode cL_law 593 = .ok (.ireturn, 1) := by decide +kernel
theorem dL_law_594 : decode cL_law 594 = .ok (.aload_n 1, 1) := by decide +kernel
theorem dL_law_595 : decode cL_law 595 = .ok (.aload_n 0, 1) := by decide +kernel
theorem dL_law_596 : decode cL_law 596 = .ok (.iload_n 3, 1) := by decide +kernel
theorem dL_law_597 : decode cL_law 597 = .ok (.iconst 1, 1) := by decide +kernel
theorem dL_law_598 : decode cL_law 598 = .ok (.iadd, 1) := by decide +kernel
theorem dL_law_599 : decode cL_law 599 = .ok (.iaload, 1) := by decide +kernel
theorem dL_law_600 : decode cL_law 600 = .ok (.invokevirtual 75, 3) := by decide +kernel
theorem dL_law_603 : decode cL_law 603 = .ok (.aload_n 2, 1) := by decide +kernel
theorem dL_law_604 : decode cL_law 604 = .ok (.aload_n 0, 1) := by decide +kernel
theorem dL_law_605 : decode cL_law 605 = .ok (.iload_n 3, 1) := by decide +kernel
theorem dL_law_606 : decode cL_law 606 = .ok (.iconst 1, 1) := by decide +kernel
theorem dL_law_607 : decode cL_law 607 = .ok (.iadd, 1) := by decide +kernel
theorem dL_law_608 : decode cL_law 608 = .ok (.iaload, 1) := by decide +kernel
theorem dL_law_609 : decode cL_law 609 = .ok (.invokevirtual 78, 3) := by decide +kernel
theorem dL_law_612 : decode cL_law 612 = .ok (.if_icmp .eq 153, 3) := by decide +kernel
theorem dL_law_615 : decode cL_law 615 = .ok (.iconst 0, 1) := by decide +kernel
theorem dL_law_616 : decode cL_law 616 = .ok (.ireturn, 1) := by decide +kernel
theorem dL_law_617 : decode cL_law 617 = .ok (.aload_n 1, 1) := by decide +kernel
theorem dL_law_618 : decode cL_law 618 = .ok (.aload_n 0, 1) := by decide +kernel
theorem dL_law_619 : decode cL_law 619 = .ok (.iload_n 3, 1) := by decide +kernel
theorem dL_law_620 : decode cL_law 620 = .ok (.iconst 1, 1) := by decide +kernel
theorem dL_law_621 : decode cL_law 621 = .ok (.iadd, 1) := by decide +kernel
theorem dL_law_622 : decode cL_law 622 = .ok (.iaload, 1) := by decide +kernel
theorem dL_law_623 : decode cL_law 623 = .ok (.aload_n 0, 1) := by decide +kernel
theorem dL_law_624 : decode cL_law 624 = .ok (.iload_n 3, 1) := by decide +kernel
theorem dL_law_625 : decode cL_law 625 = .ok (.iconst 2, 1) := by decide +kernel
theorem dL_law_626 : decode cL_law 626 = .ok (.iadd, 1) := by decide +kernel
theorem dL_law_627 : decode cL_law 627 = .ok (.iaload, 1) := by decide +kernel
theorem dL_law_628 : decode cL_law 628 = .ok (.aload_n 0, 1) := by decide +kernel
theorem dL_law_629 : decode cL_law 629 = .ok (.iload_n 3, 1) := by decide +kernel
theorem dL_law_630 : decode cL_law 630 = .ok (.iconst 3, 1) := by decide +kernel
theorem dL_law_631 : decode cL_law 631 = .ok (.iadd, 1) := by decide +kernel
theorem dL_law_632 : decode cL_law 632 = .ok (.iaload, 1) := by decide +kernel
theorem dL_law_633 : decode cL_law 633 = .ok (.invokevirtual 79, 3) := by decide +kernel
theorem dL_law_636 : decode cL_law 636 = .ok (.aload_n 2, 1) := by decide +kernel
theorem dL_law_637 : decode cL_law 637 = .ok (.aload_n 0, 1) := by decide +kernel
theorem dL_law_638 : decode cL_law 638 = .ok (.iload_n 3, 1) := by decide +kernel
theorem dL_law_639 : decode cL_law 639 = .ok (.iconst 1, 1) := by decide +kernel
theorem dL_law_640 : decode cL_law 640 = .ok (.iadd, 1) := by decide +kernel
theorem dL_law_641 : decode cL_law 641 = .ok (.iaload, 1) := by decide +kernel
theorem dL_law_642 : decode cL_law 642 = .ok (.aload_n 0, 1) := by decide +kernel
theorem dL_law_643 : decode cL_law 643 = .ok (.iload_n 3, 1) := by decide +kernel
theorem dL_law_644 : decode cL_law 644 = .ok (.iconst 2, 1) := by decide +kernel
theorem dL_law_645 : decode cL_law 645 = .ok (.iadd, 1) := by decide +kernel
theorem dL_law_646 : decode cL_law 646 = .ok (.iaload, 1) := by decide +kernel
theorem dL_law_647 : decode cL_law 647 = .ok (.aload_n 0, 1) := by decide +kernel
theorem dL_law_648 : decode cL_law 648 = .ok (.iload_n 3, 1) := by decide +kernel
theorem dL_law_649 : decode cL_law 649 = .ok (.iconst 3, 1) := by decide +kernel
theorem dL_law_650 : decode cL_law 650 = .ok (.iadd, 1) := by decide +kernel
theorem dL_law_651 : decode cL_law 651 = .ok (.iaload, 1) := by decide +kernel
theorem dL_law_652 : decode cL_law 652 = .ok (.invokevirtual 82, 3) := by decide +kernel
theorem dL_law_655 : decode cL_law 655 = .ok (.if_icmp .eq 110, 3) := by decide +kernel
theorem dL_law_658 : decode cL_law 658 = .ok (.iconst 0, 1) := by decide +kernel
theorem dL_law_659 : decode cL_law 659 = .ok (.ireturn, 1) := by decide +kernel
theorem dL_law_660 : decode cL_law 660 = .ok (.aload_n 1, 1) := by decide +kernel
theorem dL_law_661 : decode cL_law 661 = .ok (.invokevirtual 83, 3) := by decide +kernel
theorem dL_law_664 : decode cL_law 664 = .ok (.aload_n 2, 1) := by decide +kernel
theorem dL_law_665 : decode cL_law 665 = .ok (.invokevirtual 86, 3) := by decide +kernel
theorem dL_law_668 : decode cL_law 668 = .ok (.if_icmp .eq 97, 3) := by decide +kernel
theorem dL_law_671 : decode cL_law 671 = .ok (.iconst 0, 1) := by decide +kernel
theorem dL_law_672 : decode cL_law 672 = .ok (.ireturn, 1) := by decide +kernel
theorem dL_law_673 : decode cL_law 673 = .ok (.aload_n 1, 1) := by decide +kernel
theorem dL_law_674 : decode cL_law 674 = .ok (.aload_n 0, 1) := by decide +kernel
theorem dL_law_675 : decode cL_law 675 = .ok (.iload_n 3, 1) := by decide +kernel
theorem dL_law_676 : decode cL_law 676 = .ok (.iconst 1, 1) := by decide +kernel
theorem dL_law_677 : decode cL_law 677 = .ok (.iadd, 1) := by decide +kernel
theorem dL_law_678 : decode cL_law 678 = .ok (.iaload, 1) := by decide +kernel
theorem dL_law_679 : decode cL_law 679 = .ok (.invokevirtual 87, 3) := by decide +kernel
theorem dL_law_682 : decode cL_law 682 = .ok (.aload_n 2, 1) := by decide +kernel
theorem dL_law_683 : decode cL_law 683 = .ok (.aload_n 0, 1) := by decide +kernel
theorem dL_law_684 : decode cL_law 684 = .ok (.iload_n 3, 1) := by decide +kernel
theorem dL_law_685 : decode cL_law 685 = .ok (.iconst 1, 1) := by decide +kernel
theorem dL_law_686 : decode cL_law 686 = .ok (.iadd, 1) := by decide +kernel
theorem dL_law_687 : decode cL_law 687 = .ok (.iaload, 1) := by decide +kernel
theorem dL_law_688 : decode cL_law 688 = .ok (.invokevirtual 90, 3) := by decide +kernel
theorem dL_law_691 : decode cL_law 691 = .ok (.if_icmp .eq 74, 3) := by decide +kernel
theorem dL_law_694 : decode cL_law 694 = .ok (.iconst 0, 1) := by decide +kernel
theorem dL_law_695 : decode cL_law 695 = .ok (.ireturn, 1) := by decide +kernel
theorem dL_law_696 : decode cL_law 696 = .ok (.aload_n 1, 1) := by decide +kernel
theorem dL_law_697 : decode cL_law 697 = .ok (.aload_n 0, 1) := by decide +kernel
theorem dL_law_698 : decode cL_law 698 = .ok (.iload_n 3, 1) := by decide +kernel
theorem dL_law_699 : decode cL_law 699 = .ok (.iconst 1, 1) := by decide +kernel
theorem dL_law_700 : decode cL_law 700 = .ok (.iadd, 1) := by decide +kernel
theorem dL_law_701 : decode cL_law 701 = .ok (.iaload, 1) := by decide +kernel
theorem dL_law_702 : decode cL_law 702 = .ok (.invokevirtual 91, 3) := by decide +kernel
theorem dL_law_705 : decode cL_law 705 = .ok (.aload_n 2, 1) := by decide +kernel
theorem dL_law_706 : decode cL_law 706 = .ok (.aload_n 0, 1) := by decide +kernel
theorem dL_law_707 : decode cL_law 707 = .ok (.iload_n 3, 1) := by decide +kernel
theorem dL_law_708 : decode cL_law 708 = .ok (.iconst 1, 1) := by decide +kernel
theorem dL_law_709 : decode cL_law 709 = .ok (.iadd, 1) := by decide +kernel
theorem dL_law_710 : decode cL_law 710 = .ok (.iaload, 1) := by decide +kernel
theorem dL_law_711 : decode cL_law 711 = .ok (.invokevirtual 94, 3) := by decide +kernel
theorem dL_law_714 : decode cL_law 714 = .ok (.if_icmp .eq 51, 3) := by decide +kernel
theorem dL_law_717 : decode cL_law 717 = .ok (.iconst 0, 1) := by decide +kernel
theorem dL_law_718 : decode cL_law 718 = .ok (.ireturn, 1) := by decide +kernel
theorem dL_law_719 : decode cL_law 719 = .ok (.aload_n 1, 1) := by decide +kernel
theorem dL_law_720 : decode cL_law 720 = .ok (.aload_n 0, 1) := by decide +kernel
theorem dL_law_721 : decode cL_law 721 = .ok (.iload_n 3, 1) := by decide +kernel
theorem dL_law_722 : decode cL_law 722 = .ok (.iconst 1, 1) := by decide +kernel
theorem dL_law_723 : decode cL_law 723 = .ok (.iadd, 1) := by decide +kernel
theorem dL_law_724 : decode cL_law 724 = .ok (.iaload, 1) := by decide +kernel
theorem dL_law_725 : decode cL_law 725 = .ok (.invokevirtual 95, 3) := by decide +kernel
theorem dL_law_728 : decode cL_law 728 = .ok (.aload_n 2, 1) := by decide +kernel
theorem dL_law_729 : decode cL_law 729 = .ok (.aload_n 0, 1) := by decide +kernel
theorem dL_law_730 : decode cL_law 730 = .ok (.iload_n 3, 1) := by decide +kernel
theorem dL_law_731 : decode cL_law 731 = .ok (.iconst 1, 1) := by decide +kernel
theorem dL_law_732 : decode cL_law 732 = .ok (.iadd, 1) := by decide +kernel
theorem dL_law_733 : decode cL_law 733 = .ok (.iaload, 1) := by decide +kernel
theorem dL_law_734 : decode cL_law 734 = .ok (.invokevirtual 98, 3) := by decide +kernel
theorem dL_law_737 : decode cL_law 737 = .ok (.if_icmp .eq 28, 3) := by decide +kernel
theorem dL_law_740 : decode cL_law 740 = .ok (.iconst 0, 1) := by decide +kernel
theorem dL_law_741 : decode cL_law 741 = .ok (.ireturn, 1) := by decide +kernel
theorem dL_law_742 : decode cL_law 742 = .ok (.aload_n 1, 1) := by decide +kernel
theorem dL_law_743 : decode cL_law 743 = .ok (.aload_n 0, 1) := by decide +kernel
theorem dL_law_744 : decode cL_law 744 = .ok (.iload_n 3, 1) := by decide +kernel
theorem dL_law_745 : decode cL_law 745 = .ok (.iconst 1, 1) := by decide +kernel
theorem dL_law_746 : decode cL_law 746 = .ok (.iadd, 1) := by decide +kernel
theorem dL_law_747 : decode cL_law 747 = .ok (.iaload, 1) := by decide +kernel
theorem dL_law_748 : decode cL_law 748 = .ok (.invokevirtual 99, 3) := by decide +kernel
theorem dL_law_751 : decode cL_law 751 = .ok (.aload_n 2, 1) := by decide +kernel
theorem dL_law_752 : decode cL_law 752 = .ok (.aload_n 0, 1) := by decide +kernel
theorem dL_law_753 : decode cL_law 753 = .ok (.iload_n 3, 1) := by decide +kernel
theorem dL_law_754 : decode cL_law 754 = .ok (.iconst 1, 1) := by decide +kernel
theorem dL_law_755 : decode cL_law 755 = .ok (.iadd, 1) := by decide +kernel
theorem dL_law_756 : decode cL_law 756 = .ok (.iaload, 1) := by decide +kernel
theorem dL_law_757 : decode cL_law 757 = .ok (.invokevirtual 102, 3) := by decide +kernel
theorem dL_law_760 : decode cL_law 760 = .ok (.if_icmp .eq 5, 3) := by decide +kernel
theorem dL_law_763 : decode cL_law 763 = .ok (.iconst 0, 1) := by decide +kernel
theorem dL_law_764 : decode cL_law 764 = .ok (.ireturn, 1) := by decide +kernel
theorem dL_law_765 : decode cL_law 765 = .ok (.iinc 3 6, 3) := by decide +kernel
theorem dL_law_768 : decode cL_law 768 = .ok (.goto (-750), 3) := by decide +kernel
theorem dL_law_771 : decode cL_law 771 = .ok (.iconst 1, 1) := by decide +kernel
theorem dL_law_772 : decode cL_law 772 = .ok (.ireturn, 1) := by decide +kernel
