theorem dX0_init_0 : decode cX0_init 0 = .ok (.aload_n 0, 1) := by decide +kernel
theorem dX0_init_1 : decode cX0_init 1 = .ok (.invokespecial 3, 3) := by decide +kernel
theorem dX0_init_4 : decode cX0_init 4 = .ok (.aload_n 0, 1) := by decide +kernel
theorem dX0_init_5 : decode cX0_init 5 = .ok (.iconst (-1), 1) := by decide +kernel
theorem dX0_init_6 : decode cX0_init 6 = .ok (.putfield 9, 3) := by decide +kernel
theorem dX0_init_9 : decode cX0_init 9 = .ok (.return_, 1) := by decide +kernel
theorem dX0_come_0 : decode cX0_come 0 = .ok (.aload_n 0, 1) := by decide +kernel
theorem dX0_come_1 : decode cX0_come 1 = .ok (.iload_n 1, 1) := by decide +kernel
theorem dX0_come_2 : decode cX0_come 2 = .ok (.putfield 9, 3) := by decide +kernel
theorem dX0_come_5 : decode cX0_come 5 = .ok (.aload_n 0, 1) := by decide +kernel
theorem dX0_come_6 : decode cX0_come 6 = .ok (.iload_n 2, 1) := by decide +kernel
theorem dX0_come_7 : decode cX0_come 7 = .ok (.putfield 15, 3) := by decide +kernel
theorem dX0_come_10 : decode cX0_come 10 = .ok (.aload_n 0, 1) := by decide +kernel
theorem dX0_come_11 : decode cX0_come 11 = .ok (.iload_n 3, 1) := by decide +kernel
theorem dX0_come_12 : decode cX0_come 12 = .ok (.putfield 18, 3) := by decide +kernel
theorem dX0_come_15 : decode cX0_come 15 = .ok (.aload_n 0, 1) := by decide +kernel
theorem dX0_come_16 : decode cX0_come 16 = .ok (.iload 4, 2) := by decide +kernel
theorem dX0_come_18 : decode cX0_come 18 = .ok (.putfield 21, 3) := by decide +kernel
theorem dX0_come_21 : decode cX0_come 21 = .ok (.return_, 1) := by decide +kernel
theorem dX0_copyFrom_0 : decode cX0_copyFrom 0 = .ok (.aload_n 0, 1) := by decide +kernel
theorem dX0_copyFrom_1 : decode cX0_copyFrom 1 = .ok (.aload_n 1, 1) := by decide +kernel
theorem dX0_copyFrom_2 : decode cX0_copyFrom 2 = .ok (.getfield 9, 3) := by decide +kernel
theorem dX0_copyFrom_5 : decode cX0_copyFrom 5 = .ok (.aload_n 1, 1) := by decide +kernel
theorem dX0_copyFrom_6 : decode cX0_copyFrom 6 = .ok (.getfield 15, 3) := by decide +kernel
theorem dX0_copyFrom_9 : decode cX0_copyFrom 9 = .ok (.aload_n 1, 1) := by decide +kernel
theorem dX0_copyFrom_10 : decode cX0_copyFrom 10 = .ok (.getfield 18, 3) := by decide +kernel
theorem dX0_copyFrom_13 : decode cX0_copyFrom 13 = .ok (.aload_n 1, 1) := by decide +kernel
theorem dX0_copyFrom_14 : decode cX0_copyFrom 14 = .ok (.getfield 21, 3) := by decide +kernel
theorem dX0_copyFrom_17 : decode cX0_copyFrom 17 = .ok (.invokevirtual 24, 3) := by decide +kernel
theorem dX0_copyFrom_20 : decode cX0_copyFrom 20 = .ok (.return_, 1) := by decide +kernel
theorem dX0_isGone_0 : decode cX0_isGone 0 = .ok (.aload_n 0, 1) := by decide +kernel
theorem dX0_isGone_1 : decode cX0_isGone 1 = .ok (.getfield 9, 3) := by decide +kernel
theorem dX0_isGone_4 : decode cX0_isGone 4 = .ok (.iconst (-1), 1) := by decide +kernel
theorem dX0_isGone_5 : decode cX0_isGone 5 = .ok (.if_icmp .ne 7, 3) := by decide +kernel
theorem dX0_isGone_8 : decode cX0_isGone 8 = .ok (.iconst 1, 1) := by decide +kernel
theorem dX0_isGone_9 : decode cX0_isGone 9 = .ok (.goto 4, 3) := by decide +kernel
theorem dX0_isGone_12 : decode cX0_isGone 12 = .ok (.iconst 0, 1) := by decide +kernel
theorem dX0_isGone_13 : decode cX0_isGone 13 = .ok (.ireturn, 1) := by decide +kernel
theorem dX0_walk_0 : decode cX0_walk 0 = .ok (.aload_n 0, 1) := by decide +kernel
theorem dX0_walk_1 : decode cX0_walk 1 = .ok (.invokevirtual 28, 3) := by decide +kernel
theorem dX0_walk_4 : decode cX0_walk 4 = .ok (.ifCond .ne 35, 3) := by decide +kernel
theorem dX0_walk_7 : decode cX0_walk 7 = .ok (.aload_n 0, 1) := by decide +kernel
theorem dX0_walk_8 : decode cX0_walk 8 = .ok (.aload_n 0, 1) := by decide +kernel
theorem dX0_walk_9 : decode cX0_walk 9 = .ok (.getfield 9, 3) := by decide +kernel
theorem dX0_walk_12 : decode cX0_walk 12 = .ok (.aload_n 0, 1) := by decide +kernel
theorem dX0_walk_13 : decode cX0_walk 13 = .ok (.getfield 15, 3) := by decide +kernel
theorem dX0_walk_16 : decode cX0_walk 16 = .ok (.iadd, 1) := by decide +kernel
theorem dX0_walk_17 : decode cX0_walk 17 = .ok (.invokestatic 32, 3) := by decide +kernel
theorem dX0_walk_20 : decode cX0_walk 20 = .ok (.ifCond .eq 15, 3) := by decide +kernel
theorem dX0_walk_23 : decode cX0_walk 23 = .ok (.aload_n 0, 1) := by decide +kernel
theorem dX0_walk_24 : decode cX0_walk 24 = .ok (.getfield 9, 3) := by decide +kernel
theorem dX0_walk_27 : decode cX0_walk 27 = .ok (.aload_n 0, 1) := by decide +kernel
theorem dX0_walk_28 : decode cX0_walk 28 = .ok (.getfield 15, 3) := by decide +kernel
theorem dX0_walk_31 : decode cX0_walk 31 = .ok (.iadd, 1) := by decide +kernel
theorem dX0_walk_32 : decode cX0_walk 32 = .ok (.goto 4, 3) := by decide +kernel
theorem dX0_walk_35 : decode cX0_walk 35 = .ok (.iconst (-1), 1) := by decide +kernel
theorem dX0_walk_36 : decode cX0_walk 36 = .ok (.putfield 9, 3) := by decide +kernel
theorem dX0_walk_39 : decode cX0_walk 39 = .ok (.return_, 1) := by decide +kernel
theorem dX1_init_0 : decode cX1_init 0 = .ok (.aload_n 0, 1) := by decide +kernel
theorem dX1_init_1 : decode cX1_init 1 = .ok (.invokespecial 3, 3) := by decide +kernel
theorem dX1_init_4 : decode cX1_init 4 = .ok (.return_, 1) := by decide +kernel
theorem dX1_build_0 : decode cX1_build 0 = .ok (.aload_n 0, 1) := by decide +kernel
theorem dX1_build_1 : decode cX1_build 1 = .ok (.iload_n 1, 1) := by decide +kernel
theorem dX1_build_2 : decode cX1_build 2 = .ok (.putfield 9, 3) := by decide +kernel
theorem dX1_build_5 : decode cX1_build 5 = .ok (.aload_n 0, 1) := by decide +kernel
theorem dX1_build_6 : decode cX1_build 6 = .ok (.iload_n 2, 1) := by decide +kernel
theorem dX1_build_7 : decode cX1_build 7 = .ok (.putfield 15, 3) := by decide +kernel
theorem dX1_build_10 : decode cX1_build 10 = .ok (.aload_n 0, 1) := by decide +kernel
theorem dX1_build_11 : decode cX1_build 11 = .ok (.iload_n 3, 1) := by decide +kernel
theorem dX1_build_12 : decode cX1_build 12 = .ok (.putfield 18, 3) := by decide +kernel
theorem dX1_build_15 : decode cX1_build 15 = .ok (.aload_n 0, 1) := by decide +kernel
theorem dX1_build_16 : decode cX1_build 16 = .ok (.iconst 3, 1) := by decide +kernel
theorem dX1_build_17 : decode cX1_build 17 = .ok (.putfield 21, 3) := by decide +kernel
theorem dX1_build_20 : decode cX1_build 20 = .ok (.return_, 1) := by decide +kernel
theorem dX1_copyFrom_0 : decode cX1_copyFrom 0 = .ok (.aload_n 0, 1) := by decide +kernel
theorem dX1_copyFrom_1 : decode cX1_copyFrom 1 = .ok (.aload_n 1, 1) := by decide +kernel
theorem dX1_copyFrom_2 : decode cX1_copyFrom 2 = .ok (.getfield 9, 3) := by decide +kernel
theorem dX1_copyFrom_5 : decode cX1_copyFrom 5 = .ok (.aload_n 1, 1) := by decide +kernel
theorem dX1_copyFrom_6 : decode cX1_copyFrom 6 = .ok (.getfield 15, 3) := by decide +kernel
theorem dX1_copyFrom_9 : decode cX1_copyFrom 9 = .ok (.aload_n 1, 1) := by decide +kernel
theorem dX1_copyFrom_10 : decode cX1_copyFrom 10 = .ok (.getfield 18, 3) := by decide +kernel
theorem dX1_copyFrom_13 : decode cX1_copyFrom 13 = .ok (.invokevirtual 24, 3) := by decide +kernel
theorem dX1_copyFrom_16 : decode cX1_copyFrom 16 = .ok (.aload_n 0, 1) := by decide +kernel
theorem dX1_copyFrom_17 : decode cX1_copyFrom 17 = .ok (.aload_n 1, 1) := by decide +kernel
theorem dX1_copyFrom_18 : decode cX1_copyFrom 18 = .ok (.getfield 21, 3) := by decide +kernel
theorem dX1_copyFrom_21 : decode cX1_copyFrom 21 = .ok (.putfield 21, 3) := by decide +kernel
theorem dX1_copyFrom_24 : decode cX1_copyFrom 24 = .ok (.aload_n 0, 1) := by decide +kernel
theorem dX1_copyFrom_25 : decode cX1_copyFrom 25 = .ok (.aload_n 1, 1) := by decide +kernel
theorem dX1_copyFrom_26 : decode cX1_copyFrom 26 = .ok (.getfield 28, 3) := by decide +kernel
theorem dX1_copyFrom_29 : decode cX1_copyFrom 29 = .ok (.putfield 28, 3) := by decide +kernel
theorem dX1_copyFrom_32 : decode cX1_copyFrom 32 = .ok (.aload_n 0, 1) := by decide +kernel
theorem dX1_copyFrom_33 : decode cX1_copyFrom 33 = .ok (.aload_n 1, 1) := by decide +kernel
theorem dX1_copyFrom_34 : decode cX1_copyFrom 34 = .ok (.getfield 31, 3) := by decide +kernel
theorem dX1_copyFrom_37 : decode cX1_copyFrom 37 = .ok (.putfield 31, 3) := by decide +kernel
theorem dX1_copyFrom_40 : decode cX1_copyFrom 40 = .ok (.aload_n 0, 1) := by decide +kernel
theorem dX1_copyFrom_41 : decode cX1_copyFrom 41 = .ok (.aload_n 1, 1) := by decide +kernel
theorem dX1_copyFrom_42 : decode cX1_copyFrom 42 = .ok (.getfield 34, 3) := by decide +kernel
theorem dX1_copyFrom_45 : decode cX1_copyFrom 45 = .ok (.putfield 34, 3) := by decide +kernel
theorem dX1_copyFrom_48 : decode cX1_copyFrom 48 = .ok (.return_, 1) := by decide +kernel
theorem dX1_reach_0 : decode cX1_reach 0 = .ok (.iconst 4, 1) := by decide +kernel
theorem dX1_reach_1 : decode cX1_reach 1 = .ok (.aload_n 0, 1) := by decide +kernel
theorem dX1_reach_2 : decode cX1_reach 2 = .ok (.getfield 15, 3) := by decide +kernel
theorem dX1_reach_5 : decode cX1_reach 5 = .ok (.imul, 1) := by decide +kernel
theorem dX1_reach_6 : decode cX1_reach 6 = .ok (.ireturn, 1) := by decide +kernel
theorem dX1_shows_0 : decode cX1_shows 0 = .ok (.aload_n 1, 1) := by decide +kernel
theorem dX1_shows_1 : decode cX1_shows 1 = .ok (.invokevirtual 37, 3) := by decide +kernel
theorem dX1_shows_4 : decode cX1_shows 4 = .ok (.ifCond .ne 26, 3) := by decide +kernel
theorem dX1_shows_7 : decode cX1_shows 7 = .ok (.aload_n 1, 1) := by decide +kernel
theorem dX1_shows_8 : decode cX1_shows 8 = .ok (.getfield 43, 3) := by decide +kernel
theorem dX1_shows_11 : decode cX1_shows 11 = .ok (.aload_n 0, 1) := by decide +kernel
theorem dX1_shows_12 : decode cX1_shows 12 = .ok (.getfield 9, 3) := by decide +kernel
theorem dX1_shows_15 : decode cX1_shows 15 = .ok (.isub, 1) := by decide +kernel
theorem dX1_shows_16 : decode cX1_shows 16 = .ok (.invokestatic 44, 3) := by decide +kernel
theorem dX1_shows_19 : decode cX1_shows 19 = .ok (.aload_n 0, 1) := by decide +kernel
theorem dX1_shows_20 : decode cX1_shows 20 = .ok (.invokevirtual 50, 3) := by decide +kernel
theorem dX1_shows_23 : decode cX1_shows 23 = .ok (.if_icmp .gt 7, 3) := by decide +kernel
theorem dX1_shows_26 : decode cX1_shows 26 = .ok (.iconst 1, 1) := by decide +kernel
theorem dX1_shows_27 : decode cX1_shows 27 = .ok (.goto 4, 3) := by decide +kernel
theorem dX1_shows_30 : decode cX1_shows 30 = .ok (.iconst 0, 1) := by decide +kernel
theorem dX1_shows_31 : decode cX1_shows 31 = .ok (.ireturn, 1) := by decide +kernel
theorem dX1_brightnessOf_0 : decode cX1_brightnessOf 0 = .ok (.bipush 10, 2) := by decide +kernel
theorem dX1_brightnessOf_2 : decode cX1_brightnessOf 2 = .ok (.aload_n 0, 1) := by decide +kernel
theorem dX1_brightnessOf_3 : decode cX1_brightnessOf 3 = .ok (.getfield 15, 3) := by decide +kernel
theorem dX1_brightnessOf_6 : decode cX1_brightnessOf 6 = .ok (.imul, 1) := by decide +kernel
theorem dX1_brightnessOf_7 : decode cX1_brightnessOf 7 = .ok (.aload_n 0, 1) := by decide +kernel
theorem dX1_brightnessOf_8 : decode cX1_brightnessOf 8 = .ok (.getfield 15, 3) := by decide +kernel
theorem dX1_brightnessOf_11 : decode cX1_brightnessOf 11 = .ok (.imul, 1) := by decide +kernel
theorem dX1_brightnessOf_12 : decode cX1_brightnessOf 12 = .ok (.istore_n 3, 1) := by decide +kernel
theorem dX1_brightnessOf_13 : decode cX1_brightnessOf 13 = .ok (.iload_n 3, 1) := by decide +kernel
theorem dX1_brightnessOf_14 : decode cX1_brightnessOf 14 = .ok (.ifCond .ne 5, 3) := by decide +kernel
theorem dX1_brightnessOf_17 : decode cX1_brightnessOf 17 = .ok (.iconst 0, 1) := by decide +kernel
theorem dX1_brightnessOf_18 : decode cX1_brightnessOf 18 = .ok (.ireturn, 1) := by decide +kernel
theorem dX1_brightnessOf_19 : decode cX1_brightnessOf 19 = .ok (.iload_n 2, 1) := by decide +kernel
theorem dX1_brightnessOf_20 : decode cX1_brightnessOf 20 = .ok (.aload_n 1, 1) := by decide +kernel
theorem dX1_brightnessOf_21 : decode cX1_brightnessOf 21 = .ok (.getfield 54, 3) := by decide +kernel
theorem dX1_brightnessOf_24 : decode cX1_brightnessOf 24 = .ok (.imul, 1) := by decide +kernel
theorem dX1_brightnessOf_25 : decode cX1_brightnessOf 25 = .ok (.aload_n 0, 1) := by decide +kernel
theorem dX1_brightnessOf_26 : decode cX1_brightnessOf 26 = .ok (.getfield 21, 3) := by decide +kernel
theorem dX1_brightnessOf_29 : decode cX1_brightnessOf 29 = .ok (.imul, 1) := by decide +kernel
theorem dX1_brightnessOf_30 : decode cX1_brightnessOf 30 = .ok (.aload_n 0, 1) := by decide +kernel
theorem dX1_brightnessOf_31 : decode cX1_brightnessOf 31 = .ok (.getfield 21, 3) := by decide +kernel
theorem dX1_brightnessOf_34 : decode cX1_brightnessOf 34 = .ok (.imul, 1) := by decide +kernel
theorem dX1_brightnessOf_35 : decode cX1_brightnessOf 35 = .ok (.iload_n 3, 1) := by decide +kernel
theorem dX1_brightnessOf_36 : decode cX1_brightnessOf 36 = .ok (.idiv, 1) := by decide +kernel
theorem dX1_brightnessOf_37 : decode cX1_brightnessOf 37 = .ok (.bipush 10, 2) := by decide +kernel
theorem dX1_brightnessOf_39 : decode cX1_brightnessOf 39 = .ok (.aload_n 0, 1) := by decide +kernel
theorem dX1_brightnessOf_40 : decode cX1_brightnessOf 40 = .ok (.getfield 28, 3) := by decide +kernel
theorem dX1_brightnessOf_43 : decode cX1_brightnessOf 43 = .ok (.isub, 1) := by decide +kernel
theorem dX1_brightnessOf_44 : decode cX1_brightnessOf 44 = .ok (.imul, 1) := by decide +kernel
theorem dX1_brightnessOf_45 : decode cX1_brightnessOf 45 = .ok (.bipush 10, 2) := by decide +kernel
theorem dX1_brightnessOf_47 : decode cX1_brightnessOf 47 = .ok (.idiv, 1) := by decide +kernel
theorem dX1_brightnessOf_48 : decode cX1_brightnessOf 48 = .ok (.ireturn, 1) := by decide +kernel
theorem dX1_showsWell_0 : decode cX1_showsWell 0 = .ok (.aload_n 0, 1) := by decide +kernel
theorem dX1_showsWell_1 : decode cX1_showsWell 1 = .ok (.aload_n 1, 1) := by decide +kernel
theorem dX1_showsWell_2 : decode cX1_showsWell 2 = .ok (.invokevirtual 57, 3) := by decide +kernel
theorem dX1_showsWell_5 : decode cX1_showsWell 5 = .ok (.ifCond .eq 35, 3) := by decide +kernel
theorem dX1_showsWell_8 : decode cX1_showsWell 8 = .ok (.aload_n 0, 1) := by decide +kernel
theorem dX1_showsWell_9 : decode cX1_showsWell 9 = .ok (.getfield 21, 3) := by decide +kernel
theorem dX1_showsWell_12 : decode cX1_showsWell 12 = .ok (.aload_n 0, 1) := by decide +kernel
theorem dX1_showsWell_13 : decode cX1_showsWell 13 = .ok (.getfield 15, 3) := by decide +kernel
theorem dX1_showsWell_16 : decode cX1_showsWell 16 = .ok (.imul, 1) := by decide +kernel
theorem dX1_showsWell_17 : decode cX1_showsWell 17 = .ok (.iconst 3, 1) := by decide +kernel
theorem dX1_showsWell_18 : decode cX1_showsWell 18 = .ok (.idiv, 1) := by decide +kernel
theorem dX1_showsWell_19 : decode cX1_showsWell 19 = .ok (.aload_n 1, 1) := by decide +kernel
theorem dX1_showsWell_20 : decode cX1_showsWell 20 = .ok (.getfield 61, 3) := by decide +kernel
theorem dX1_showsWell_23 : decode cX1_showsWell 23 = .ok (.if_icmp .gt 17, 3) := by decide +kernel
theorem dX1_showsWell_26 : decode cX1_showsWell 26 = .ok (.aload_n 0, 1) := by decide +kernel
theorem dX1_showsWell_27 : decode cX1_showsWell 27 = .ok (.aload_n 1, 1) := by decide +kernel
theorem dX1_showsWell_28 : decode cX1_showsWell 28 = .ok (.iload_n 2, 1) := by decide +kernel
theorem dX1_showsWell_29 : decode cX1_showsWell 29 = .ok (.invokevirtual 64, 3) := by decide +kernel
theorem dX1_showsWell_32 : decode cX1_showsWell 32 = .ok (.iconst 5, 1) := by decide +kernel
theorem dX1_showsWell_33 : decode cX1_showsWell 33 = .ok (.if_icmp .lt 7, 3) := by decide +kernel
theorem dX1_showsWell_36 : decode cX1_showsWell 36 = .ok (.iconst 1, 1) := by decide +kernel
theorem dX1_showsWell_37 : decode cX1_showsWell 37 = .ok (.goto 4, 3) := by decide +kernel
theorem dX1_showsWell_40 : decode cX1_showsWell 40 = .ok (.iconst 0, 1) := by decide +kernel
theorem dX1_showsWell_41 : decode cX1_showsWell 41 = .ok (.ireturn, 1) := by decide +kernel
theorem dX1_pay_0 : decode cX1_pay 0 = .ok (.iload_n 1, 1) := by decide +kernel
theorem dX1_pay_1 : decode cX1_pay 1 = .ok (.ifCond .ne 19, 3) := by decide +kernel
theorem dX1_pay_4 : decode cX1_pay 4 = .ok (.aload_n 0, 1) := by decide +kernel
theorem dX1_pay_5 : decode cX1_pay 5 = .ok (.aload_n 0, 1) := by decide +kernel
theorem dX1_pay_6 : decode cX1_pay 6 = .ok (.getfield 31, 3) := by decide +kernel
theorem dX1_pay_9 : decode cX1_pay 9 = .ok (.iconst 1, 1) := by decide +kernel
theorem dX1_pay_10 : decode cX1_pay 10 = .ok (.isub, 1) := by decide +kernel
theorem dX1_pay_11 : decode cX1_pay 11 = .ok (.iconst 0, 1) := by decide +kernel
theorem dX1_pay_12 : decode cX1_pay 12 = .ok (.invokestatic 68, 3) := by decide +kernel
theorem dX1_pay_15 : decode cX1_pay 15 = .ok (.putfield 31, 3) := by decide +kernel
theorem dX1_pay_18 : decode cX1_pay 18 = .ok (.iconst 0, 1) := by decide +kernel
theorem dX1_pay_19 : decode cX1_pay 19 = .ok (.ireturn, 1) := by decide +kernel
theorem dX1_pay_20 : decode cX1_pay 20 = .ok (.aload_n 0, 1) := by decide +kernel
theorem dX1_pay_21 : decode cX1_pay 21 = .ok (.getfield 31, 3) := by decide +kernel
theorem dX1_pay_24 : decode cX1_pay 24 = .ok (.iload_n 1, 1) := by decide +kernel
theorem dX1_pay_25 : decode cX1_pay 25 = .ok (.iconst 2, 1) := by decide +kernel
theorem dX1_pay_26 : decode cX1_pay 26 = .ok (.invokestatic 72, 3) := by decide +kernel
theorem dX1_pay_29 : decode cX1_pay 29 = .ok (.imul, 1) := by decide +kernel
theorem dX1_pay_30 : decode cX1_pay 30 = .ok (.istore_n 2, 1) := by decide +kernel
theorem dX1_pay_31 : decode cX1_pay 31 = .ok (.aload_n 0, 1) := by decide +kernel
theorem dX1_pay_32 : decode cX1_pay 32 = .ok (.dup, 1) := by decide +kernel
theorem dX1_pay_33 : decode cX1_pay 33 = .ok (.getfield 34, 3) := by decide +kernel
theorem dX1_pay_36 : decode cX1_pay 36 = .ok (.iload_n 2, 1) := by decide +kernel
theorem dX1_pay_37 : decode cX1_pay 37 = .ok (.iadd, 1) := by decide +kernel
theorem dX1_pay_38 : decode cX1_pay 38 = .ok (.putfield 34, 3) := by decide +kernel
theorem dX1_pay_41 : decode cX1_pay 41 = .ok (.iload_n 1, 1) := by decide +kernel
theorem dX1_pay_42 : decode cX1_pay 42 = .ok (.iconst 2, 1) := by decide +kernel
theorem dX1_pay_43 : decode cX1_pay 43 = .ok (.if_icmp .lt 24, 3) := by decide +kernel
theorem dX1_pay_46 : decode cX1_pay 46 = .ok (.aload_n 0, 1) := by decide +kernel
theorem dX1_pay_47 : decode cX1_pay 47 = .ok (.getfield 31, 3) := by decide +kernel
theorem dX1_pay_50 : decode cX1_pay 50 = .ok (.aload_n 0, 1) := by decide +kernel
theorem dX1_pay_51 : decode cX1_pay 51 = .ok (.getfield 18, 3) := by decide +kernel
theorem dX1_pay_54 : decode cX1_pay 54 = .ok (.if_icmp .ge 13, 3) := by decide +kernel
theorem dX1_pay_57 : decode cX1_pay 57 = .ok (.aload_n 0, 1) := by decide +kernel
theorem dX1_pay_58 : decode cX1_pay 58 = .ok (.dup, 1) := by decide +kernel
theorem dX1_pay_59 : decode cX1_pay 59 = .ok (.getfield 31, 3) := by decide +kernel
theorem dX1_pay_62 : decode cX1_pay 62 = .ok (.iconst 1, 1) := by decide +kernel
theorem dX1_pay_63 : decode cX1_pay 63 = .ok (.iadd, 1) := by decide +kernel
theorem dX1_pay_64 : decode cX1_pay 64 = .ok (.putfield 31, 3) := by decide +kernel
theorem dX1_pay_67 : decode cX1_pay 67 = .ok (.iload_n 2, 1) := by decide +kernel
theorem dX1_pay_68 : decode cX1_pay 68 = .ok (.ireturn, 1) := by decide +kernel
theorem dX2_init_0 : decode cX2_init 0 = .ok (.aload_n 0, 1) := by decide +kernel
theorem dX2_init_1 : decode cX2_init 1 = .ok (.invokespecial 3, 3) := by decide +kernel
theorem dX2_init_4 : decode cX2_init 4 = .ok (.aload_n 0, 1) := by decide +kernel
theorem dX2_init_5 : decode cX2_init 5 = .ok (.bipush 10, 2) := by decide +kernel
theorem dX2_init_7 : decode cX2_init 7 = .ok (.anewarray 9, 3) := by decide +kernel
theorem dX2_init_10 : decode cX2_init 10 = .ok (.putfield 11, 3) := by decide +kernel
theorem dX2_init_13 : decode cX2_init 13 = .ok (.aload_n 0, 1) := by decide +kernel
theorem dX2_init_14 : decode cX2_init 14 = .ok (.bipush 8, 2) := by decide +kernel
theorem dX2_init_16 : decode cX2_init 16 = .ok (.anewarray 17, 3) := by decide +kernel
theorem dX2_init_19 : decode cX2_init 19 = .ok (.putfield 19, 3) := by decide +kernel
theorem dX2_init_22 : decode cX2_init 22 = .ok (.iconst 0, 1) := by decide +kernel
theorem dX2_init_23 : decode cX2_init 23 = .ok (.istore_n 1, 1) := by decide +kernel
theorem dX2_init_24 : decode cX2_init 24 = .ok (.iload_n 1, 1) := by decide +kernel
theorem dX2_init_25 : decode cX2_init 25 = .ok (.bipush 10, 2) := by decide +kernel
theorem dX2_init_27 : decode cX2_init 27 = .ok (.if_icmp .ge 22, 3) := by decide +kernel
theorem dX2_init_30 : decode cX2_init 30 = .ok (.aload_n 0, 1) := by decide +kernel
theorem dX2_init_31 : decode cX2_init 31 = .ok (.getfield 11, 3) := by decide +kernel
theorem dX2_init_34 : decode cX2_init 34 = .ok (.iload_n 1, 1) := by decide +kernel
theorem dX2_init_35 : decode cX2_init 35 = .ok (.new 9, 3) := by decide +kernel
theorem dX2_init_38 : decode cX2_init 38 = .ok (.dup, 1) := by decide +kernel
theorem dX2_init_39 : decode cX2_init 39 = .ok (.invokespecial 23, 3) := by decide +kernel
theorem dX2_init_42 : decode cX2_init 42 = .ok (.aastore, 1) := by decide +kernel
theorem dX2_init_43 : decode cX2_init 43 = .ok (.iinc 1 1, 3) := by decide +kernel
theorem dX2_init_46 : decode cX2_init 46 = .ok (.goto (-22), 3) := by decide +kernel
theorem dX2_init_49 : decode cX2_init 49 = .ok (.iconst 0, 1) := by decide +kernel
theorem dX2_init_50 : decode cX2_init 50 = .ok (.istore_n 1, 1) := by decide +kernel
theorem dX2_init_51 : decode cX2_init 51 = .ok (.iload_n 1, 1) := by decide +kernel
theorem dX2_init_52 : decode cX2_init 52 = .ok (.bipush 8, 2) := by decide +kernel
theorem dX2_init_54 : decode cX2_init 54 = .ok (.if_icmp .ge 22, 3) := by decide +kernel
theorem dX2_init_57 : decode cX2_init 57 = .ok (.aload_n 0, 1) := by decide +kernel
theorem dX2_init_58 : decode cX2_init 58 = .ok (.getfield 19, 3) := by decide +kernel
theorem dX2_init_61 : decode cX2_init 61 = .ok (.iload_n 1, 1) := by decide +kernel
theorem dX2_init_62 : decode cX2_init 62 = .ok (.new 17, 3) := by decide +kernel
theorem dX2_init_65 : decode cX2_init 65 = .ok (.dup, 1) := by decide +kernel
theorem dX2_init_66 : decode cX2_init 66 = .ok (.invokespecial 24, 3) := by decide +kernel
theorem dX2_init_69 : decode cX2_init 69 = .ok (.aastore, 1) := by decide +kernel
theorem dX2_init_70 : decode cX2_init 70 = .ok (.iinc 1 1, 3) := by decide +kernel
theorem dX2_init_73 : decode cX2_init 73 = .ok (.goto (-22), 3) := by decide +kernel
theorem dX2_init_76 : decode cX2_init 76 = .ok (.return_, 1) := by decide +kernel
theorem dX2_copyFrom_0 : decode cX2_copyFrom 0 = .ok (.aload_n 0, 1) := by decide +kernel
theorem dX2_copyFrom_1 : decode cX2_copyFrom 1 = .ok (.aload_n 1, 1) := by decide +kernel
theorem dX2_copyFrom_2 : decode cX2_copyFrom 2 = .ok (.getfield 25, 3) := by decide +kernel
theorem dX2_copyFrom_5 : decode cX2_copyFrom 5 = .ok (.putfield 25, 3) := by decide +kernel
theorem dX2_copyFrom_8 : decode cX2_copyFrom 8 = .ok (.aload_n 0, 1) := by decide +kernel
theorem dX2_copyFrom_9 : decode cX2_copyFrom 9 = .ok (.aload_n 1, 1) := by decide +kernel
theorem dX2_copyFrom_10 : decode cX2_copyFrom 10 = .ok (.getfield 29, 3) := by decide +kernel
theorem dX2_copyFrom_13 : decode cX2_copyFrom 13 = .ok (.putfield 29, 3) := by decide +kernel
theorem dX2_copyFrom_16 : decode cX2_copyFrom 16 = .ok (.aload_n 0, 1) := by decide +kernel
theorem dX2_copyFrom_17 : decode cX2_copyFrom 17 = .ok (.aload_n 1, 1) := by decide +kernel
theorem dX2_copyFrom_18 : decode cX2_copyFrom 18 = .ok (.getfield 32, 3) := by decide +kernel
theorem dX2_copyFrom_21 : decode cX2_copyFrom 21 = .ok (.putfield 32, 3) := by decide +kernel
theorem dX2_copyFrom_24 : decode cX2_copyFrom 24 = .ok (.iconst 0, 1) := by decide +kernel
theorem dX2_copyFrom_25 : decode cX2_copyFrom 25 = .ok (.istore_n 2, 1) := by decide +kernel
theorem dX2_copyFrom_26 : decode cX2_copyFrom 26 = .ok (.iload_n 2, 1) := by decide +kernel
theorem dX2_copyFrom_27 : decode cX2_copyFrom 27 = .ok (.aload_n 0, 1) := by decide +kernel
theorem dX2_copyFrom_28 : decode cX2_copyFrom 28 = .ok (.getfield 29, 3) := by decide +kernel
theorem dX2_copyFrom_31 : decode cX2_copyFrom 31 = .ok (.if_icmp .ge 24, 3) := by decide +kernel
theorem dX2_copyFrom_34 : decode cX2_copyFrom 34 = .ok (.aload_n 0, 1) := by decide +kernel
theorem dX2_copyFrom_35 : decode cX2_copyFrom 35 = .ok (.getfield 11, 3) := by decide +kernel
theorem dX2_copyFrom_38 : decode cX2_copyFrom 38 = .ok (.iload_n 2, 1) := by decide +kernel
theorem dX2_copyFrom_39 : decode cX2_copyFrom 39 = .ok (.aaload, 1) := by decide +kernel
theorem dX2_copyFrom_40 : decode cX2_copyFrom 40 = .ok (.aload_n 1, 1) := by decide +kernel
theorem dX2_copyFrom_41 : decode cX2_copyFrom 41 = .ok (.getfield 11, 3) := by decide +kernel
theorem dX2_copyFrom_44 : decode cX2_copyFrom 44 = .ok (.iload_n 2, 1) := by decide +kernel
theorem dX2_copyFrom_45 : decode cX2_copyFrom 45 = .ok (.aaload, 1) := by decide +kernel
theorem dX2_copyFrom_46 : decode cX2_copyFrom 46 = .ok (.invokevirtual 35, 3) := by decide +kernel
theorem dX2_copyFrom_49 : decode cX2_copyFrom 49 = .ok (.iinc 2 1, 3) := by decide +kernel
theorem dX2_copyFrom_52 : decode cX2_copyFrom 52 = .ok (.goto (-26), 3) := by decide +kernel
theorem dX2_copyFrom_55 : decode cX2_copyFrom 55 = .ok (.iconst 0, 1) := by decide +kernel
theorem dX2_copyFrom_56 : decode cX2_copyFrom 56 = .ok (.istore_n 2, 1) := by decide +kernel
theorem dX2_copyFrom_57 : decode cX2_copyFrom 57 = .ok (.iload_n 2, 1) := by decide +kernel
theorem dX2_copyFrom_58 : decode cX2_copyFrom 58 = .ok (.aload_n 0, 1) := by decide +kernel
theorem dX2_copyFrom_59 : decode cX2_copyFrom 59 = .ok (.getfield 32, 3) := by decide +kernel
theorem dX2_copyFrom_62 : decode cX2_copyFrom 62 = .ok (.if_icmp .ge 24, 3) := by decide +kernel
theorem dX2_copyFrom_65 : decode cX2_copyFrom 65 = .ok (.aload_n 0, 1) := by decide +kernel
theorem dX2_copyFrom_66 : decode cX2_copyFrom 66 = .ok (.getfield 19, 3) := by decide +kernel
theorem dX2_copyFrom_69 : decode cX2_copyFrom 69 = .ok (.iload_n 2, 1) := by decide +kernel
theorem dX2_copyFrom_70 : decode cX2_copyFrom 70 = .ok (.aaload, 1) := by decide +kernel
theorem dX2_copyFrom_71 : decode cX2_copyFrom 71 = .ok (.aload_n 1, 1) := by decide +kernel
theorem dX2_copyFrom_72 : decode cX2_copyFrom 72 = .ok (.getfield 19, 3) := by decide +kernel
theorem dX2_copyFrom_75 : decode cX2_copyFrom 75 = .ok (.iload_n 2, 1) := by decide +kernel
theorem dX2_copyFrom_76 : decode cX2_copyFrom 76 = .ok (.aaload, 1) := by decide +kernel
theorem dX2_copyFrom_77 : decode cX2_copyFrom 77 = .ok (.invokevirtual 39, 3) := by decide +kernel
theorem dX2_copyFrom_80 : decode cX2_copyFrom 80 = .ok (.iinc 2 1, 3) := by decide +kernel
theorem dX2_copyFrom_83 : decode cX2_copyFrom 83 = .ok (.goto (-26), 3) := by decide +kernel
theorem dX2_copyFrom_86 : decode cX2_copyFrom 86 = .ok (.return_, 1) := by decide +kernel
theorem dX2_hasHoleAt_0 : decode cX2_hasHoleAt 0 = .ok (.iconst 0, 1) := by decide +kernel
theorem dX2_hasHoleAt_1 : decode cX2_hasHoleAt 1 = .ok (.istore_n 2, 1) := by decide +kernel
theorem dX2_hasHoleAt_2 : decode cX2_hasHoleAt 2 = .ok (.iload_n 2, 1) := by decide +kernel
theorem dX2_hasHoleAt_3 : decode cX2_hasHoleAt 3 = .ok (.aload_n 0, 1) := by decide +kernel
theorem dX2_hasHoleAt_4 : decode cX2_hasHoleAt 4 = .ok (.getfield 32, 3) := by decide +kernel
theorem dX2_hasHoleAt_7 : decode cX2_hasHoleAt 7 = .ok (.if_icmp .ge 24, 3) := by decide +kernel
theorem dX2_hasHoleAt_10 : decode cX2_hasHoleAt 10 = .ok (.aload_n 0, 1) := by decide +kernel
theorem dX2_hasHoleAt_11 : decode cX2_hasHoleAt 11 = .ok (.getfield 19, 3) := by decide +kernel
theorem dX2_hasHoleAt_14 : decode cX2_hasHoleAt 14 = .ok (.iload_n 2, 1) := by decide +kernel
theorem dX2_hasHoleAt_15 : decode cX2_hasHoleAt 15 = .ok (.aaload, 1) := by decide +kernel
theorem dX2_hasHoleAt_16 : decode cX2_hasHoleAt 16 = .ok (.getfield 42, 3) := by decide +kernel
theorem dX2_hasHoleAt_19 : decode cX2_hasHoleAt 19 = .ok (.iload_n 1, 1) := by decide +kernel
theorem dX2_hasHoleAt_20 : decode cX2_hasHoleAt 20 = .ok (.if_icmp .ne 5, 3) := by decide +kernel
theorem dX2_hasHoleAt_23 : decode cX2_hasHoleAt 23 = .ok (.iconst 1, 1) := by decide +kernel
theorem dX2_hasHoleAt_24 : decode cX2_hasHoleAt 24 = .ok (.ireturn, 1) := by decide +kernel
theorem dX2_hasHoleAt_25 : decode cX2_hasHoleAt 25 = .ok (.iinc 2 1, 3) := by decide +kernel
theorem dX2_hasHoleAt_28 : decode cX2_hasHoleAt 28 = .ok (.goto (-26), 3) := by decide +kernel
theorem dX2_hasHoleAt_31 : decode cX2_hasHoleAt 31 = .ok (.iconst 0, 1) := by decide +kernel
theorem dX2_hasHoleAt_32 : decode cX2_hasHoleAt 32 = .ok (.ireturn, 1) := by decide +kernel
theorem dX2_passersAt_0 : decode cX2_passersAt 0 = .ok (.iconst 0, 1) := by decide +kernel
theorem dX2_passersAt_1 : decode cX2_passersAt 1 = .ok (.istore_n 2, 1) := by decide +kernel
theorem dX2_passersAt_2 : decode cX2_passersAt 2 = .ok (.iconst 0, 1) := by decide +kernel
theorem dX2_passersAt_3 : decode cX2_passersAt 3 = .ok (.istore_n 3, 1) := by decide +kernel
theorem dX2_passersAt_4 : decode cX2_passersAt 4 = .ok (.iload_n 3, 1) := by decide +kernel
theorem dX2_passersAt_5 : decode cX2_passersAt 5 = .ok (.aload_n 0, 1) := by decide +kernel
theorem dX2_passersAt_6 : decode cX2_passersAt 6 = .ok (.getfield 29, 3) := by decide +kernel
theorem dX2_passersAt_9 : decode cX2_passersAt 9 = .ok (.if_icmp .ge 37, 3) := by decide +kernel
theorem dX2_passersAt_12 : decode cX2_passersAt 12 = .ok (.aload_n 0, 1) := by decide +kernel
theorem dX2_passersAt_13 : decode cX2_passersAt 13 = .ok (.getfield 11, 3) := by decide +kernel
theorem dX2_passersAt_16 : decode cX2_passersAt 16 = .ok (.iload_n 3, 1) := by decide +kernel
theorem dX2_passersAt_17 : decode cX2_passersAt 17 = .ok (.aaload, 1) := by decide +kernel
theorem dX2_passersAt_18 : decode cX2_passersAt 18 = .ok (.invokevirtual 45, 3) := by decide +kernel
theorem dX2_passersAt_21 : decode cX2_passersAt 21 = .ok (.ifCond .ne 19, 3) := by decide +kernel
theorem dX2_passersAt_24 : decode cX2_passersAt 24 = .ok (.aload_n 0, 1) := by decide +kernel
theorem dX2_passersAt_25 : decode cX2_passersAt 25 = .ok (.getfield 11, 3) := by decide +kernel
theorem dX2_passersAt_28 : decode cX2_passersAt 28 = .ok (.iload_n 3, 1) := by decide +kernel
theorem dX2_passersAt_29 : decode cX2_passersAt 29 = .ok (.aaload, 1) := by decide +kernel
theorem dX2_passersAt_30 : decode cX2_passersAt 30 = .ok (.getfield 49, 3) := by decide +kernel
theorem dX2_passersAt_33 : decode cX2_passersAt 33 = .ok (.iload_n 1, 1) := by decide +kernel
theorem dX2_passersAt_34 : decode cX2_passersAt 34 = .ok (.if_icmp .ne 6, 3) := by decide +kernel
theorem dX2_passersAt_37 : decode cX2_passersAt 37 = .ok (.iinc 2 1, 3) := by decide +kernel
theorem dX2_passersAt_40 : decode cX2_passersAt 40 = .ok (.iinc 3 1, 3) := by decide +kernel
theorem dX2_passersAt_43 : decode cX2_passersAt 43 = .ok (.goto (-39), 3) := by decide +kernel
theorem dX2_passersAt_46 : decode cX2_passersAt 46 = .ok (.iload_n 2, 1) := by decide +kernel
theorem dX2_passersAt_47 : decode cX2_passersAt 47 = .ok (.ireturn, 1) := by decide +kernel
theorem dX2_passersGone_0 : decode cX2_passersGone 0 = .ok (.iconst 0, 1) := by decide +kernel
theorem dX2_passersGone_1 : decode cX2_passersGone 1 = .ok (.istore_n 1, 1) := by decide +kernel
theorem dX2_passersGone_2 : decode cX2_passersGone 2 = .ok (.iconst 0, 1) := by decide +kernel
theorem dX2_passersGone_3 : decode cX2_passersGone 3 = .ok (.istore_n 2, 1) := by decide +kernel
theorem dX2_passersGone_4 : decode cX2_passersGone 4 = .ok (.iload_n 2, 1) := by decide +kernel
theorem dX2_passersGone_5 : decode cX2_passersGone 5 = .ok (.aload_n 0, 1) := by decide +kernel
theorem dX2_passersGone_6 : decode cX2_passersGone 6 = .ok (.getfield 29, 3) := by decide +kernel
theorem dX2_passersGone_9 : decode cX2_passersGone 9 = .ok (.if_icmp .ge 24, 3) := by decide +kernel
theorem dX2_passersGone_12 : decode cX2_passersGone 12 = .ok (.aload_n 0, 1) := by decide +kernel
theorem dX2_passersGone_13 : decode cX2_passersGone 13 = .ok (.getfield 11, 3) := by decide +kernel
theorem dX2_passersGone_16 : decode cX2_passersGone 16 = .ok (.iload_n 2, 1) := by decide +kernel
theorem dX2_passersGone_17 : decode cX2_passersGone 17 = .ok (.aaload, 1) := by decide +kernel
theorem dX2_passersGone_18 : decode cX2_passersGone 18 = .ok (.invokevirtual 45, 3) := by decide +kernel
theorem dX2_passersGone_21 : decode cX2_passersGone 21 = .ok (.ifCond .eq 6, 3) := by decide +kernel
theorem dX2_passersGone_24 : decode cX2_passersGone 24 = .ok (.iinc 1 1, 3) := by decide +kernel
theorem dX2_passersGone_27 : decode cX2_passersGone 27 = .ok (.iinc 2 1, 3) := by decide +kernel
theorem dX2_passersGone_30 : decode cX2_passersGone 30 = .ok (.goto (-26), 3) := by decide +kernel
theorem dX2_passersGone_33 : decode cX2_passersGone 33 = .ok (.iload_n 1, 1) := by decide +kernel
theorem dX2_passersGone_34 : decode cX2_passersGone 34 = .ok (.ireturn, 1) := by decide +kernel
theorem dX2_showIn_0 : decode cX2_showIn 0 = .ok (.iconst 0, 1) := by decide +kernel
theorem dX2_showIn_1 : decode cX2_showIn 1 = .ok (.istore_n 3, 1) := by decide +kernel
theorem dX2_showIn_2 : decode cX2_showIn 2 = .ok (.iconst 0, 1) := by decide +kernel
theorem dX2_showIn_3 : decode cX2_showIn 3 = .ok (.istore 4, 2) := by decide +kernel
theorem dX2_showIn_5 : decode cX2_showIn 5 = .ok (.iload 4, 2) := by decide +kernel
theorem dX2_showIn_7 : decode cX2_showIn 7 = .ok (.aload_n 0, 1) := by decide +kernel
theorem dX2_showIn_8 : decode cX2_showIn 8 = .ok (.getfield 29, 3) := by decide +kernel
theorem dX2_showIn_11 : decode cX2_showIn 11 = .ok (.if_icmp .ge 27, 3) := by decide +kernel
theorem dX2_showIn_14 : decode cX2_showIn 14 = .ok (.aload_n 1, 1) := by decide +kernel
theorem dX2_showIn_15 : decode cX2_showIn 15 = .ok (.aload_n 0, 1) := by decide +kernel
theorem dX2_showIn_16 : decode cX2_showIn 16 = .ok (.getfield 11, 3) := by decide +kernel
theorem dX2_showIn_19 : decode cX2_showIn 19 = .ok (.iload 4, 2) := by decide +kernel
theorem dX2_showIn_21 : decode cX2_showIn 21 = .ok (.aaload, 1) := by decide +kernel
theorem dX2_showIn_22 : decode cX2_showIn 22 = .ok (.iload_n 2, 1) := by decide +kernel
theorem dX2_showIn_23 : decode cX2_showIn 23 = .ok (.invokevirtual 50, 3) := by decide +kernel
theorem dX2_showIn_26 : decode cX2_showIn 26 = .ok (.ifCond .eq 6, 3) := by decide +kernel
theorem dX2_showIn_29 : decode cX2_showIn 29 = .ok (.iinc 3 1, 3) := by decide +kernel
theorem dX2_showIn_32 : decode cX2_showIn 32 = .ok (.iinc 4 1, 3) := by decide +kernel
theorem dX2_showIn_35 : decode cX2_showIn 35 = .ok (.goto (-30), 3) := by decide +kernel
theorem dX2_showIn_38 : decode cX2_showIn 38 = .ok (.iload_n 3, 1) := by decide +kernel
theorem dX2_showIn_39 : decode cX2_showIn 39 = .ok (.ireturn, 1) := by decide +kernel
theorem dX2_roomsSeeingWell_0 : decode cX2_roomsSeeingWell 0 = .ok (.iconst 0, 1) := by decide +kernel
theorem dX2_roomsSeeingWell_1 : decode cX2_roomsSeeingWell 1 = .ok (.istore_n 3, 1) := by decide +kernel
theorem dX2_roomsSeeingWell_2 : decode cX2_roomsSeeingWell 2 = .ok (.iconst 0, 1) := by decide +kernel
theorem dX2_roomsSeeingWell_3 : decode cX2_roomsSeeingWell 3 = .ok (.istore 4, 2) := by decide +kernel
theorem dX2_roomsSeeingWell_5 : decode cX2_roomsSeeingWell 5 = .ok (.iload 4, 2) := by decide +kernel
theorem dX2_roomsSeeingWell_7 : decode cX2_roomsSeeingWell 7 = .ok (.aload_n 0, 1) := by decide +kernel
theorem dX2_roomsSeeingWell_8 : decode cX2_roomsSeeingWell 8 = .ok (.getfield 32, 3) := by decide +kernel
theorem dX2_roomsSeeingWell_11 : decode cX2_roomsSeeingWell 11 = .ok (.if_icmp .ge 27, 3) := by decide +kernel
theorem dX2_roomsSeeingWell_14 : decode cX2_roomsSeeingWell 14 = .ok (.aload_n 0, 1) := by decide +kernel
theorem dX2_roomsSeeingWell_15 : decode cX2_roomsSeeingWell 15 = .ok (.getfield 19, 3) := by decide +kernel
theorem dX2_roomsSeeingWell_18 : decode cX2_roomsSeeingWell 18 = .ok (.iload 4, 2) := by decide +kernel
theorem dX2_roomsSeeingWell_20 : decode cX2_roomsSeeingWell 20 = .ok (.aaload, 1) := by decide +kernel
theorem dX2_roomsSeeingWell_21 : decode cX2_roomsSeeingWell 21 = .ok (.aload_n 1, 1) := by decide +kernel
theorem dX2_roomsSeeingWell_22 : decode cX2_roomsSeeingWell 22 = .ok (.iload_n 2, 1) := by decide +kernel
theorem dX2_roomsSeeingWell_23 : decode cX2_roomsSeeingWell 23 = .ok (.invokevirtual 50, 3) := by decide +kernel
theorem dX2_roomsSeeingWell_26 : decode cX2_roomsSeeingWell 26 = .ok (.ifCond .eq 6, 3) := by decide +kernel
theorem dX2_roomsSeeingWell_29 : decode cX2_roomsSeeingWell 29 = .ok (.iinc 3 1, 3) := by decide +kernel
theorem dX2_roomsSeeingWell_32 : decode cX2_roomsSeeingWell 32 = .ok (.iinc 4 1, 3) := by decide +kernel
theorem dX2_roomsSeeingWell_35 : decode cX2_roomsSeeingWell 35 = .ok (.goto (-30), 3) := by decide +kernel
theorem dX2_roomsSeeingWell_38 : decode cX2_roomsSeeingWell 38 = .ok (.iload_n 3, 1) := by decide +kernel
theorem dX2_roomsSeeingWell_39 : decode cX2_roomsSeeingWell 39 = .ok (.ireturn, 1) := by decide +kernel
theorem dX2_wallsWith_0 : decode cX2_wallsWith 0 = .ok (.iconst 0, 1) := by decide +kernel
theorem dX2_wallsWith_1 : decode cX2_wallsWith 1 = .ok (.istore_n 2, 1) := by decide +kernel
theorem dX2_wallsWith_2 : decode cX2_wallsWith 2 = .ok (.iconst 0, 1) := by decide +kernel
theorem dX2_wallsWith_3 : decode cX2_wallsWith 3 = .ok (.istore_n 3, 1) := by decide +kernel
theorem dX2_wallsWith_4 : decode cX2_wallsWith 4 = .ok (.iload_n 3, 1) := by decide +kernel
theorem dX2_wallsWith_5 : decode cX2_wallsWith 5 = .ok (.aload_n 0, 1) := by decide +kernel
theorem dX2_wallsWith_6 : decode cX2_wallsWith 6 = .ok (.getfield 32, 3) := by decide +kernel
theorem dX2_wallsWith_9 : decode cX2_wallsWith 9 = .ok (.if_icmp .ge 28, 3) := by decide +kernel
theorem dX2_wallsWith_12 : decode cX2_wallsWith 12 = .ok (.aload_n 0, 1) := by decide +kernel
theorem dX2_wallsWith_13 : decode cX2_wallsWith 13 = .ok (.getfield 19, 3) := by decide +kernel
theorem dX2_wallsWith_16 : decode cX2_wallsWith 16 = .ok (.iload_n 3, 1) := by decide +kernel
theorem dX2_wallsWith_17 : decode cX2_wallsWith 17 = .ok (.aaload, 1) := by decide +kernel
theorem dX2_wallsWith_18 : decode cX2_wallsWith 18 = .ok (.aload_n 1, 1) := by decide +kernel
theorem dX2_wallsWith_19 : decode cX2_wallsWith 19 = .ok (.invokevirtual 54, 3) := by decide +kernel
theorem dX2_wallsWith_22 : decode cX2_wallsWith 22 = .ok (.ifCond .eq 9, 3) := by decide +kernel
theorem dX2_wallsWith_25 : decode cX2_wallsWith 25 = .ok (.iload_n 2, 1) := by decide +kernel
theorem dX2_wallsWith_26 : decode cX2_wallsWith 26 = .ok (.iconst 1, 1) := by decide +kernel
theorem dX2_wallsWith_27 : decode cX2_wallsWith 27 = .ok (.iload_n 3, 1) := by decide +kernel
theorem dX2_wallsWith_28 : decode cX2_wallsWith 28 = .ok (.ishl, 1) := by decide +kernel
theorem dX2_wallsWith_29 : decode cX2_wallsWith 29 = .ok (.ior, 1) := by decide +kernel
theorem dX2_wallsWith_30 : decode cX2_wallsWith 30 = .ok (.istore_n 2, 1) := by decide +kernel
theorem dX2_wallsWith_31 : decode cX2_wallsWith 31 = .ok (.iinc 3 1, 3) := by decide +kernel
theorem dX2_wallsWith_34 : decode cX2_wallsWith 34 = .ok (.goto (-30), 3) := by decide +kernel
theorem dX2_wallsWith_37 : decode cX2_wallsWith 37 = .ok (.iload_n 2, 1) := by decide +kernel
theorem dX2_wallsWith_38 : decode cX2_wallsWith 38 = .ok (.ireturn, 1) := by decide +kernel
theorem dX2_allShows_0 : decode cX2_allShows 0 = .ok (.iconst 0, 1) := by decide +kernel
theorem dX2_allShows_1 : decode cX2_allShows 1 = .ok (.istore_n 2, 1) := by decide +kernel
theorem dX2_allShows_2 : decode cX2_allShows 2 = .ok (.iconst 0, 1) := by decide +kernel
theorem dX2_allShows_3 : decode cX2_allShows 3 = .ok (.istore_n 3, 1) := by decide +kernel
theorem dX2_allShows_4 : decode cX2_allShows 4 = .ok (.iload_n 3, 1) := by decide +kernel
theorem dX2_allShows_5 : decode cX2_allShows 5 = .ok (.aload_n 0, 1) := by decide +kernel
theorem dX2_allShows_6 : decode cX2_allShows 6 = .ok (.getfield 32, 3) := by decide +kernel
theorem dX2_allShows_9 : decode cX2_allShows 9 = .ok (.if_icmp .ge 23, 3) := by decide +kernel
theorem dX2_allShows_12 : decode cX2_allShows 12 = .ok (.iload_n 2, 1) := by decide +kernel
theorem dX2_allShows_13 : decode cX2_allShows 13 = .ok (.aload_n 0, 1) := by decide +kernel
theorem dX2_allShows_14 : decode cX2_allShows 14 = .ok (.aload_n 0, 1) := by decide +kernel
theorem dX2_allShows_15 : decode cX2_allShows 15 = .ok (.getfield 19, 3) := by decide +kernel
theorem dX2_allShows_18 : decode cX2_allShows 18 = .ok (.iload_n 3, 1) := by decide +kernel
theorem dX2_allShows_19 : decode cX2_allShows 19 = .ok (.aaload, 1) := by decide +kernel
theorem dX2_allShows_20 : decode cX2_allShows 20 = .ok (.iload_n 1, 1) := by decide +kernel
theorem dX2_allShows_21 : decode cX2_allShows 21 = .ok (.invokevirtual 58, 3) := by decide +kernel
theorem dX2_allShows_24 : decode cX2_allShows 24 = .ok (.iadd, 1) := by decide +kernel
theorem dX2_allShows_25 : decode cX2_allShows 25 = .ok (.istore_n 2, 1) := by decide +kernel
theorem dX2_allShows_26 : decode cX2_allShows 26 = .ok (.iinc 3 1, 3) := by decide +kernel
theorem dX2_allShows_29 : decode cX2_allShows 29 = .ok (.goto (-25), 3) := by decide +kernel
theorem dX2_allShows_32 : decode cX2_allShows 32 = .ok (.iload_n 2, 1) := by decide +kernel
theorem dX2_allShows_33 : decode cX2_allShows 33 = .ok (.ireturn, 1) := by decide +kernel
theorem dX2_allPeople_0 : decode cX2_allPeople 0 = .ok (.iconst 0, 1) := by decide +kernel
theorem dX2_allPeople_1 : decode cX2_allPeople 1 = .ok (.istore_n 1, 1) := by decide +kernel
theorem dX2_allPeople_2 : decode cX2_allPeople 2 = .ok (.iconst 0, 1) := by decide +kernel
theorem dX2_allPeople_3 : decode cX2_allPeople 3 = .ok (.istore_n 2, 1) := by decide +kernel
theorem dX2_allPeople_4 : decode cX2_allPeople 4 = .ok (.iload_n 2, 1) := by decide +kernel
theorem dX2_allPeople_5 : decode cX2_allPeople 5 = .ok (.aload_n 0, 1) := by decide +kernel
theorem dX2_allPeople_6 : decode cX2_allPeople 6 = .ok (.getfield 32, 3) := by decide +kernel
theorem dX2_allPeople_9 : decode cX2_allPeople 9 = .ok (.if_icmp .ge 21, 3) := by decide +kernel
theorem dX2_allPeople_12 : decode cX2_allPeople 12 = .ok (.iload_n 1, 1) := by decide +kernel
theorem dX2_allPeople_13 : decode cX2_allPeople 13 = .ok (.aload_n 0, 1) := by decide +kernel
theorem dX2_allPeople_14 : decode cX2_allPeople 14 = .ok (.getfield 19, 3) := by decide +kernel
theorem dX2_allPeople_17 : decode cX2_allPeople 17 = .ok (.iload_n 2, 1) := by decide +kernel
theorem dX2_allPeople_18 : decode cX2_allPeople 18 = .ok (.aaload, 1) := by decide +kernel
theorem dX2_allPeople_19 : decode cX2_allPeople 19 = .ok (.getfield 62, 3) := by decide +kernel
theorem dX2_allPeople_22 : decode cX2_allPeople 22 = .ok (.iadd, 1) := by decide +kernel
theorem dX2_allPeople_23 : decode cX2_allPeople 23 = .ok (.istore_n 1, 1) := by decide +kernel
theorem dX2_allPeople_24 : decode cX2_allPeople 24 = .ok (.iinc 2 1, 3) := by decide +kernel
theorem dX2_allPeople_27 : decode cX2_allPeople 27 = .ok (.goto (-23), 3) := by decide +kernel
theorem dX2_allPeople_30 : decode cX2_allPeople 30 = .ok (.iload_n 1, 1) := by decide +kernel
theorem dX2_allPeople_31 : decode cX2_allPeople 31 = .ok (.ireturn, 1) := by decide +kernel
theorem dX2_allPence_0 : decode cX2_allPence 0 = .ok (.iconst 0, 1) := by decide +kernel
theorem dX2_allPence_1 : decode cX2_allPence 1 = .ok (.istore_n 1, 1) := by decide +kernel
theorem dX2_allPence_2 : decode cX2_allPence 2 = .ok (.iconst 0, 1) := by decide +kernel
theorem dX2_allPence_3 : decode cX2_allPence 3 = .ok (.istore_n 2, 1) := by decide +kernel
theorem dX2_allPence_4 : decode cX2_allPence 4 = .ok (.iload_n 2, 1) := by decide +kernel
theorem dX2_allPence_5 : decode cX2_allPence 5 = .ok (.aload_n 0, 1) := by decide +kernel
theorem dX2_allPence_6 : decode cX2_allPence 6 = .ok (.getfield 32, 3) := by decide +kernel
theorem dX2_allPence_9 : decode cX2_allPence 9 = .ok (.if_icmp .ge 21, 3) := by decide +kernel
theorem dX2_allPence_12 : decode cX2_allPence 12 = .ok (.iload_n 1, 1) := by decide +kernel
theorem dX2_allPence_13 : decode cX2_allPence 13 = .ok (.aload_n 0, 1) := by decide +kernel
theorem dX2_allPence_14 : decode cX2_allPence 14 = .ok (.getfield 19, 3) := by decide +kernel
theorem dX2_allPence_17 : decode cX2_allPence 17 = .ok (.iload_n 2, 1) := by decide +kernel
theorem dX2_allPence_18 : decode cX2_allPence 18 = .ok (.aaload, 1) := by decide +kernel
theorem dX2_allPence_19 : decode cX2_allPence 19 = .ok (.getfield 65, 3) := by decide +kernel
theorem dX2_allPence_22 : decode cX2_allPence 22 = .ok (.iadd, 1) := by decide +kernel
theorem dX2_allPence_23 : decode cX2_allPence 23 = .ok (.istore_n 1, 1) := by decide +kernel
theorem dX2_allPence_24 : decode cX2_allPence 24 = .ok (.iinc 2 1, 3) := by decide +kernel
theorem dX2_allPence_27 : decode cX2_allPence 27 = .ok (.goto (-23), 3) := by decide +kernel
theorem dX2_allPence_30 : decode cX2_allPence 30 = .ok (.iload_n 1, 1) := by decide +kernel
theorem dX2_allPence_31 : decode cX2_allPence 31 = .ok (.ireturn, 1) := by decide +kernel
theorem dX2_passersWalk_0 : decode cX2_passersWalk 0 = .ok (.iconst 0, 1) := by decide +kernel
theorem dX2_passersWalk_1 : decode cX2_passersWalk 1 = .ok (.istore_n 1, 1) := by decide +kernel
theorem dX2_passersWalk_2 : decode cX2_passersWalk 2 = .ok (.iload_n 1, 1) := by decide +kernel
theorem dX2_passersWalk_3 : decode cX2_passersWalk 3 = .ok (.aload_n 0, 1) := by decide +kernel
theorem dX2_passersWalk_4 : decode cX2_passersWalk 4 = .ok (.getfield 29, 3) := by decide +kernel
theorem dX2_passersWalk_7 : decode cX2_passersWalk 7 = .ok (.if_icmp .ge 18, 3) := by decide +kernel
theorem dX2_passersWalk_10 : decode cX2_passersWalk 10 = .ok (.aload_n 0, 1) := by decide +kernel
theorem dX2_passersWalk_11 : decode cX2_passersWalk 11 = .ok (.getfield 11, 3) := by decide +kernel
theorem dX2_passersWalk_14 : decode cX2_passersWalk 14 = .ok (.iload_n 1, 1) := by decide +kernel
theorem dX2_passersWalk_15 : decode cX2_passersWalk 15 = .ok (.aaload, 1) := by decide +kernel
theorem dX2_passersWalk_16 : decode cX2_passersWalk 16 = .ok (.invokevirtual 68, 3) := by decide +kernel
theorem dX2_passersWalk_19 : decode cX2_passersWalk 19 = .ok (.iinc 1 1, 3) := by decide +kernel
theorem dX2_passersWalk_22 : decode cX2_passersWalk 22 = .ok (.goto (-20), 3) := by decide +kernel
theorem dX2_passersWalk_25 : decode cX2_passersWalk 25 = .ok (.return_, 1) := by decide +kernel
theorem dX2_roomsPay_0 : decode cX2_roomsPay 0 = .ok (.iconst 0, 1) := by decide +kernel
theorem dX2_roomsPay_1 : decode cX2_roomsPay 1 = .ok (.istore_n 2, 1) := by decide +kernel
theorem dX2_roomsPay_2 : decode cX2_roomsPay 2 = .ok (.iconst 0, 1) := by decide +kernel
theorem dX2_roomsPay_3 : decode cX2_roomsPay 3 = .ok (.istore_n 3, 1) := by decide +kernel
theorem dX2_roomsPay_4 : decode cX2_roomsPay 4 = .ok (.iload_n 3, 1) := by decide +kernel
theorem dX2_roomsPay_5 : decode cX2_roomsPay 5 = .ok (.aload_n 0, 1) := by decide +kernel
theorem dX2_roomsPay_6 : decode cX2_roomsPay 6 = .ok (.getfield 32, 3) := by decide +kernel
theorem dX2_roomsPay_9 : decode cX2_roomsPay 9 = .ok (.if_icmp .ge 32, 3) := by decide +kernel
theorem dX2_roomsPay_12 : decode cX2_roomsPay 12 = .ok (.iload_n 2, 1) := by decide +kernel
theorem dX2_roomsPay_13 : decode cX2_roomsPay 13 = .ok (.aload_n 0, 1) := by decide +kernel
theorem dX2_roomsPay_14 : decode cX2_roomsPay 14 = .ok (.getfield 19, 3) := by decide +kernel
theorem dX2_roomsPay_17 : decode cX2_roomsPay 17 = .ok (.iload_n 3, 1) := by decide +kernel
theorem dX2_roomsPay_18 : decode cX2_roomsPay 18 = .ok (.aaload, 1) := by decide +kernel
theorem dX2_roomsPay_19 : decode cX2_roomsPay 19 = .ok (.aload_n 0, 1) := by decide +kernel
theorem dX2_roomsPay_20 : decode cX2_roomsPay 20 = .ok (.aload_n 0, 1) := by decide +kernel
theorem dX2_roomsPay_21 : decode cX2_roomsPay 21 = .ok (.getfield 19, 3) := by decide +kernel
theorem dX2_roomsPay_24 : decode cX2_roomsPay 24 = .ok (.iload_n 3, 1) := by decide +kernel
theorem dX2_roomsPay_25 : decode cX2_roomsPay 25 = .ok (.aaload, 1) := by decide +kernel
theorem dX2_roomsPay_26 : decode cX2_roomsPay 26 = .ok (.iload_n 1, 1) := by decide +kernel
theorem dX2_roomsPay_27 : decode cX2_roomsPay 27 = .ok (.invokevirtual 58, 3) := by decide +kernel
theorem dX2_roomsPay_30 : decode cX2_roomsPay 30 = .ok (.invokevirtual 71, 3) := by decide +kernel
theorem dX2_roomsPay_33 : decode cX2_roomsPay 33 = .ok (.iadd, 1) := by decide +kernel
theorem dX2_roomsPay_34 : decode cX2_roomsPay 34 = .ok (.istore_n 2, 1) := by decide +kernel
theorem dX2_roomsPay_35 : decode cX2_roomsPay 35 = .ok (.iinc 3 1, 3) := by decide +kernel
theorem dX2_roomsPay_38 : decode cX2_roomsPay 38 = .ok (.goto (-34), 3) := by decide +kernel
theorem dX2_roomsPay_41 : decode cX2_roomsPay 41 = .ok (.iload_n 2, 1) := by decide +kernel
theorem dX2_roomsPay_42 : decode cX2_roomsPay 42 = .ok (.ireturn, 1) := by decide +kernel
theorem dX3_init_0 : decode cX3_init 0 = .ok (.aload_n 0, 1) := by decide +kernel
theorem dX3_init_1 : decode cX3_init 1 = .ok (.invokespecial 3, 3) := by decide +kernel
theorem dX3_init_4 : decode cX3_init 4 = .ok (.aload_n 0, 1) := by decide +kernel
theorem dX3_init_5 : decode cX3_init 5 = .ok (.bipush 12, 2) := by decide +kernel
theorem dX3_init_7 : decode cX3_init 7 = .ok (.newarray .int, 2) := by decide +kernel
theorem dX3_init_9 : decode cX3_init 9 = .ok (.putfield 9, 3) := by decide +kernel
theorem dX3_init_12 : decode cX3_init 12 = .ok (.aload_n 0, 1) := by decide +kernel
theorem dX3_init_13 : decode cX3_init 13 = .ok (.bipush 12, 2) := by decide +kernel
theorem dX3_init_15 : decode cX3_init 15 = .ok (.newarray .int, 2) := by decide +kernel
theorem dX3_init_17 : decode cX3_init 17 = .ok (.putfield 15, 3) := by decide +kernel
theorem dX3_init_20 : decode cX3_init 20 = .ok (.iconst 0, 1) := by decide +kernel
theorem dX3_init_21 : decode cX3_init 21 = .ok (.istore_n 1, 1) := by decide +kernel
theorem dX3_init_22 : decode cX3_init 22 = .ok (.iload_n 1, 1) := by decide +kernel
theorem dX3_init_23 : decode cX3_init 23 = .ok (.bipush 12, 2) := by decide +kernel
theorem dX3_init_25 : decode cX3_init 25 = .ok (.if_icmp .ge 17, 3) := by decide +kernel
theorem dX3_init_28 : decode cX3_init 28 = .ok (.aload_n 0, 1) := by decide +kernel
theorem dX3_init_29 : decode cX3_init 29 = .ok (.getfield 9, 3) := by decide +kernel
theorem dX3_init_32 : decode cX3_init 32 = .ok (.iload_n 1, 1) := by decide +kernel
theorem dX3_init_33 : decode cX3_init 33 = .ok (.bipush 50, 2) := by decide +kernel
theorem dX3_init_35 : decode cX3_init 35 = .ok (.iastore, 1) := by decide +kernel
theorem dX3_init_36 : decode cX3_init 36 = .ok (.iinc 1 1, 3) := by decide +kernel
theorem dX3_init_39 : decode cX3_init 39 = .ok (.goto (-17), 3) := by decide +kernel
theorem dX3_init_42 : decode cX3_init 42 = .ok (.return_, 1) := by decide +kernel
theorem dX3_entry_0 : decode cX3_entry 0 = .ok (.bipush 10, 2) := by decide +kernel
theorem dX3_entry_2 : decode cX3_entry 2 = .ok (.aload_n 0, 1) := by decide +kernel
theorem dX3_entry_3 : decode cX3_entry 3 = .ok (.getfield 9, 3) := by decide +kernel
theorem dX3_entry_6 : decode cX3_entry 6 = .ok (.iload_n 1, 1) := by decide +kernel
theorem dX3_entry_7 : decode cX3_entry 7 = .ok (.iaload, 1) := by decide +kernel
theorem dX3_entry_8 : decode cX3_entry 8 = .ok (.imul, 1) := by decide +kernel
theorem dX3_entry_9 : decode cX3_entry 9 = .ok (.aload_n 0, 1) := by decide +kernel
theorem dX3_entry_10 : decode cX3_entry 10 = .ok (.getfield 15, 3) := by decide +kernel
theorem dX3_entry_13 : decode cX3_entry 13 = .ok (.iload_n 1, 1) := by decide +kernel
theorem dX3_entry_14 : decode cX3_entry 14 = .ok (.iaload, 1) := by decide +kernel
theorem dX3_entry_15 : decode cX3_entry 15 = .ok (.iadd, 1) := by decide +kernel
theorem dX3_entry_16 : decode cX3_entry 16 = .ok (.ireturn, 1) := by decide +kernel
theorem dX3_lightAt_0 : decode cX3_lightAt 0 = .ok (.iload_n 1, 1) := by decide +kernel
theorem dX3_lightAt_1 : decode cX3_lightAt 1 = .ok (.ifCond .lt 10, 3) := by decide +kernel
theorem dX3_lightAt_4 : decode cX3_lightAt 4 = .ok (.iload_n 1, 1) := by decide +kernel
theorem dX3_lightAt_5 : decode cX3_lightAt 5 = .ok (.sipush 720, 3) := by decide +kernel
theorem dX3_lightAt_8 : decode cX3_lightAt 8 = .ok (.if_icmp .lt 5, 3) := by decide +kernel
theorem dX3_lightAt_11 : decode cX3_lightAt 11 = .ok (.iconst 0, 1) := by decide +kernel
theorem dX3_lightAt_12 : decode cX3_lightAt 12 = .ok (.ireturn, 1) := by decide +kernel
theorem dX3_lightAt_13 : decode cX3_lightAt 13 = .ok (.iload_n 1, 1) := by decide +kernel
theorem dX3_lightAt_14 : decode cX3_lightAt 14 = .ok (.bipush 60, 2) := by decide +kernel
theorem dX3_lightAt_16 : decode cX3_lightAt 16 = .ok (.idiv, 1) := by decide +kernel
theorem dX3_lightAt_17 : decode cX3_lightAt 17 = .ok (.istore_n 2, 1) := by decide +kernel
theorem dX3_lightAt_18 : decode cX3_lightAt 18 = .ok (.aload_n 0, 1) := by decide +kernel
theorem dX3_lightAt_19 : decode cX3_lightAt 19 = .ok (.getfield 9, 3) := by decide +kernel
theorem dX3_lightAt_22 : decode cX3_lightAt 22 = .ok (.iload_n 2, 1) := by decide +kernel
theorem dX3_lightAt_23 : decode cX3_lightAt 23 = .ok (.iaload, 1) := by decide +kernel
theorem dX3_lightAt_24 : decode cX3_lightAt 24 = .ok (.bipush 10, 2) := by decide +kernel
theorem dX3_lightAt_26 : decode cX3_lightAt 26 = .ok (.aload_n 0, 1) := by decide +kernel
theorem dX3_lightAt_27 : decode cX3_lightAt 27 = .ok (.getfield 15, 3) := by decide +kernel
theorem dX3_lightAt_30 : decode cX3_lightAt 30 = .ok (.iload_n 2, 1) := by decide +kernel
theorem dX3_lightAt_31 : decode cX3_lightAt 31 = .ok (.iaload, 1) := by decide +kernel
theorem dX3_lightAt_32 : decode cX3_lightAt 32 = .ok (.isub, 1) := by decide +kernel
theorem dX3_lightAt_33 : decode cX3_lightAt 33 = .ok (.imul, 1) := by decide +kernel
theorem dX3_lightAt_34 : decode cX3_lightAt 34 = .ok (.bipush 10, 2) := by decide +kernel
theorem dX3_lightAt_36 : decode cX3_lightAt 36 = .ok (.idiv, 1) := by decide +kernel
theorem dX3_lightAt_37 : decode cX3_lightAt 37 = .ok (.ireturn, 1) := by decide +kernel
theorem dX4_init_0 : decode cX4_init 0 = .ok (.aload_n 0, 1) := by decide +kernel
theorem dX4_init_1 : decode cX4_init 1 = .ok (.invokespecial 3, 3) := by decide +kernel
theorem dX4_init_4 : decode cX4_init 4 = .ok (.aload_n 0, 1) := by decide +kernel
theorem dX4_init_5 : decode cX4_init 5 = .ok (.new 9, 3) := by decide +kernel
theorem dX4_init_8 : decode cX4_init 8 = .ok (.dup, 1) := by decide +kernel
theorem dX4_init_9 : decode cX4_init 9 = .ok (.invokespecial 11, 3) := by decide +kernel
theorem dX4_init_12 : decode cX4_init 12 = .ok (.putfield 12, 3) := by decide +kernel
theorem dX4_init_15 : decode cX4_init 15 = .ok (.aload_n 0, 1) := by decide +kernel
theorem dX4_init_16 : decode cX4_init 16 = .ok (.new 16, 3) := by decide +kernel
theorem dX4_init_19 : decode cX4_init 19 = .ok (.dup, 1) := by decide +kernel
theorem dX4_init_20 : decode cX4_init 20 = .ok (.invokespecial 18, 3) := by decide +kernel
theorem dX4_init_23 : decode cX4_init 23 = .ok (.putfield 19, 3) := by decide +kernel
theorem dX4_init_26 : decode cX4_init 26 = .ok (.aload_n 0, 1) := by decide +kernel
theorem dX4_init_27 : decode cX4_init 27 = .ok (.new 16, 3) := by decide +kernel
theorem dX4_init_30 : decode cX4_init 30 = .ok (.dup, 1) := by decide +kernel
theorem dX4_init_31 : decode cX4_init 31 = .ok (.invokespecial 18, 3) := by decide +kernel
theorem dX4_init_34 : decode cX4_init 34 = .ok (.putfield 23, 3) := by decide +kernel
theorem dX4_init_37 : decode cX4_init 37 = .ok (.return_, 1) := by decide +kernel
theorem dX4_pass_0 : decode cX4_pass 0 = .ok (.iload_n 1, 1) := by decide +kernel
theorem dX4_pass_1 : decode cX4_pass 1 = .ok (.invokestatic 26, 3) := by decide +kernel
theorem dX4_pass_4 : decode cX4_pass 4 = .ok (.ifCond .eq 29, 3) := by decide +kernel
theorem dX4_pass_7 : decode cX4_pass 7 = .ok (.iload_n 2, 1) := by decide +kernel
theorem dX4_pass_8 : decode cX4_pass 8 = .ok (.bipush (-3), 2) := by decide +kernel
theorem dX4_pass_10 : decode cX4_pass 10 = .ok (.if_icmp .lt 23, 3) := by decide +kernel
theorem dX4_pass_13 : decode cX4_pass 13 = .ok (.iload_n 2, 1) := by decide +kernel
theorem dX4_pass_14 : decode cX4_pass 14 = .ok (.iconst 3, 1) := by decide +kernel
theorem dX4_pass_15 : decode cX4_pass 15 = .ok (.if_icmp .gt 18, 3) := by decide +kernel
theorem dX4_pass_18 : decode cX4_pass 18 = .ok (.iload_n 3, 1) := by decide +kernel
theorem dX4_pass_19 : decode cX4_pass 19 = .ok (.invokestatic 30, 3) := by decide +kernel
theorem dX4_pass_22 : decode cX4_pass 22 = .ok (.ifCond .eq 11, 3) := by decide +kernel
theorem dX4_pass_25 : decode cX4_pass 25 = .ok (.iload 4, 2) := by decide +kernel
theorem dX4_pass_27 : decode cX4_pass 27 = .ok (.invokestatic 30, 3) := by decide +kernel
theorem dX4_pass_30 : decode cX4_pass 30 = .ok (.ifCond .ne 11, 3) := by decide +kernel
theorem dX4_pass_33 : decode cX4_pass 33 = .ok (.new 33, 3) := by decide +kernel
theorem dX4_pass_36 : decode cX4_pass 36 = .ok (.dup, 1) := by decide +kernel
theorem dX4_pass_37 : decode cX4_pass 37 = .ok (.invokespecial 35, 3) := by decide +kernel
theorem dX4_pass_40 : decode cX4_pass 40 = .ok (.athrow, 1) := by decide +kernel
theorem dX4_pass_41 : decode cX4_pass 41 = .ok (.aload_n 0, 1) := by decide +kernel
theorem dX4_pass_42 : decode cX4_pass 42 = .ok (.getfield 19, 3) := by decide +kernel
theorem dX4_pass_45 : decode cX4_pass 45 = .ok (.getfield 36, 3) := by decide +kernel
theorem dX4_pass_48 : decode cX4_pass 48 = .ok (.bipush 10, 2) := by decide +kernel
theorem dX4_pass_50 : decode cX4_pass 50 = .ok (.if_icmp .lt 11, 3) := by decide +kernel
theorem dX4_pass_53 : decode cX4_pass 53 = .ok (.new 40, 3) := by decide +kernel
theorem dX4_pass_56 : decode cX4_pass 56 = .ok (.dup, 1) := by decide +kernel
theorem dX4_pass_57 : decode cX4_pass 57 = .ok (.invokespecial 42, 3) := by decide +kernel
theorem dX4_pass_60 : decode cX4_pass 60 = .ok (.athrow, 1) := by decide +kernel
theorem dX4_pass_61 : decode cX4_pass 61 = .ok (.aload_n 0, 1) := by decide +kernel
theorem dX4_pass_62 : decode cX4_pass 62 = .ok (.getfield 19, 3) := by decide +kernel
theorem dX4_pass_65 : decode cX4_pass 65 = .ok (.getfield 36, 3) := by decide +kernel
theorem dX4_pass_68 : decode cX4_pass 68 = .ok (.istore 5, 2) := by decide +kernel
theorem dX4_pass_70 : decode cX4_pass 70 = .ok (.aload_n 0, 1) := by decide +kernel
theorem dX4_pass_71 : decode cX4_pass 71 = .ok (.getfield 19, 3) := by decide +kernel
theorem dX4_pass_74 : decode cX4_pass 74 = .ok (.getfield 43, 3) := by decide +kernel
theorem dX4_pass_77 : decode cX4_pass 77 = .ok (.iload 5, 2) := by decide +kernel
theorem dX4_pass_79 : decode cX4_pass 79 = .ok (.aaload, 1) := by decide +kernel
theorem dX4_pass_80 : decode cX4_pass 80 = .ok (.iload_n 1, 1) := by decide +kernel
theorem dX4_pass_81 : decode cX4_pass 81 = .ok (.iload_n 2, 1) := by decide +kernel
theorem dX4_pass_82 : decode cX4_pass 82 = .ok (.iload_n 3, 1) := by decide +kernel
theorem dX4_pass_83 : decode cX4_pass 83 = .ok (.iload 4, 2) := by decide +kernel
theorem dX4_pass_85 : decode cX4_pass 85 = .ok (.invokevirtual 47, 3) := by decide +kernel
theorem dX4_pass_88 : decode cX4_pass 88 = .ok (.aload_n 0, 1) := by decide +kernel
theorem dX4_pass_89 : decode cX4_pass 89 = .ok (.getfield 19, 3) := by decide +kernel
theorem dX4_pass_92 : decode cX4_pass 92 = .ok (.dup, 1) := by decide +kernel
theorem dX4_pass_93 : decode cX4_pass 93 = .ok (.getfield 36, 3) := by decide +kernel
theorem dX4_pass_96 : decode cX4_pass 96 = .ok (.iconst 1, 1) := by decide +kernel
theorem dX4_pass_97 : decode cX4_pass 97 = .ok (.iadd, 1) := by decide +kernel
theorem dX4_pass_98 : decode cX4_pass 98 = .ok (.putfield 36, 3) := by decide +kernel
theorem dX4_pass_101 : decode cX4_pass 101 = .ok (.iload 5, 2) := by decide +kernel
theorem dX4_pass_103 : decode cX4_pass 103 = .ok (.ireturn, 1) := by decide +kernel
theorem dX4_setLight_0 : decode cX4_setLight 0 = .ok (.iload_n 1, 1) := by decide +kernel
theorem dX4_setLight_1 : decode cX4_setLight 1 = .ok (.ifCond .lt 9, 3) := by decide +kernel
theorem dX4_setLight_4 : decode cX4_setLight 4 = .ok (.iload_n 1, 1) := by decide +kernel
theorem dX4_setLight_5 : decode cX4_setLight 5 = .ok (.bipush 12, 2) := by decide +kernel
theorem dX4_setLight_7 : decode cX4_setLight 7 = .ok (.if_icmp .lt 11, 3) := by decide +kernel
theorem dX4_setLight_10 : decode cX4_setLight 10 = .ok (.new 53, 3) := by decide +kernel
theorem dX4_setLight_13 : decode cX4_setLight 13 = .ok (.dup, 1) := by decide +kernel
theorem dX4_setLight_14 : decode cX4_setLight 14 = .ok (.invokespecial 55, 3) := by decide +kernel
theorem dX4_setLight_17 : decode cX4_setLight 17 = .ok (.athrow, 1) := by decide +kernel
theorem dX4_setLight_18 : decode cX4_setLight 18 = .ok (.iload_n 2, 1) := by decide +kernel
theorem dX4_setLight_19 : decode cX4_setLight 19 = .ok (.ifCond .lt 16, 3) := by decide +kernel
theorem dX4_setLight_22 : decode cX4_setLight 22 = .ok (.iload_n 2, 1) := by decide +kernel
theorem dX4_setLight_23 : decode cX4_setLight 23 = .ok (.bipush 100, 2) := by decide +kernel
theorem dX4_setLight_25 : decode cX4_setLight 25 = .ok (.if_icmp .gt 10, 3) := by decide +kernel
theorem dX4_setLight_28 : decode cX4_setLight 28 = .ok (.iload_n 3, 1) := by decide +kernel
theorem dX4_setLight_29 : decode cX4_setLight 29 = .ok (.invokestatic 56, 3) := by decide +kernel
theorem dX4_setLight_32 : decode cX4_setLight 32 = .ok (.ifCond .ne 11, 3) := by decide +kernel
theorem dX4_setLight_35 : decode cX4_setLight 35 = .ok (.new 33, 3) := by decide +kernel
theorem dX4_setLight_38 : decode cX4_setLight 38 = .ok (.dup, 1) := by decide +kernel
theorem dX4_setLight_39 : decode cX4_setLight 39 = .ok (.invokespecial 35, 3) := by decide +kernel
theorem dX4_setLight_42 : decode cX4_setLight 42 = .ok (.athrow, 1) := by decide +kernel
theorem dX4_setLight_43 : decode cX4_setLight 43 = .ok (.aload_n 0, 1) := by decide +kernel
theorem dX4_setLight_44 : decode cX4_setLight 44 = .ok (.getfield 12, 3) := by decide +kernel
theorem dX4_setLight_47 : decode cX4_setLight 47 = .ok (.iload_n 1, 1) := by decide +kernel
theorem dX4_setLight_48 : decode cX4_setLight 48 = .ok (.invokevirtual 59, 3) := by decide +kernel
theorem dX4_setLight_51 : decode cX4_setLight 51 = .ok (.istore 4, 2) := by decide +kernel
theorem dX4_setLight_53 : decode cX4_setLight 53 = .ok (.aload_n 0, 1) := by decide +kernel
theorem dX4_setLight_54 : decode cX4_setLight 54 = .ok (.getfield 12, 3) := by decide +kernel
theorem dX4_setLight_57 : decode cX4_setLight 57 = .ok (.getfield 63, 3) := by decide +kernel
theorem dX4_setLight_60 : decode cX4_setLight 60 = .ok (.iload_n 1, 1) := by decide +kernel
theorem dX4_setLight_61 : decode cX4_setLight 61 = .ok (.iload_n 2, 1) := by decide +kernel
theorem dX4_setLight_62 : decode cX4_setLight 62 = .ok (.iastore, 1) := by decide +kernel
theorem dX4_setLight_63 : decode cX4_setLight 63 = .ok (.aload_n 0, 1) := by decide +kernel
theorem dX4_setLight_64 : decode cX4_setLight 64 = .ok (.getfield 12, 3) := by decide +kernel
theorem dX4_setLight_67 : decode cX4_setLight 67 = .ok (.getfield 67, 3) := by decide +kernel
theorem dX4_setLight_70 : decode cX4_setLight 70 = .ok (.iload_n 1, 1) := by decide +kernel
theorem dX4_setLight_71 : decode cX4_setLight 71 = .ok (.iload_n 3, 1) := by decide +kernel
theorem dX4_setLight_72 : decode cX4_setLight 72 = .ok (.iastore, 1) := by decide +kernel
theorem dX4_setLight_73 : decode cX4_setLight 73 = .ok (.iload 4, 2) := by decide +kernel
theorem dX4_setLight_75 : decode cX4_setLight 75 = .ok (.ireturn, 1) := by decide +kernel
theorem dX4_addRoom_0 : decode cX4_addRoom 0 = .ok (.iload_n 1, 1) := by decide +kernel
theorem dX4_addRoom_1 : decode cX4_addRoom 1 = .ok (.invokestatic 26, 3) := by decide +kernel
theorem dX4_addRoom_4 : decode cX4_addRoom 4 = .ok (.ifCond .eq 20, 3) := by decide +kernel
theorem dX4_addRoom_7 : decode cX4_addRoom 7 = .ok (.iload_n 2, 1) := by decide +kernel
theorem dX4_addRoom_8 : decode cX4_addRoom 8 = .ok (.invokestatic 30, 3) := by decide +kernel
theorem dX4_addRoom_11 : decode cX4_addRoom 11 = .ok (.ifCond .eq 13, 3) := by decide +kernel
theorem dX4_addRoom_14 : decode cX4_addRoom 14 = .ok (.iload_n 3, 1) := by decide +kernel
theorem dX4_addRoom_15 : decode cX4_addRoom 15 = .ok (.ifCond .lt 9, 3) := by decide +kernel
theorem dX4_addRoom_18 : decode cX4_addRoom 18 = .ok (.iload_n 3, 1) := by decide +kernel
theorem dX4_addRoom_19 : decode cX4_addRoom 19 = .ok (.bipush 20, 2) := by decide +kernel
theorem dX4_addRoom_21 : decode cX4_addRoom 21 = .ok (.if_icmp .le 11, 3) := by decide +kernel
theorem dX4_addRoom_24 : decode cX4_addRoom 24 = .ok (.new 33, 3) := by decide +kernel
theorem dX4_addRoom_27 : decode cX4_addRoom 27 = .ok (.dup, 1) := by decide +kernel
theorem dX4_addRoom_28 : decode cX4_addRoom 28 = .ok (.invokespecial 35, 3) := by decide +kernel
theorem dX4_addRoom_31 : decode cX4_addRoom 31 = .ok (.athrow, 1) := by decide +kernel
theorem dX4_addRoom_32 : decode cX4_addRoom 32 = .ok (.aload_n 0, 1) := by decide +kernel
theorem dX4_addRoom_33 : decode cX4_addRoom 33 = .ok (.getfield 19, 3) := by decide +kernel
theorem dX4_addRoom_36 : decode cX4_addRoom 36 = .ok (.getfield 70, 3) := by decide +kernel
theorem dX4_addRoom_39 : decode cX4_addRoom 39 = .ok (.bipush 8, 2) := by decide +kernel
theorem dX4_addRoom_41 : decode cX4_addRoom 41 = .ok (.if_icmp .ge 14, 3) := by decide +kernel
theorem dX4_addRoom_44 : decode cX4_addRoom 44 = .ok (.aload_n 0, 1) := by decide +kernel
theorem dX4_addRoom_45 : decode cX4_addRoom 45 = .ok (.getfield 19, 3) := by decide +kernel
theorem dX4_addRoom_48 : decode cX4_addRoom 48 = .ok (.iload_n 1, 1) := by decide +kernel
theorem dX4_addRoom_49 : decode cX4_addRoom 49 = .ok (.invokevirtual 73, 3) := by decide +kernel
theorem dX4_addRoom_52 : decode cX4_addRoom 52 = .ok (.ifCond .eq 11, 3) := by decide +kernel
theorem dX4_addRoom_55 : decode cX4_addRoom 55 = .ok (.new 40, 3) := by decide +kernel
theorem dX4_addRoom_58 : decode cX4_addRoom 58 = .ok (.dup, 1) := by decide +kernel
theorem dX4_addRoom_59 : decode cX4_addRoom 59 = .ok (.invokespecial 42, 3) := by decide +kernel
theorem dX4_addRoom_62 : decode cX4_addRoom 62 = .ok (.athrow, 1) := by decide +kernel
theorem dX4_addRoom_63 : decode cX4_addRoom 63 = .ok (.aload_n 0, 1) := by decide +kernel
theorem dX4_addRoom_64 : decode cX4_addRoom 64 = .ok (.getfield 19, 3) := by decide +kernel
theorem dX4_addRoom_67 : decode cX4_addRoom 67 = .ok (.getfield 70, 3) := by decide +kernel
theorem dX4_addRoom_70 : decode cX4_addRoom 70 = .ok (.istore 4, 2) := by decide +kernel
theorem dX4_addRoom_72 : decode cX4_addRoom 72 = .ok (.aload_n 0, 1) := by decide +kernel
theorem dX4_addRoom_73 : decode cX4_addRoom 73 = .ok (.getfield 19, 3) := by decide +kernel
theorem dX4_addRoom_76 : decode cX4_addRoom 76 = .ok (.getfield 76, 3) := by decide +kernel
theorem dX4_addRoom_79 : decode cX4_addRoom 79 = .ok (.iload 4, 2) := by decide +kernel
theorem dX4_addRoom_81 : decode cX4_addRoom 81 = .ok (.aaload, 1) := by decide +kernel
theorem dX4_addRoom_82 : decode cX4_addRoom 82 = .ok (.iload_n 1, 1) := by decide +kernel
theorem dX4_addRoom_83 : decode cX4_addRoom 83 = .ok (.iload_n 2, 1) := by decide +kernel
theorem dX4_addRoom_84 : decode cX4_addRoom 84 = .ok (.iload_n 3, 1) := by decide +kernel
theorem dX4_addRoom_85 : decode cX4_addRoom 85 = .ok (.invokevirtual 80, 3) := by decide +kernel
theorem dX4_addRoom_88 : decode cX4_addRoom 88 = .ok (.aload_n 0, 1) := by decide +kernel
theorem dX4_addRoom_89 : decode cX4_addRoom 89 = .ok (.getfield 19, 3) := by decide +kernel
theorem dX4_addRoom_92 : decode cX4_addRoom 92 = .ok (.dup, 1) := by decide +kernel
theorem dX4_addRoom_93 : decode cX4_addRoom 93 = .ok (.getfield 70, 3) := by decide +kernel
theorem dX4_addRoom_96 : decode cX4_addRoom 96 = .ok (.iconst 1, 1) := by decide +kernel
theorem dX4_addRoom_97 : decode cX4_addRoom 97 = .ok (.iadd, 1) := by decide +kernel
theorem dX4_addRoom_98 : decode cX4_addRoom 98 = .ok (.putfield 70, 3) := by decide +kernel
theorem dX4_addRoom_101 : decode cX4_addRoom 101 = .ok (.iload 4, 2) := by decide +kernel
theorem dX4_addRoom_103 : decode cX4_addRoom 103 = .ok (.ireturn, 1) := by decide +kernel
theorem dX4_bore_0 : decode cX4_bore 0 = .ok (.aload_n 0, 1) := by decide +kernel
theorem dX4_bore_1 : decode cX4_bore 1 = .ok (.iload_n 1, 1) := by decide +kernel
theorem dX4_bore_2 : decode cX4_bore 2 = .ok (.invokevirtual 86, 3) := by decide +kernel
theorem dX4_bore_5 : decode cX4_bore 5 = .ok (.iload_n 2, 1) := by decide +kernel
theorem dX4_bore_6 : decode cX4_bore 6 = .ok (.invokestatic 30, 3) := by decide +kernel
theorem dX4_bore_9 : decode cX4_bore 9 = .ok (.ifCond .ne 11, 3) := by decide +kernel
theorem dX4_bore_12 : decode cX4_bore 12 = .ok (.new 33, 3) := by decide +kernel
theorem dX4_bore_15 : decode cX4_bore 15 = .ok (.dup, 1) := by decide +kernel
theorem dX4_bore_16 : decode cX4_bore 16 = .ok (.invokespecial 35, 3) := by decide +kernel
theorem dX4_bore_19 : decode cX4_bore 19 = .ok (.athrow, 1) := by decide +kernel
theorem dX4_bore_20 : decode cX4_bore 20 = .ok (.aload_n 0, 1) := by decide +kernel
theorem dX4_bore_21 : decode cX4_bore 21 = .ok (.getfield 19, 3) := by decide +kernel
theorem dX4_bore_24 : decode cX4_bore 24 = .ok (.getfield 76, 3) := by decide +kernel
theorem dX4_bore_27 : decode cX4_bore 27 = .ok (.iload_n 1, 1) := by decide +kernel
theorem dX4_bore_28 : decode cX4_bore 28 = .ok (.aaload, 1) := by decide +kernel
theorem dX4_bore_29 : decode cX4_bore 29 = .ok (.getfield 90, 3) := by decide +kernel
theorem dX4_bore_32 : decode cX4_bore 32 = .ok (.istore_n 3, 1) := by decide +kernel
theorem dX4_bore_33 : decode cX4_bore 33 = .ok (.aload_n 0, 1) := by decide +kernel
theorem dX4_bore_34 : decode cX4_bore 34 = .ok (.getfield 19, 3) := by decide +kernel
theorem dX4_bore_37 : decode cX4_bore 37 = .ok (.getfield 76, 3) := by decide +kernel
theorem dX4_bore_40 : decode cX4_bore 40 = .ok (.iload_n 1, 1) := by decide +kernel
theorem dX4_bore_41 : decode cX4_bore 41 = .ok (.aaload, 1) := by decide +kernel
theorem dX4_bore_42 : decode cX4_bore 42 = .ok (.iload_n 2, 1) := by decide +kernel
theorem dX4_bore_43 : decode cX4_bore 43 = .ok (.putfield 90, 3) := by decide +kernel
theorem dX4_bore_46 : decode cX4_bore 46 = .ok (.iload_n 3, 1) := by decide +kernel
theorem dX4_bore_47 : decode cX4_bore 47 = .ok (.ireturn, 1) := by decide +kernel
theorem dX4_paint_0 : decode cX4_paint 0 = .ok (.aload_n 0, 1) := by decide +kernel
theorem dX4_paint_1 : decode cX4_paint 1 = .ok (.iload_n 1, 1) := by decide +kernel
theorem dX4_paint_2 : decode cX4_paint 2 = .ok (.invokevirtual 86, 3) := by decide +kernel
theorem dX4_paint_5 : decode cX4_paint 5 = .ok (.iload_n 2, 1) := by decide +kernel
theorem dX4_paint_6 : decode cX4_paint 6 = .ok (.invokestatic 56, 3) := by decide +kernel
theorem dX4_paint_9 : decode cX4_paint 9 = .ok (.ifCond .ne 11, 3) := by decide +kernel
theorem dX4_paint_12 : decode cX4_paint 12 = .ok (.new 33, 3) := by decide +kernel
theorem dX4_paint_15 : decode cX4_paint 15 = .ok (.dup, 1) := by decide +kernel
theorem dX4_paint_16 : decode cX4_paint 16 = .ok (.invokespecial 35, 3) := by decide +kernel
theorem dX4_paint_19 : decode cX4_paint 19 = .ok (.athrow, 1) := by decide +kernel
theorem dX4_paint_20 : decode cX4_paint 20 = .ok (.aload_n 0, 1) := by decide +kernel
theorem dX4_paint_21 : decode cX4_paint 21 = .ok (.getfield 19, 3) := by decide +kernel
theorem dX4_paint_24 : decode cX4_paint 24 = .ok (.getfield 76, 3) := by decide +kernel
theorem dX4_paint_27 : decode cX4_paint 27 = .ok (.iload_n 1, 1) := by decide +kernel
theorem dX4_paint_28 : decode cX4_paint 28 = .ok (.aaload, 1) := by decide +kernel
theorem dX4_paint_29 : decode cX4_paint 29 = .ok (.getfield 93, 3) := by decide +kernel
theorem dX4_paint_32 : decode cX4_paint 32 = .ok (.istore_n 3, 1) := by decide +kernel
theorem dX4_paint_33 : decode cX4_paint 33 = .ok (.aload_n 0, 1) := by decide +kernel
theorem dX4_paint_34 : decode cX4_paint 34 = .ok (.getfield 19, 3) := by decide +kernel
theorem dX4_paint_37 : decode cX4_paint 37 = .ok (.getfield 76, 3) := by decide +kernel
theorem dX4_paint_40 : decode cX4_paint 40 = .ok (.iload_n 1, 1) := by decide +kernel
theorem dX4_paint_41 : decode cX4_paint 41 = .ok (.aaload, 1) := by decide +kernel
theorem dX4_paint_42 : decode cX4_paint 42 = .ok (.iload_n 2, 1) := by decide +kernel
theorem dX4_paint_43 : decode cX4_paint 43 = .ok (.putfield 93, 3) := by decide +kernel
theorem dX4_paint_46 : decode cX4_paint 46 = .ok (.iload_n 3, 1) := by decide +kernel
theorem dX4_paint_47 : decode cX4_paint 47 = .ok (.ireturn, 1) := by decide +kernel
theorem dX4_seat_0 : decode cX4_seat 0 = .ok (.aload_n 0, 1) := by decide +kernel
theorem dX4_seat_1 : decode cX4_seat 1 = .ok (.iload_n 1, 1) := by decide +kernel
theorem dX4_seat_2 : decode cX4_seat 2 = .ok (.invokevirtual 86, 3) := by decide +kernel
theorem dX4_seat_5 : decode cX4_seat 5 = .ok (.iload_n 2, 1) := by decide +kernel
theorem dX4_seat_6 : decode cX4_seat 6 = .ok (.iconst 1, 1) := by decide +kernel
theorem dX4_seat_7 : decode cX4_seat 7 = .ok (.if_icmp .lt 9, 3) := by decide +kernel
theorem dX4_seat_10 : decode cX4_seat 10 = .ok (.iload_n 2, 1) := by decide +kernel
theorem dX4_seat_11 : decode cX4_seat 11 = .ok (.bipush 20, 2) := by decide +kernel
theorem dX4_seat_13 : decode cX4_seat 13 = .ok (.if_icmp .le 11, 3) := by decide +kernel
theorem dX4_seat_16 : decode cX4_seat 16 = .ok (.new 33, 3) := by decide +kernel
theorem dX4_seat_19 : decode cX4_seat 19 = .ok (.dup, 1) := by decide +kernel
theorem dX4_seat_20 : decode cX4_seat 20 = .ok (.invokespecial 35, 3) := by decide +kernel
theorem dX4_seat_23 : decode cX4_seat 23 = .ok (.athrow, 1) := by decide +kernel
theorem dX4_seat_24 : decode cX4_seat 24 = .ok (.aload_n 0, 1) := by decide +kernel
theorem dX4_seat_25 : decode cX4_seat 25 = .ok (.getfield 19, 3) := by decide +kernel
theorem dX4_seat_28 : decode cX4_seat 28 = .ok (.getfield 76, 3) := by decide +kernel
theorem dX4_seat_31 : decode cX4_seat 31 = .ok (.iload_n 1, 1) := by decide +kernel
theorem dX4_seat_32 : decode cX4_seat 32 = .ok (.aaload, 1) := by decide +kernel
theorem dX4_seat_33 : decode cX4_seat 33 = .ok (.astore_n 3, 1) := by decide +kernel
theorem dX4_seat_34 : decode cX4_seat 34 = .ok (.iload_n 2, 1) := by decide +kernel
theorem dX4_seat_35 : decode cX4_seat 35 = .ok (.aload_n 3, 1) := by decide +kernel
theorem dX4_seat_36 : decode cX4_seat 36 = .ok (.getfield 96, 3) := by decide +kernel
theorem dX4_seat_39 : decode cX4_seat 39 = .ok (.aload_n 3, 1) := by decide +kernel
theorem dX4_seat_40 : decode cX4_seat 40 = .ok (.getfield 99, 3) := by decide +kernel
theorem dX4_seat_43 : decode cX4_seat 43 = .ok (.isub, 1) := by decide +kernel
theorem dX4_seat_44 : decode cX4_seat 44 = .ok (.if_icmp .le 11, 3) := by decide +kernel
theorem dX4_seat_47 : decode cX4_seat 47 = .ok (.new 40, 3) := by decide +kernel
theorem dX4_seat_50 : decode cX4_seat 50 = .ok (.dup, 1) := by decide +kernel
theorem dX4_seat_51 : decode cX4_seat 51 = .ok (.invokespecial 42, 3) := by decide +kernel
theorem dX4_seat_54 : decode cX4_seat 54 = .ok (.athrow, 1) := by decide +kernel
theorem dX4_seat_55 : decode cX4_seat 55 = .ok (.aload_n 3, 1) := by decide +kernel
theorem dX4_seat_56 : decode cX4_seat 56 = .ok (.dup, 1) := by decide +kernel
theorem dX4_seat_57 : decode cX4_seat 57 = .ok (.getfield 99, 3) := by decide +kernel
theorem dX4_seat_60 : decode cX4_seat 60 = .ok (.iload_n 2, 1) := by decide +kernel
theorem dX4_seat_61 : decode cX4_seat 61 = .ok (.iadd, 1) := by decide +kernel
theorem dX4_seat_62 : decode cX4_seat 62 = .ok (.putfield 99, 3) := by decide +kernel
theorem dX4_seat_65 : decode cX4_seat 65 = .ok (.aload_n 3, 1) := by decide +kernel
theorem dX4_seat_66 : decode cX4_seat 66 = .ok (.getfield 99, 3) := by decide +kernel
theorem dX4_seat_69 : decode cX4_seat 69 = .ok (.ireturn, 1) := by decide +kernel
theorem dX4_passer_0 : decode cX4_passer 0 = .ok (.aload_n 0, 1) := by decide +kernel
theorem dX4_passer_1 : decode cX4_passer 1 = .ok (.iload_n 1, 1) := by decide +kernel
theorem dX4_passer_2 : decode cX4_passer 2 = .ok (.invokevirtual 102, 3) := by decide +kernel
theorem dX4_passer_5 : decode cX4_passer 5 = .ok (.iload_n 2, 1) := by decide +kernel
theorem dX4_passer_6 : decode cX4_passer 6 = .ok (.iconst 5, 1) := by decide +kernel
theorem dX4_passer_7 : decode cX4_passer 7 = .ok (.invokestatic 105, 3) := by decide +kernel
theorem dX4_passer_10 : decode cX4_passer 10 = .ok (.aload_n 0, 1) := by decide +kernel
theorem dX4_passer_11 : decode cX4_passer 11 = .ok (.iload_n 1, 1) := by decide +kernel
theorem dX4_passer_12 : decode cX4_passer 12 = .ok (.iload_n 2, 1) := by decide +kernel
theorem dX4_passer_13 : decode cX4_passer 13 = .ok (.invokevirtual 109, 3) := by decide +kernel
theorem dX4_passer_16 : decode cX4_passer 16 = .ok (.ireturn, 1) := by decide +kernel
theorem dX4_room_0 : decode cX4_room 0 = .ok (.aload_n 0, 1) := by decide +kernel
theorem dX4_room_1 : decode cX4_room 1 = .ok (.iload_n 1, 1) := by decide +kernel
theorem dX4_room_2 : decode cX4_room 2 = .ok (.invokevirtual 86, 3) := by decide +kernel
theorem dX4_room_5 : decode cX4_room 5 = .ok (.iload_n 2, 1) := by decide +kernel
theorem dX4_room_6 : decode cX4_room 6 = .ok (.bipush 8, 2) := by decide +kernel
theorem dX4_room_8 : decode cX4_room 8 = .ok (.invokestatic 105, 3) := by decide +kernel
theorem dX4_room_11 : decode cX4_room 11 = .ok (.aload_n 0, 1) := by decide +kernel
theorem dX4_room_12 : decode cX4_room 12 = .ok (.iload_n 1, 1) := by decide +kernel
theorem dX4_room_13 : decode cX4_room 13 = .ok (.iload_n 2, 1) := by decide +kernel
theorem dX4_room_14 : decode cX4_room 14 = .ok (.invokevirtual 113, 3) := by decide +kernel
theorem dX4_room_17 : decode cX4_room 17 = .ok (.ireturn, 1) := by decide +kernel
theorem dX4_wall_0 : decode cX4_wall 0 = .ok (.aload_n 0, 1) := by decide +kernel
theorem dX4_wall_1 : decode cX4_wall 1 = .ok (.iload_n 1, 1) := by decide +kernel
theorem dX4_wall_2 : decode cX4_wall 2 = .ok (.invokevirtual 86, 3) := by decide +kernel
theorem dX4_wall_5 : decode cX4_wall 5 = .ok (.aload_n 0, 1) := by decide +kernel
theorem dX4_wall_6 : decode cX4_wall 6 = .ok (.getfield 19, 3) := by decide +kernel
theorem dX4_wall_9 : decode cX4_wall 9 = .ok (.getfield 76, 3) := by decide +kernel
theorem dX4_wall_12 : decode cX4_wall 12 = .ok (.iload_n 1, 1) := by decide +kernel
theorem dX4_wall_13 : decode cX4_wall 13 = .ok (.aaload, 1) := by decide +kernel
theorem dX4_wall_14 : decode cX4_wall 14 = .ok (.astore_n 3, 1) := by decide +kernel
theorem dX4_wall_15 : decode cX4_wall 15 = .ok (.iload_n 2, 1) := by decide +kernel
theorem dX4_wall_16 : decode cX4_wall 16 = .ok (.aload_n 3, 1) := by decide +kernel
theorem dX4_wall_17 : decode cX4_wall 17 = .ok (.invokevirtual 116, 3) := by decide +kernel
theorem dX4_wall_20 : decode cX4_wall 20 = .ok (.ineg, 1) := by decide +kernel
theorem dX4_wall_21 : decode cX4_wall 21 = .ok (.if_icmp .lt 11, 3) := by decide +kernel
theorem dX4_wall_24 : decode cX4_wall 24 = .ok (.iload_n 2, 1) := by decide +kernel
theorem dX4_wall_25 : decode cX4_wall 25 = .ok (.aload_n 3, 1) := by decide +kernel
theorem dX4_wall_26 : decode cX4_wall 26 = .ok (.invokevirtual 116, 3) := by decide +kernel
theorem dX4_wall_29 : decode cX4_wall 29 = .ok (.if_icmp .le 11, 3) := by decide +kernel
theorem dX4_wall_32 : decode cX4_wall 32 = .ok (.new 53, 3) := by decide +kernel
theorem dX4_wall_35 : decode cX4_wall 35 = .ok (.dup, 1) := by decide +kernel
theorem dX4_wall_36 : decode cX4_wall 36 = .ok (.invokespecial 55, 3) := by decide +kernel
theorem dX4_wall_39 : decode cX4_wall 39 = .ok (.athrow, 1) := by decide +kernel
theorem dX4_wall_40 : decode cX4_wall 40 = .ok (.aload_n 0, 1) := by decide +kernel
theorem dX4_wall_41 : decode cX4_wall 41 = .ok (.getfield 19, 3) := by decide +kernel
theorem dX4_wall_44 : decode cX4_wall 44 = .ok (.aload_n 3, 1) := by decide +kernel
theorem dX4_wall_45 : decode cX4_wall 45 = .ok (.getfield 120, 3) := by decide +kernel
theorem dX4_wall_48 : decode cX4_wall 48 = .ok (.iload_n 2, 1) := by decide +kernel
theorem dX4_wall_49 : decode cX4_wall 49 = .ok (.isub, 1) := by decide +kernel
theorem dX4_wall_50 : decode cX4_wall 50 = .ok (.invokevirtual 123, 3) := by decide +kernel
theorem dX4_wall_53 : decode cX4_wall 53 = .ok (.ireturn, 1) := by decide +kernel
theorem dX4_bright_0 : decode cX4_bright 0 = .ok (.aload_n 0, 1) := by decide +kernel
theorem dX4_bright_1 : decode cX4_bright 1 = .ok (.iload_n 1, 1) := by decide +kernel
theorem dX4_bright_2 : decode cX4_bright 2 = .ok (.invokevirtual 86, 3) := by decide +kernel
theorem dX4_bright_5 : decode cX4_bright 5 = .ok (.aload_n 0, 1) := by decide +kernel
theorem dX4_bright_6 : decode cX4_bright 6 = .ok (.iload_n 2, 1) := by decide +kernel
theorem dX4_bright_7 : decode cX4_bright 7 = .ok (.invokevirtual 102, 3) := by decide +kernel
theorem dX4_bright_10 : decode cX4_bright 10 = .ok (.aload_n 0, 1) := by decide +kernel
theorem dX4_bright_11 : decode cX4_bright 11 = .ok (.getfield 19, 3) := by decide +kernel
theorem dX4_bright_14 : decode cX4_bright 14 = .ok (.getfield 76, 3) := by decide +kernel
theorem dX4_bright_17 : decode cX4_bright 17 = .ok (.iload_n 1, 1) := by decide +kernel
theorem dX4_bright_18 : decode cX4_bright 18 = .ok (.aaload, 1) := by decide +kernel
theorem dX4_bright_19 : decode cX4_bright 19 = .ok (.astore_n 3, 1) := by decide +kernel
theorem dX4_bright_20 : decode cX4_bright 20 = .ok (.aload_n 0, 1) := by decide +kernel
theorem dX4_bright_21 : decode cX4_bright 21 = .ok (.getfield 19, 3) := by decide +kernel
theorem dX4_bright_24 : decode cX4_bright 24 = .ok (.getfield 43, 3) := by decide +kernel
theorem dX4_bright_27 : decode cX4_bright 27 = .ok (.iload_n 2, 1) := by decide +kernel
theorem dX4_bright_28 : decode cX4_bright 28 = .ok (.aaload, 1) := by decide +kernel
theorem dX4_bright_29 : decode cX4_bright 29 = .ok (.astore 4, 2) := by decide +kernel
theorem dX4_bright_31 : decode cX4_bright 31 = .ok (.aload_n 3, 1) := by decide +kernel
theorem dX4_bright_32 : decode cX4_bright 32 = .ok (.aload 4, 2) := by decide +kernel
theorem dX4_bright_34 : decode cX4_bright 34 = .ok (.invokevirtual 126, 3) := by decide +kernel
theorem dX4_bright_37 : decode cX4_bright 37 = .ok (.ifCond .eq 16, 3) := by decide +kernel
theorem dX4_bright_40 : decode cX4_bright 40 = .ok (.aload_n 3, 1) := by decide +kernel
theorem dX4_bright_41 : decode cX4_bright 41 = .ok (.aload 4, 2) := by decide +kernel
theorem dX4_bright_43 : decode cX4_bright 43 = .ok (.aload_n 0, 1) := by decide +kernel
theorem dX4_bright_44 : decode cX4_bright 44 = .ok (.invokevirtual 130, 3) := by decide +kernel
theorem dX4_bright_47 : decode cX4_bright 47 = .ok (.invokevirtual 133, 3) := by decide +kernel
theorem dX4_bright_50 : decode cX4_bright 50 = .ok (.goto 4, 3) := by decide +kernel
theorem dX4_bright_53 : decode cX4_bright 53 = .ok (.iconst (-1), 1) := by decide +kernel
theorem dX4_bright_54 : decode cX4_bright 54 = .ok (.ireturn, 1) := by decide +kernel
theorem dX4_count_0 : decode cX4_count 0 = .ok (.iload_n 1, 1) := by decide +kernel
theorem dX4_count_1 : decode cX4_count 1 = .ok (.bipush 9, 2) := by decide +kernel
theorem dX4_count_3 : decode cX4_count 3 = .ok (.invokestatic 105, 3) := by decide +kernel
theorem dX4_count_6 : decode cX4_count 6 = .ok (.aload_n 0, 1) := by decide +kernel
theorem dX4_count_7 : decode cX4_count 7 = .ok (.iload_n 1, 1) := by decide +kernel
theorem dX4_count_8 : decode cX4_count 8 = .ok (.invokevirtual 137, 3) := by decide +kernel
theorem dX4_count_11 : decode cX4_count 11 = .ok (.ireturn, 1) := by decide +kernel
theorem dX4_go_0 : decode cX4_go 0 = .ok (.iload_n 1, 1) := by decide +kernel
theorem dX4_go_1 : decode cX4_go 1 = .ok (.sipush 720, 3) := by decide +kernel
theorem dX4_go_4 : decode cX4_go 4 = .ok (.invokestatic 140, 3) := by decide +kernel
theorem dX4_go_7 : decode cX4_go 7 = .ok (.aload_n 0, 1) := by decide +kernel
theorem dX4_go_8 : decode cX4_go 8 = .ok (.aload_n 0, 1) := by decide +kernel
theorem dX4_go_9 : decode cX4_go 9 = .ok (.getfield 19, 3) := by decide +kernel
theorem dX4_go_12 : decode cX4_go 12 = .ok (.iload_n 1, 1) := by decide +kernel
theorem dX4_go_13 : decode cX4_go 13 = .ok (.invokevirtual 143, 3) := by decide +kernel
theorem dX4_go_16 : decode cX4_go 16 = .ok (.ireturn, 1) := by decide +kernel
theorem dX4_when_0 : decode cX4_when 0 = .ok (.aload_n 0, 1) := by decide +kernel
theorem dX4_when_1 : decode cX4_when 1 = .ok (.iload_n 1, 1) := by decide +kernel
theorem dX4_when_2 : decode cX4_when 2 = .ok (.invokevirtual 86, 3) := by decide +kernel
theorem dX4_when_5 : decode cX4_when 5 = .ok (.aload_n 0, 1) := by decide +kernel
theorem dX4_when_6 : decode cX4_when 6 = .ok (.getfield 23, 3) := by decide +kernel
theorem dX4_when_9 : decode cX4_when 9 = .ok (.aload_n 0, 1) := by decide +kernel
theorem dX4_when_10 : decode cX4_when 10 = .ok (.getfield 19, 3) := by decide +kernel
theorem dX4_when_13 : decode cX4_when 13 = .ok (.invokevirtual 147, 3) := by decide +kernel
theorem dX4_when_16 : decode cX4_when 16 = .ok (.iconst 0, 1) := by decide +kernel
theorem dX4_when_17 : decode cX4_when 17 = .ok (.istore_n 2, 1) := by decide +kernel
theorem dX4_when_18 : decode cX4_when 18 = .ok (.iconst (-1), 1) := by decide +kernel
theorem dX4_when_19 : decode cX4_when 19 = .ok (.istore_n 3, 1) := by decide +kernel
theorem dX4_when_20 : decode cX4_when 20 = .ok (.aload_n 0, 1) := by decide +kernel
theorem dX4_when_21 : decode cX4_when 21 = .ok (.getfield 19, 3) := by decide +kernel
theorem dX4_when_24 : decode cX4_when 24 = .ok (.getfield 151, 3) := by decide +kernel
theorem dX4_when_27 : decode cX4_when 27 = .ok (.istore 4, 2) := by decide +kernel
theorem dX4_when_29 : decode cX4_when 29 = .ok (.iload 4, 2) := by decide +kernel
theorem dX4_when_31 : decode cX4_when 31 = .ok (.sipush 720, 3) := by decide +kernel
theorem dX4_when_34 : decode cX4_when 34 = .ok (.if_icmp .ge 55, 3) := by decide +kernel
theorem dX4_when_37 : decode cX4_when 37 = .ok (.aload_n 0, 1) := by decide +kernel
theorem dX4_when_38 : decode cX4_when 38 = .ok (.getfield 23, 3) := by decide +kernel
theorem dX4_when_41 : decode cX4_when 41 = .ok (.aload_n 0, 1) := by decide +kernel
theorem dX4_when_42 : decode cX4_when 42 = .ok (.getfield 23, 3) := by decide +kernel
theorem dX4_when_45 : decode cX4_when 45 = .ok (.getfield 76, 3) := by decide +kernel
theorem dX4_when_48 : decode cX4_when 48 = .ok (.iload_n 1, 1) := by decide +kernel
theorem dX4_when_49 : decode cX4_when 49 = .ok (.aaload, 1) := by decide +kernel
theorem dX4_when_50 : decode cX4_when 50 = .ok (.aload_n 0, 1) := by decide +kernel
theorem dX4_when_51 : decode cX4_when 51 = .ok (.getfield 12, 3) := by decide +kernel
theorem dX4_when_54 : decode cX4_when 54 = .ok (.iload 4, 2) := by decide +kernel
theorem dX4_when_56 : decode cX4_when 56 = .ok (.invokevirtual 154, 3) := by decide +kernel
theorem dX4_when_59 : decode cX4_when 59 = .ok (.invokevirtual 157, 3) := by decide +kernel
theorem dX4_when_62 : decode cX4_when 62 = .ok (.istore 5, 2) := by decide +kernel
theorem dX4_when_64 : decode cX4_when 64 = .ok (.iload 5, 2) := by decide +kernel
theorem dX4_when_66 : decode cX4_when 66 = .ok (.iload_n 2, 1) := by decide +kernel
theorem dX4_when_67 : decode cX4_when 67 = .ok (.if_icmp .le 9, 3) := by decide +kernel
theorem dX4_when_70 : decode cX4_when 70 = .ok (.iload 5, 2) := by decide +kernel
theorem dX4_when_72 : decode cX4_when 72 = .ok (.istore_n 2, 1) := by decide +kernel
theorem dX4_when_73 : decode cX4_when 73 = .ok (.iload 4, 2) := by decide +kernel
theorem dX4_when_75 : decode cX4_when 75 = .ok (.istore_n 3, 1) := by decide +kernel
theorem dX4_when_76 : decode cX4_when 76 = .ok (.aload_n 0, 1) := by decide +kernel
theorem dX4_when_77 : decode cX4_when 77 = .ok (.getfield 23, 3) := by decide +kernel
theorem dX4_when_80 : decode cX4_when 80 = .ok (.invokevirtual 161, 3) := by decide +kernel
theorem dX4_when_83 : decode cX4_when 83 = .ok (.iinc 4 1, 3) := by decide +kernel
theorem dX4_when_86 : decode cX4_when 86 = .ok (.goto (-57), 3) := by decide +kernel
theorem dX4_when_89 : decode cX4_when 89 = .ok (.iload_n 3, 1) := by decide +kernel
theorem dX4_when_90 : decode cX4_when 90 = .ok (.ireturn, 1) := by decide +kernel
theorem dX4_advise_0 : decode cX4_advise 0 = .ok (.aload_n 0, 1) := by decide +kernel
theorem dX4_advise_1 : decode cX4_advise 1 = .ok (.iload_n 1, 1) := by decide +kernel
theorem dX4_advise_2 : decode cX4_advise 2 = .ok (.invokevirtual 86, 3) := by decide +kernel
theorem dX4_advise_5 : decode cX4_advise 5 = .ok (.iload_n 2, 1) := by decide +kernel
theorem dX4_advise_6 : decode cX4_advise 6 = .ok (.sipush 200, 3) := by decide +kernel
theorem dX4_advise_9 : decode cX4_advise 9 = .ok (.invokestatic 140, 3) := by decide +kernel
theorem dX4_advise_12 : decode cX4_advise 12 = .ok (.iconst (-1), 1) := by decide +kernel
theorem dX4_advise_13 : decode cX4_advise 13 = .ok (.istore_n 3, 1) := by decide +kernel
theorem dX4_advise_14 : decode cX4_advise 14 = .ok (.iconst 1, 1) := by decide +kernel
theorem dX4_advise_15 : decode cX4_advise 15 = .ok (.istore 4, 2) := by decide +kernel
theorem dX4_advise_17 : decode cX4_advise 17 = .ok (.iconst 1, 1) := by decide +kernel
theorem dX4_advise_18 : decode cX4_advise 18 = .ok (.istore 5, 2) := by decide +kernel
theorem dX4_advise_20 : decode cX4_advise 20 = .ok (.iload 5, 2) := by decide +kernel
theorem dX4_advise_22 : decode cX4_advise 22 = .ok (.bipush 9, 2) := by decide +kernel
theorem dX4_advise_24 : decode cX4_advise 24 = .ok (.if_icmp .gt 32, 3) := by decide +kernel
theorem dX4_advise_27 : decode cX4_advise 27 = .ok (.aload_n 0, 1) := by decide +kernel
theorem dX4_advise_28 : decode cX4_advise 28 = .ok (.iload_n 1, 1) := by decide +kernel
theorem dX4_advise_29 : decode cX4_advise 29 = .ok (.iload 5, 2) := by decide +kernel
theorem dX4_advise_31 : decode cX4_advise 31 = .ok (.iload_n 2, 1) := by decide +kernel
theorem dX4_advise_32 : decode cX4_advise 32 = .ok (.invokevirtual 164, 3) := by decide +kernel
theorem dX4_advise_35 : decode cX4_advise 35 = .ok (.istore 6, 2) := by decide +kernel
theorem dX4_advise_37 : decode cX4_advise 37 = .ok (.iload 6, 2) := by decide +kernel
theorem dX4_advise_39 : decode cX4_advise 39 = .ok (.iload_n 3, 1) := by decide +kernel
theorem dX4_advise_40 : decode cX4_advise 40 = .ok (.if_icmp .le 10, 3) := by decide +kernel
theorem dX4_advise_43 : decode cX4_advise 43 = .ok (.iload 6, 2) := by decide +kernel
theorem dX4_advise_45 : decode cX4_advise 45 = .ok (.istore_n 3, 1) := by decide +kernel
theorem dX4_advise_46 : decode cX4_advise 46 = .ok (.iload 5, 2) := by decide +kernel
theorem dX4_advise_48 : decode cX4_advise 48 = .ok (.istore 4, 2) := by decide +kernel
theorem dX4_advise_50 : decode cX4_advise 50 = .ok (.iinc 5 1, 3) := by decide +kernel
theorem dX4_advise_53 : decode cX4_advise 53 = .ok (.goto (-33), 3) := by decide +kernel
theorem dX4_advise_56 : decode cX4_advise 56 = .ok (.iload 4, 2) := by decide +kernel
theorem dX4_advise_58 : decode cX4_advise 58 = .ok (.ireturn, 1) := by decide +kernel
theorem dX4_seen_0 : decode cX4_seen 0 = .ok (.aload_n 0, 1) := by decide +kernel
theorem dX4_seen_1 : decode cX4_seen 1 = .ok (.iload_n 1, 1) := by decide +kernel
theorem dX4_seen_2 : decode cX4_seen 2 = .ok (.invokevirtual 102, 3) := by decide +kernel
theorem dX4_seen_5 : decode cX4_seen 5 = .ok (.aload_n 0, 1) := by decide +kernel
theorem dX4_seen_6 : decode cX4_seen 6 = .ok (.getfield 23, 3) := by decide +kernel
theorem dX4_seen_9 : decode cX4_seen 9 = .ok (.getfield 43, 3) := by decide +kernel
theorem dX4_seen_12 : decode cX4_seen 12 = .ok (.iload_n 1, 1) := by decide +kernel
theorem dX4_seen_13 : decode cX4_seen 13 = .ok (.aaload, 1) := by decide +kernel
theorem dX4_seen_14 : decode cX4_seen 14 = .ok (.astore_n 2, 1) := by decide +kernel
theorem dX4_seen_15 : decode cX4_seen 15 = .ok (.aload_n 2, 1) := by decide +kernel
theorem dX4_seen_16 : decode cX4_seen 16 = .ok (.aload_n 0, 1) := by decide +kernel
theorem dX4_seen_17 : decode cX4_seen 17 = .ok (.getfield 19, 3) := by decide +kernel
theorem dX4_seen_20 : decode cX4_seen 20 = .ok (.getfield 43, 3) := by decide +kernel
theorem dX4_seen_23 : decode cX4_seen 23 = .ok (.iload_n 1, 1) := by decide +kernel
theorem dX4_seen_24 : decode cX4_seen 24 = .ok (.aaload, 1) := by decide +kernel
theorem dX4_seen_25 : decode cX4_seen 25 = .ok (.invokevirtual 168, 3) := by decide +kernel
theorem dX4_seen_28 : decode cX4_seen 28 = .ok (.aload_n 0, 1) := by decide +kernel
theorem dX4_seen_29 : decode cX4_seen 29 = .ok (.getfield 19, 3) := by decide +kernel
theorem dX4_seen_32 : decode cX4_seen 32 = .ok (.aload_n 2, 1) := by decide +kernel
theorem dX4_seen_33 : decode cX4_seen 33 = .ok (.invokevirtual 171, 3) := by decide +kernel
theorem dX4_seen_36 : decode cX4_seen 36 = .ok (.istore_n 3, 1) := by decide +kernel
theorem dX4_seen_37 : decode cX4_seen 37 = .ok (.aload_n 0, 1) := by decide +kernel
theorem dX4_seen_38 : decode cX4_seen 38 = .ok (.getfield 19, 3) := by decide +kernel
theorem dX4_seen_41 : decode cX4_seen 41 = .ok (.getfield 151, 3) := by decide +kernel
theorem dX4_seen_44 : decode cX4_seen 44 = .ok (.iconst 1, 1) := by decide +kernel
theorem dX4_seen_45 : decode cX4_seen 45 = .ok (.iadd, 1) := by decide +kernel
theorem dX4_seen_46 : decode cX4_seen 46 = .ok (.istore 4, 2) := by decide +kernel
theorem dX4_seen_48 : decode cX4_seen 48 = .ok (.iload 4, 2) := by decide +kernel
theorem dX4_seen_50 : decode cX4_seen 50 = .ok (.sipush 720, 3) := by decide +kernel
theorem dX4_seen_53 : decode cX4_seen 53 = .ok (.if_icmp .ge 24, 3) := by decide +kernel
theorem dX4_seen_56 : decode cX4_seen 56 = .ok (.aload_n 2, 1) := by decide +kernel
theorem dX4_seen_57 : decode cX4_seen 57 = .ok (.invokevirtual 175, 3) := by decide +kernel
theorem dX4_seen_60 : decode cX4_seen 60 = .ok (.iload_n 3, 1) := by decide +kernel
theorem dX4_seen_61 : decode cX4_seen 61 = .ok (.aload_n 0, 1) := by decide +kernel
theorem dX4_seen_62 : decode cX4_seen 62 = .ok (.getfield 19, 3) := by decide +kernel
theorem dX4_seen_65 : decode cX4_seen 65 = .ok (.aload_n 2, 1) := by decide +kernel
theorem dX4_seen_66 : decode cX4_seen 66 = .ok (.invokevirtual 171, 3) := by decide +kernel
theorem dX4_seen_69 : decode cX4_seen 69 = .ok (.ior, 1) := by decide +kernel
theorem dX4_seen_70 : decode cX4_seen 70 = .ok (.istore_n 3, 1) := by decide +kernel
theorem dX4_seen_71 : decode cX4_seen 71 = .ok (.iinc 4 1, 3) := by decide +kernel
theorem dX4_seen_74 : decode cX4_seen 74 = .ok (.goto (-26), 3) := by decide +kernel
theorem dX4_seen_77 : decode cX4_seen 77 = .ok (.iload_n 3, 1) := by decide +kernel
theorem dX4_seen_78 : decode cX4_seen 78 = .ok (.ireturn, 1) := by decide +kernel
theorem dX4_foresee_0 : decode cX4_foresee 0 = .ok (.iload_n 1, 1) := by decide +kernel
theorem dX4_foresee_1 : decode cX4_foresee 1 = .ok (.sipush 720, 3) := by decide +kernel
theorem dX4_foresee_4 : decode cX4_foresee 4 = .ok (.invokestatic 140, 3) := by decide +kernel
theorem dX4_foresee_7 : decode cX4_foresee 7 = .ok (.iload_n 2, 1) := by decide +kernel
theorem dX4_foresee_8 : decode cX4_foresee 8 = .ok (.iconst 3, 1) := by decide +kernel
theorem dX4_foresee_9 : decode cX4_foresee 9 = .ok (.invokestatic 105, 3) := by decide +kernel
theorem dX4_foresee_12 : decode cX4_foresee 12 = .ok (.aload_n 0, 1) := by decide +kernel
theorem dX4_foresee_13 : decode cX4_foresee 13 = .ok (.getfield 23, 3) := by decide +kernel
theorem dX4_foresee_16 : decode cX4_foresee 16 = .ok (.aload_n 0, 1) := by decide +kernel
theorem dX4_foresee_17 : decode cX4_foresee 17 = .ok (.getfield 19, 3) := by decide +kernel
theorem dX4_foresee_20 : decode cX4_foresee 20 = .ok (.invokevirtual 147, 3) := by decide +kernel
theorem dX4_foresee_23 : decode cX4_foresee 23 = .ok (.aload_n 0, 1) := by decide +kernel
theorem dX4_foresee_24 : decode cX4_foresee 24 = .ok (.aload_n 0, 1) := by decide +kernel
theorem dX4_foresee_25 : decode cX4_foresee 25 = .ok (.getfield 23, 3) := by decide +kernel
theorem dX4_foresee_28 : decode cX4_foresee 28 = .ok (.iload_n 1, 1) := by decide +kernel
theorem dX4_foresee_29 : decode cX4_foresee 29 = .ok (.invokevirtual 143, 3) := by decide +kernel
theorem dX4_foresee_32 : decode cX4_foresee 32 = .ok (.istore_n 3, 1) := by decide +kernel
theorem dX4_foresee_33 : decode cX4_foresee 33 = .ok (.iload_n 2, 1) := by decide +kernel
theorem dX4_foresee_34 : decode cX4_foresee 34 = .ok (.ifCond .ne 5, 3) := by decide +kernel
theorem dX4_foresee_37 : decode cX4_foresee 37 = .ok (.iload_n 3, 1) := by decide +kernel
theorem dX4_foresee_38 : decode cX4_foresee 38 = .ok (.ireturn, 1) := by decide +kernel
theorem dX4_foresee_39 : decode cX4_foresee 39 = .ok (.iload_n 2, 1) := by decide +kernel
theorem dX4_foresee_40 : decode cX4_foresee 40 = .ok (.iconst 1, 1) := by decide +kernel
theorem dX4_foresee_41 : decode cX4_foresee 41 = .ok (.if_icmp .ne 13, 3) := by decide +kernel
theorem dX4_foresee_44 : decode cX4_foresee 44 = .ok (.aload_n 0, 1) := by decide +kernel
theorem dX4_foresee_45 : decode cX4_foresee 45 = .ok (.getfield 23, 3) := by decide +kernel
theorem dX4_foresee_48 : decode cX4_foresee 48 = .ok (.invokevirtual 178, 3) := by decide +kernel
theorem dX4_foresee_51 : decode cX4_foresee 51 = .ok (.goto 18, 3) := by decide +kernel
theorem dX4_foresee_54 : decode cX4_foresee 54 = .ok (.aload_n 0, 1) := by decide +kernel
theorem dX4_foresee_55 : decode cX4_foresee 55 = .ok (.getfield 23, 3) := by decide +kernel
theorem dX4_foresee_58 : decode cX4_foresee 58 = .ok (.getfield 36, 3) := by decide +kernel
theorem dX4_foresee_61 : decode cX4_foresee 61 = .ok (.aload_n 0, 1) := by decide +kernel
theorem dX4_foresee_62 : decode cX4_foresee 62 = .ok (.getfield 23, 3) := by decide +kernel
theorem dX4_foresee_65 : decode cX4_foresee 65 = .ok (.invokevirtual 181, 3) := by decide +kernel
theorem dX4_foresee_68 : decode cX4_foresee 68 = .ok (.isub, 1) := by decide +kernel
theorem dX4_foresee_69 : decode cX4_foresee 69 = .ok (.ireturn, 1) := by decide +kernel
theorem dX4_mean_0 : decode cX4_mean 0 = .ok (.aload_n 0, 1) := by decide +kernel
theorem dX4_mean_1 : decode cX4_mean 1 = .ok (.getfield 19, 3) := by decide +kernel
theorem dX4_mean_4 : decode cX4_mean 4 = .ok (.getfield 151, 3) := by decide +kernel
theorem dX4_mean_7 : decode cX4_mean 7 = .ok (.ifCond .ne 5, 3) := by decide +kernel
theorem dX4_mean_10 : decode cX4_mean 10 = .ok (.dconst 0, 1) := by decide +kernel
theorem dX4_mean_11 : decode cX4_mean 11 = .ok (.dreturn, 1) := by decide +kernel
theorem dX4_mean_12 : decode cX4_mean 12 = .ok (.aload_n 0, 1) := by decide +kernel
theorem dX4_mean_13 : decode cX4_mean 13 = .ok (.getfield 19, 3) := by decide +kernel
theorem dX4_mean_16 : decode cX4_mean 16 = .ok (.invokevirtual 184, 3) := by decide +kernel
theorem dX4_mean_19 : decode cX4_mean 19 = .ok (.i2d, 1) := by decide +kernel
theorem dX4_mean_20 : decode cX4_mean 20 = .ok (.aload_n 0, 1) := by decide +kernel
theorem dX4_mean_21 : decode cX4_mean 21 = .ok (.getfield 19, 3) := by decide +kernel
theorem dX4_mean_24 : decode cX4_mean 24 = .ok (.getfield 151, 3) := by decide +kernel
theorem dX4_mean_27 : decode cX4_mean 27 = .ok (.i2d, 1) := by decide +kernel
theorem dX4_mean_28 : decode cX4_mean 28 = .ok (.ddiv, 1) := by decide +kernel
theorem dX4_mean_29 : decode cX4_mean 29 = .ok (.dreturn, 1) := by decide +kernel
theorem dX4_digest_0 : decode cX4_digest 0 = .ok (.ldc2_w 187, 3) := by decide +kernel
theorem dX4_digest_3 : decode cX4_digest 3 = .ok (.lstore_n 1, 1) := by decide +kernel
theorem dX4_digest_4 : decode cX4_digest 4 = .ok (.iconst 0, 1) := by decide +kernel
theorem dX4_digest_5 : decode cX4_digest 5 = .ok (.istore_n 3, 1) := by decide +kernel
theorem dX4_digest_6 : decode cX4_digest 6 = .ok (.iload_n 3, 1) := by decide +kernel
theorem dX4_digest_7 : decode cX4_digest 7 = .ok (.bipush 9, 2) := by decide +kernel
theorem dX4_digest_9 : decode cX4_digest 9 = .ok (.if_icmp .ge 22, 3) := by decide +kernel
theorem dX4_digest_12 : decode cX4_digest 12 = .ok (.lload_n 1, 1) := by decide +kernel
theorem dX4_digest_13 : decode cX4_digest 13 = .ok (.ldc2_w 189, 3) := by decide +kernel
theorem dX4_digest_16 : decode cX4_digest 16 = .ok (.lmul, 1) := by decide +kernel
theorem dX4_digest_17 : decode cX4_digest 17 = .ok (.aload_n 0, 1) := by decide +kernel
theorem dX4_digest_18 : decode cX4_digest 18 = .ok (.iload_n 3, 1) := by decide +kernel
theorem dX4_digest_19 : decode cX4_digest 19 = .ok (.invokevirtual 137, 3) := by decide +kernel
theorem dX4_digest_22 : decode cX4_digest 22 = .ok (.i2l, 1) := by decide +kernel
theorem dX4_digest_23 : decode cX4_digest 23 = .ok (.ladd, 1) := by decide +kernel
theorem dX4_digest_24 : decode cX4_digest 24 = .ok (.lstore_n 1, 1) := by decide +kernel
theorem dX4_digest_25 : decode cX4_digest 25 = .ok (.iinc 3 1, 3) := by decide +kernel
theorem dX4_digest_28 : decode cX4_digest 28 = .ok (.goto (-22), 3) := by decide +kernel
theorem dX4_digest_31 : decode cX4_digest 31 = .ok (.iconst 0, 1) := by decide +kernel
theorem dX4_digest_32 : decode cX4_digest 32 = .ok (.istore_n 3, 1) := by decide +kernel
theorem dX4_digest_33 : decode cX4_digest 33 = .ok (.iload_n 3, 1) := by decide +kernel
theorem dX4_digest_34 : decode cX4_digest 34 = .ok (.bipush 12, 2) := by decide +kernel
theorem dX4_digest_36 : decode cX4_digest 36 = .ok (.if_icmp .ge 25, 3) := by decide +kernel
theorem dX4_digest_39 : decode cX4_digest 39 = .ok (.lload_n 1, 1) := by decide +kernel
theorem dX4_digest_40 : decode cX4_digest 40 = .ok (.ldc2_w 189, 3) := by decide +kernel
theorem dX4_digest_43 : decode cX4_digest 43 = .ok (.lmul, 1) := by decide +kernel
theorem dX4_digest_44 : decode cX4_digest 44 = .ok (.aload_n 0, 1) := by decide +kernel
theorem dX4_digest_45 : decode cX4_digest 45 = .ok (.getfield 12, 3) := by decide +kernel
theorem dX4_digest_48 : decode cX4_digest 48 = .ok (.iload_n 3, 1) := by decide +kernel
theorem dX4_digest_49 : decode cX4_digest 49 = .ok (.invokevirtual 59, 3) := by decide +kernel
theorem dX4_digest_52 : decode cX4_digest 52 = .ok (.i2l, 1) := by decide +kernel
theorem dX4_digest_53 : decode cX4_digest 53 = .ok (.ladd, 1) := by decide +kernel
theorem dX4_digest_54 : decode cX4_digest 54 = .ok (.lstore_n 1, 1) := by decide +kernel
theorem dX4_digest_55 : decode cX4_digest 55 = .ok (.iinc 3 1, 3) := by decide +kernel
theorem dX4_digest_58 : decode cX4_digest 58 = .ok (.goto (-25), 3) := by decide +kernel
theorem dX4_digest_61 : decode cX4_digest 61 = .ok (.iconst 0, 1) := by decide +kernel
theorem dX4_digest_62 : decode cX4_digest 62 = .ok (.istore_n 3, 1) := by decide +kernel
theorem dX4_digest_63 : decode cX4_digest 63 = .ok (.iload_n 3, 1) := by decide +kernel
theorem dX4_digest_64 : decode cX4_digest 64 = .ok (.aload_n 0, 1) := by decide +kernel
theorem dX4_digest_65 : decode cX4_digest 65 = .ok (.getfield 19, 3) := by decide +kernel
theorem dX4_digest_68 : decode cX4_digest 68 = .ok (.getfield 36, 3) := by decide +kernel
theorem dX4_digest_71 : decode cX4_digest 71 = .ok (.if_icmp .ge 39, 3) := by decide +kernel
theorem dX4_digest_74 : decode cX4_digest 74 = .ok (.iconst 0, 1) := by decide +kernel
theorem dX4_digest_75 : decode cX4_digest 75 = .ok (.istore 4, 2) := by decide +kernel
theorem dX4_digest_77 : decode cX4_digest 77 = .ok (.iload 4, 2) := by decide +kernel
theorem dX4_digest_79 : decode cX4_digest 79 = .ok (.iconst 5, 1) := by decide +kernel
theorem dX4_digest_80 : decode cX4_digest 80 = .ok (.if_icmp .ge 24, 3) := by decide +kernel
theorem dX4_digest_83 : decode cX4_digest 83 = .ok (.lload_n 1, 1) := by decide +kernel
theorem dX4_digest_84 : decode cX4_digest 84 = .ok (.ldc2_w 189, 3) := by decide +kernel
theorem dX4_digest_87 : decode cX4_digest 87 = .ok (.lmul, 1) := by decide +kernel
theorem dX4_digest_88 : decode cX4_digest 88 = .ok (.aload_n 0, 1) := by decide +kernel
theorem dX4_digest_89 : decode cX4_digest 89 = .ok (.iload_n 3, 1) := by decide +kernel
theorem dX4_digest_90 : decode cX4_digest 90 = .ok (.iload 4, 2) := by decide +kernel
theorem dX4_digest_92 : decode cX4_digest 92 = .ok (.invokevirtual 109, 3) := by decide +kernel
theorem dX4_digest_95 : decode cX4_digest 95 = .ok (.i2l, 1) := by decide +kernel
theorem dX4_digest_96 : decode cX4_digest 96 = .ok (.ladd, 1) := by decide +kernel
theorem dX4_digest_97 : decode cX4_digest 97 = .ok (.lstore_n 1, 1) := by decide +kernel
theorem dX4_digest_98 : decode cX4_digest 98 = .ok (.iinc 4 1, 3) := by decide +kernel
theorem dX4_digest_101 : decode cX4_digest 101 = .ok (.goto (-24), 3) := by decide +kernel
theorem dX4_digest_104 : decode cX4_digest 104 = .ok (.iinc 3 1, 3) := by decide +kernel
theorem dX4_digest_107 : decode cX4_digest 107 = .ok (.goto (-44), 3) := by decide +kernel
theorem dX4_digest_110 : decode cX4_digest 110 = .ok (.iconst 0, 1) := by decide +kernel
theorem dX4_digest_111 : decode cX4_digest 111 = .ok (.istore_n 3, 1) := by decide +kernel
theorem dX4_digest_112 : decode cX4_digest 112 = .ok (.iload_n 3, 1) := by decide +kernel
theorem dX4_digest_113 : decode cX4_digest 113 = .ok (.aload_n 0, 1) := by decide +kernel
theorem dX4_digest_114 : decode cX4_digest 114 = .ok (.getfield 19, 3) := by decide +kernel
theorem dX4_digest_117 : decode cX4_digest 117 = .ok (.getfield 70, 3) := by decide +kernel
theorem dX4_digest_120 : decode cX4_digest 120 = .ok (.if_icmp .ge 40, 3) := by decide +kernel
theorem dX4_digest_123 : decode cX4_digest 123 = .ok (.iconst 0, 1) := by decide +kernel
theorem dX4_digest_124 : decode cX4_digest 124 = .ok (.istore 4, 2) := by decide +kernel
theorem dX4_digest_126 : decode cX4_digest 126 = .ok (.iload 4, 2) := by decide +kernel
theorem dX4_digest_128 : decode cX4_digest 128 = .ok (.bipush 8, 2) := by decide +kernel
theorem dX4_digest_130 : decode cX4_digest 130 = .ok (.if_icmp .ge 24, 3) := by decide +kernel
theorem dX4_digest_133 : decode cX4_digest 133 = .ok (.lload_n 1, 1) := by decide +kernel
theorem dX4_digest_134 : decode cX4_digest 134 = .ok (.ldc2_w 189, 3) := by decide +kernel
theorem dX4_digest_137 : decode cX4_digest 137 = .ok (.lmul, 1) := by decide +kernel
theorem dX4_digest_138 : decode cX4_digest 138 = .ok (.aload_n 0, 1) := by decide +kernel
theorem dX4_digest_139 : decode cX4_digest 139 = .ok (.iload_n 3, 1) := by decide +kernel
theorem dX4_digest_140 : decode cX4_digest 140 = .ok (.iload 4, 2) := by decide +kernel
theorem dX4_digest_142 : decode cX4_digest 142 = .ok (.invokevirtual 113, 3) := by decide +kernel
theorem dX4_digest_145 : decode cX4_digest 145 = .ok (.i2l, 1) := by decide +kernel
theorem dX4_digest_146 : decode cX4_digest 146 = .ok (.ladd, 1) := by decide +kernel
theorem dX4_digest_147 : decode cX4_digest 147 = .ok (.lstore_n 1, 1) := by decide +kernel
theorem dX4_digest_148 : decode cX4_digest 148 = .ok (.iinc 4 1, 3) := by decide +kernel
theorem dX4_digest_151 : decode cX4_digest 151 = .ok (.goto (-25), 3) := by decide +kernel
theorem dX4_digest_154 : decode cX4_digest 154 = .ok (.iinc 3 1, 3) := by decide +kernel
theorem dX4_digest_157 : decode cX4_digest 157 = .ok (.goto (-45), 3) := by decide +kernel
theorem dX4_digest_160 : decode cX4_digest 160 = .ok (.lload_n 1, 1) := by decide +kernel
theorem dX4_digest_161 : decode cX4_digest 161 = .ok (.lreturn, 1) := by decide +kernel
theorem dX4_isStep_0 : decode cX4_isStep 0 = .ok (.iload_n 0, 1) := by decide +kernel
theorem dX4_isStep_1 : decode cX4_isStep 1 = .ok (.ifCond .lt 13, 3) := by decide +kernel
theorem dX4_isStep_4 : decode cX4_isStep 4 = .ok (.iload_n 0, 1) := by decide +kernel
theorem dX4_isStep_5 : decode cX4_isStep 5 = .ok (.bipush 60, 2) := by decide +kernel
theorem dX4_isStep_7 : decode cX4_isStep 7 = .ok (.if_icmp .ge 7, 3) := by decide +kernel
theorem dX4_isStep_10 : decode cX4_isStep 10 = .ok (.iconst 1, 1) := by decide +kernel
theorem dX4_isStep_11 : decode cX4_isStep 11 = .ok (.goto 4, 3) := by decide +kernel
theorem dX4_isStep_14 : decode cX4_isStep 14 = .ok (.iconst 0, 1) := by decide +kernel
theorem dX4_isStep_15 : decode cX4_isStep 15 = .ok (.ireturn, 1) := by decide +kernel
theorem dX4_isOneToNine_0 : decode cX4_isOneToNine 0 = .ok (.iload_n 0, 1) := by decide +kernel
theorem dX4_isOneToNine_1 : decode cX4_isOneToNine 1 = .ok (.iconst 1, 1) := by decide +kernel
theorem dX4_isOneToNine_2 : decode cX4_isOneToNine 2 = .ok (.if_icmp .lt 13, 3) := by decide +kernel
theorem dX4_isOneToNine_5 : decode cX4_isOneToNine 5 = .ok (.iload_n 0, 1) := by decide +kernel
theorem dX4_isOneToNine_6 : decode cX4_isOneToNine 6 = .ok (.bipush 9, 2) := by decide +kernel
theorem dX4_isOneToNine_8 : decode cX4_isOneToNine 8 = .ok (.if_icmp .gt 7, 3) := by decide +kernel
theorem dX4_isOneToNine_11 : decode cX4_isOneToNine 11 = .ok (.iconst 1, 1) := by decide +kernel
theorem dX4_isOneToNine_12 : decode cX4_isOneToNine 12 = .ok (.goto 4, 3) := by decide +kernel
theorem dX4_isOneToNine_15 : decode cX4_isOneToNine 15 = .ok (.iconst 0, 1) := by decide +kernel
theorem dX4_isOneToNine_16 : decode cX4_isOneToNine 16 = .ok (.ireturn, 1) := by decide +kernel
theorem dX4_isZeroToNine_0 : decode cX4_isZeroToNine 0 = .ok (.iload_n 0, 1) := by decide +kernel
theorem dX4_isZeroToNine_1 : decode cX4_isZeroToNine 1 = .ok (.ifCond .lt 13, 3) := by decide +kernel
theorem dX4_isZeroToNine_4 : decode cX4_isZeroToNine 4 = .ok (.iload_n 0, 1) := by decide +kernel
theorem dX4_isZeroToNine_5 : decode cX4_isZeroToNine 5 = .ok (.bipush 9, 2) := by decide +kernel
theorem dX4_isZeroToNine_7 : decode cX4_isZeroToNine 7 = .ok (.if_icmp .gt 7, 3) := by decide +kernel
theorem dX4_isZeroToNine_10 : decode cX4_isZeroToNine 10 = .ok (.iconst 1, 1) := by decide +kernel
theorem dX4_isZeroToNine_11 : decode cX4_isZeroToNine 11 = .ok (.goto 4, 3) := by decide +kernel
theorem dX4_isZeroToNine_14 : decode cX4_isZeroToNine 14 = .ok (.iconst 0, 1) := by decide +kernel
theorem dX4_isZeroToNine_15 : decode cX4_isZeroToNine 15 = .ok (.ireturn, 1) := by decide +kernel
theorem dX4_needPasser_0 : decode cX4_needPasser 0 = .ok (.iload_n 1, 1) := by decide +kernel
theorem dX4_needPasser_1 : decode cX4_needPasser 1 = .ok (.aload_n 0, 1) := by decide +kernel
theorem dX4_needPasser_2 : decode cX4_needPasser 2 = .ok (.getfield 19, 3) := by decide +kernel
theorem dX4_needPasser_5 : decode cX4_needPasser 5 = .ok (.getfield 36, 3) := by decide +kernel
theorem dX4_needPasser_8 : decode cX4_needPasser 8 = .ok (.invokestatic 105, 3) := by decide +kernel
theorem dX4_needPasser_11 : decode cX4_needPasser 11 = .ok (.return_, 1) := by decide +kernel
theorem dX4_needRoom_0 : decode cX4_needRoom 0 = .ok (.iload_n 1, 1) := by decide +kernel
theorem dX4_needRoom_1 : decode cX4_needRoom 1 = .ok (.aload_n 0, 1) := by decide +kernel
theorem dX4_needRoom_2 : decode cX4_needRoom 2 = .ok (.getfield 19, 3) := by decide +kernel
theorem dX4_needRoom_5 : decode cX4_needRoom 5 = .ok (.getfield 70, 3) := by decide +kernel
theorem dX4_needRoom_8 : decode cX4_needRoom 8 = .ok (.invokestatic 105, 3) := by decide +kernel
theorem dX4_needRoom_11 : decode cX4_needRoom 11 = .ok (.return_, 1) := by decide +kernel
theorem dX4_needBelow_0 : decode cX4_needBelow 0 = .ok (.iload_n 0, 1) := by decide +kernel
theorem dX4_needBelow_1 : decode cX4_needBelow 1 = .ok (.ifCond .lt 8, 3) := by decide +kernel
theorem dX4_needBelow_4 : decode cX4_needBelow 4 = .ok (.iload_n 0, 1) := by decide +kernel
theorem dX4_needBelow_5 : decode cX4_needBelow 5 = .ok (.iload_n 1, 1) := by decide +kernel
theorem dX4_needBelow_6 : decode cX4_needBelow 6 = .ok (.if_icmp .lt 11, 3) := by decide +kernel
theorem dX4_needBelow_9 : decode cX4_needBelow 9 = .ok (.new 53, 3) := by decide +kernel
theorem dX4_needBelow_12 : decode cX4_needBelow 12 = .ok (.dup, 1) := by decide +kernel
theorem dX4_needBelow_13 : decode cX4_needBelow 13 = .ok (.invokespecial 55, 3) := by decide +kernel
theorem dX4_needBelow_16 : decode cX4_needBelow 16 = .ok (.athrow, 1) := by decide +kernel
theorem dX4_needBelow_17 : decode cX4_needBelow 17 = .ok (.return_, 1) := by decide +kernel
theorem dX4_needMinutes_0 : decode cX4_needMinutes 0 = .ok (.iload_n 0, 1) := by decide +kernel
theorem dX4_needMinutes_1 : decode cX4_needMinutes 1 = .ok (.iconst 1, 1) := by decide +kernel
theorem dX4_needMinutes_2 : decode cX4_needMinutes 2 = .ok (.if_icmp .lt 8, 3) := by decide +kernel
theorem dX4_needMinutes_5 : decode cX4_needMinutes 5 = .ok (.iload_n 0, 1) := by decide +kernel
theorem dX4_needMinutes_6 : decode cX4_needMinutes 6 = .ok (.iload_n 1, 1) := by decide +kernel
theorem dX4_needMinutes_7 : decode cX4_needMinutes 7 = .ok (.if_icmp .le 11, 3) := by decide +kernel
theorem dX4_needMinutes_10 : decode cX4_needMinutes 10 = .ok (.new 33, 3) := by decide +kernel
theorem dX4_needMinutes_13 : decode cX4_needMinutes 13 = .ok (.dup, 1) := by decide +kernel
theorem dX4_needMinutes_14 : decode cX4_needMinutes 14 = .ok (.invokespecial 35, 3) := by decide +kernel
theorem dX4_needMinutes_17 : decode cX4_needMinutes 17 = .ok (.athrow, 1) := by decide +kernel
theorem dX4_needMinutes_18 : decode cX4_needMinutes 18 = .ok (.return_, 1) := by decide +kernel
theorem dX4_lightNow_0 : decode cX4_lightNow 0 = .ok (.aload_n 0, 1) := by decide +kernel
theorem dX4_lightNow_1 : decode cX4_lightNow 1 = .ok (.getfield 12, 3) := by decide +kernel
theorem dX4_lightNow_4 : decode cX4_lightNow 4 = .ok (.aload_n 0, 1) := by decide +kernel
theorem dX4_lightNow_5 : decode cX4_lightNow 5 = .ok (.getfield 19, 3) := by decide +kernel
theorem dX4_lightNow_8 : decode cX4_lightNow 8 = .ok (.getfield 151, 3) := by decide +kernel
theorem dX4_lightNow_11 : decode cX4_lightNow 11 = .ok (.invokevirtual 154, 3) := by decide +kernel
theorem dX4_lightNow_14 : decode cX4_lightNow 14 = .ok (.ireturn, 1) := by decide +kernel
theorem dX4_passerFact_0 : decode cX4_passerFact 0 = .ok (.aload_n 0, 1) := by decide +kernel
theorem dX4_passerFact_1 : decode cX4_passerFact 1 = .ok (.getfield 19, 3) := by decide +kernel
theorem dX4_passerFact_4 : decode cX4_passerFact 4 = .ok (.getfield 43, 3) := by decide +kernel
theorem dX4_passerFact_7 : decode cX4_passerFact 7 = .ok (.iload_n 1, 1) := by decide +kernel
theorem dX4_passerFact_8 : decode cX4_passerFact 8 = .ok (.aaload, 1) := by decide +kernel
theorem dX4_passerFact_9 : decode cX4_passerFact 9 = .ok (.astore_n 3, 1) := by decide +kernel
theorem dX4_passerFact_10 : decode cX4_passerFact 10 = .ok (.iload_n 2, 1) := by decide +kernel
theorem dX4_passerFact_11 : decode cX4_passerFact 11 = .ok (.tableswitch 49 0 3 #[29, 34, 39, 44], 29) := by decide +kernel
theorem dX4_passerFact_40 : decode cX4_passerFact 40 = .ok (.aload_n 3, 1) := by decide +kernel
theorem dX4_passerFact_41 : decode cX4_passerFact 41 = .ok (.getfield 191, 3) := by decide +kernel
theorem dX4_passerFact_44 : decode cX4_passerFact 44 = .ok (.ireturn, 1) := by decide +kernel
theorem dX4_passerFact_45 : decode cX4_passerFact 45 = .ok (.aload_n 3, 1) := by decide +kernel
theorem dX4_passerFact_46 : decode cX4_passerFact 46 = .ok (.getfield 192, 3) := by decide +kernel
theorem dX4_passerFact_49 : decode cX4_passerFact 49 = .ok (.ireturn, 1) := by decide +kernel
theorem dX4_passerFact_50 : decode cX4_passerFact 50 = .ok (.aload_n 3, 1) := by decide +kernel
theorem dX4_passerFact_51 : decode cX4_passerFact 51 = .ok (.getfield 195, 3) := by decide +kernel
theorem dX4_passerFact_54 : decode cX4_passerFact 54 = .ok (.ireturn, 1) := by decide +kernel
theorem dX4_passerFact_55 : decode cX4_passerFact 55 = .ok (.aload_n 3, 1) := by decide +kernel
theorem dX4_passerFact_56 : decode cX4_passerFact 56 = .ok (.getfield 198, 3) := by decide +kernel
theorem dX4_passerFact_59 : decode cX4_passerFact 59 = .ok (.ireturn, 1) := by decide +kernel
theorem dX4_passerFact_60 : decode cX4_passerFact 60 = .ok (.aload_n 0, 1) := by decide +kernel
theorem dX4_passerFact_61 : decode cX4_passerFact 61 = .ok (.getfield 19, 3) := by decide +kernel
theorem dX4_passerFact_64 : decode cX4_passerFact 64 = .ok (.aload_n 3, 1) := by decide +kernel
theorem dX4_passerFact_65 : decode cX4_passerFact 65 = .ok (.aload_n 0, 1) := by decide +kernel
theorem dX4_passerFact_66 : decode cX4_passerFact 66 = .ok (.invokevirtual 130, 3) := by decide +kernel
theorem dX4_passerFact_69 : decode cX4_passerFact 69 = .ok (.invokevirtual 201, 3) := by decide +kernel
theorem dX4_passerFact_72 : decode cX4_passerFact 72 = .ok (.ireturn, 1) := by decide +kernel
theorem dX4_roomFact_0 : decode cX4_roomFact 0 = .ok (.aload_n 0, 1) := by decide +kernel
theorem dX4_roomFact_1 : decode cX4_roomFact 1 = .ok (.getfield 19, 3) := by decide +kernel
theorem dX4_roomFact_4 : decode cX4_roomFact 4 = .ok (.getfield 76, 3) := by decide +kernel
theorem dX4_roomFact_7 : decode cX4_roomFact 7 = .ok (.iload_n 1, 1) := by decide +kernel
theorem dX4_roomFact_8 : decode cX4_roomFact 8 = .ok (.aaload, 1) := by decide +kernel
theorem dX4_roomFact_9 : decode cX4_roomFact 9 = .ok (.astore_n 3, 1) := by decide +kernel
theorem dX4_roomFact_10 : decode cX4_roomFact 10 = .ok (.iload_n 2, 1) := by decide +kernel
theorem dX4_roomFact_11 : decode cX4_roomFact 11 = .ok (.tableswitch 84 0 6 #[41, 46, 51, 56, 61, 66, 71], 41) := by decide +kernel
theorem dX4_roomFact_52 : decode cX4_roomFact 52 = .ok (.aload_n 3, 1) := by decide +kernel
theorem dX4_roomFact_53 : decode cX4_roomFact 53 = .ok (.getfield 120, 3) := by decide +kernel
theorem dX4_roomFact_56 : decode cX4_roomFact 56 = .ok (.ireturn, 1) := by decide +kernel
theorem dX4_roomFact_57 : decode cX4_roomFact 57 = .ok (.aload_n 3, 1) := by decide +kernel
theorem dX4_roomFact_58 : decode cX4_roomFact 58 = .ok (.getfield 204, 3) := by decide +kernel
theorem dX4_roomFact_61 : decode cX4_roomFact 61 = .ok (.ireturn, 1) := by decide +kernel
theorem dX4_roomFact_62 : decode cX4_roomFact 62 = .ok (.aload_n 3, 1) := by decide +kernel
theorem dX4_roomFact_63 : decode cX4_roomFact 63 = .ok (.getfield 90, 3) := by decide +kernel
theorem dX4_roomFact_66 : decode cX4_roomFact 66 = .ok (.ireturn, 1) := by decide +kernel
theorem dX4_roomFact_67 : decode cX4_roomFact 67 = .ok (.aload_n 3, 1) := by decide +kernel
theorem dX4_roomFact_68 : decode cX4_roomFact 68 = .ok (.getfield 93, 3) := by decide +kernel
theorem dX4_roomFact_71 : decode cX4_roomFact 71 = .ok (.ireturn, 1) := by decide +kernel
theorem dX4_roomFact_72 : decode cX4_roomFact 72 = .ok (.aload_n 3, 1) := by decide +kernel
theorem dX4_roomFact_73 : decode cX4_roomFact 73 = .ok (.getfield 96, 3) := by decide +kernel
theorem dX4_roomFact_76 : decode cX4_roomFact 76 = .ok (.ireturn, 1) := by decide +kernel
theorem dX4_roomFact_77 : decode cX4_roomFact 77 = .ok (.aload_n 3, 1) := by decide +kernel
theorem dX4_roomFact_78 : decode cX4_roomFact 78 = .ok (.getfield 99, 3) := by decide +kernel
theorem dX4_roomFact_81 : decode cX4_roomFact 81 = .ok (.ireturn, 1) := by decide +kernel
theorem dX4_roomFact_82 : decode cX4_roomFact 82 = .ok (.aload_n 0, 1) := by decide +kernel
theorem dX4_roomFact_83 : decode cX4_roomFact 83 = .ok (.getfield 19, 3) := by decide +kernel
theorem dX4_roomFact_86 : decode cX4_roomFact 86 = .ok (.aload_n 3, 1) := by decide +kernel
theorem dX4_roomFact_87 : decode cX4_roomFact 87 = .ok (.aload_n 0, 1) := by decide +kernel
theorem dX4_roomFact_88 : decode cX4_roomFact 88 = .ok (.invokevirtual 130, 3) := by decide +kernel
theorem dX4_roomFact_91 : decode cX4_roomFact 91 = .ok (.invokevirtual 157, 3) := by decide +kernel
theorem dX4_roomFact_94 : decode cX4_roomFact 94 = .ok (.ireturn, 1) := by decide +kernel
theorem dX4_roomFact_95 : decode cX4_roomFact 95 = .ok (.aload_n 3, 1) := by decide +kernel
theorem dX4_roomFact_96 : decode cX4_roomFact 96 = .ok (.getfield 207, 3) := by decide +kernel
theorem dX4_roomFact_99 : decode cX4_roomFact 99 = .ok (.ireturn, 1) := by decide +kernel
theorem dX4_houseFact_0 : decode cX4_houseFact 0 = .ok (.iload_n 1, 1) := by decide +kernel
theorem dX4_houseFact_1 : decode cX4_houseFact 1 = .ok (.tableswitch 112 0 7 #[47, 55, 60, 68, 76, 84, 92, 104], 47) := by decide +kernel
theorem dX4_houseFact_48 : decode cX4_houseFact 48 = .ok (.aload_n 0, 1) := by decide +kernel
theorem dX4_houseFact_49 : decode cX4_houseFact 49 = .ok (.getfield 19, 3) := by decide +kernel
theorem dX4_houseFact_52 : decode cX4_houseFact 52 = .ok (.getfield 151, 3) := by decide +kernel
theorem dX4_houseFact_55 : decode cX4_houseFact 55 = .ok (.ireturn, 1) := by decide +kernel
theorem dX4_houseFact_56 : decode cX4_houseFact 56 = .ok (.aload_n 0, 1) := by decide +kernel
theorem dX4_houseFact_57 : decode cX4_houseFact 57 = .ok (.invokevirtual 130, 3) := by decide +kernel
theorem dX4_houseFact_60 : decode cX4_houseFact 60 = .ok (.ireturn, 1) := by decide +kernel
theorem dX4_houseFact_61 : decode cX4_houseFact 61 = .ok (.aload_n 0, 1) := by decide +kernel
theorem dX4_houseFact_62 : decode cX4_houseFact 62 = .ok (.getfield 19, 3) := by decide +kernel
theorem dX4_houseFact_65 : decode cX4_houseFact 65 = .ok (.getfield 36, 3) := by decide +kernel
theorem dX4_houseFact_68 : decode cX4_houseFact 68 = .ok (.ireturn, 1) := by decide +kernel
theorem dX4_houseFact_69 : decode cX4_houseFact 69 = .ok (.aload_n 0, 1) := by decide +kernel
theorem dX4_houseFact_70 : decode cX4_houseFact 70 = .ok (.getfield 19, 3) := by decide +kernel
theorem dX4_houseFact_73 : decode cX4_houseFact 73 = .ok (.invokevirtual 181, 3) := by decide +kernel
theorem dX4_houseFact_76 : decode cX4_houseFact 76 = .ok (.ireturn, 1) := by decide +kernel
theorem dX4_houseFact_77 : decode cX4_houseFact 77 = .ok (.aload_n 0, 1) := by decide +kernel
theorem dX4_houseFact_78 : decode cX4_houseFact 78 = .ok (.getfield 19, 3) := by decide +kernel
theorem dX4_houseFact_81 : decode cX4_houseFact 81 = .ok (.getfield 70, 3) := by decide +kernel
theorem dX4_houseFact_84 : decode cX4_houseFact 84 = .ok (.ireturn, 1) := by decide +kernel
theorem dX4_houseFact_85 : decode cX4_houseFact 85 = .ok (.aload_n 0, 1) := by decide +kernel
theorem dX4_houseFact_86 : decode cX4_houseFact 86 = .ok (.getfield 19, 3) := by decide +kernel
theorem dX4_houseFact_89 : decode cX4_houseFact 89 = .ok (.invokevirtual 178, 3) := by decide +kernel
theorem dX4_houseFact_92 : decode cX4_houseFact 92 = .ok (.ireturn, 1) := by decide +kernel
theorem dX4_houseFact_93 : decode cX4_houseFact 93 = .ok (.aload_n 0, 1) := by decide +kernel
theorem dX4_houseFact_94 : decode cX4_houseFact 94 = .ok (.getfield 19, 3) := by decide +kernel
theorem dX4_houseFact_97 : decode cX4_houseFact 97 = .ok (.aload_n 0, 1) := by decide +kernel
theorem dX4_houseFact_98 : decode cX4_houseFact 98 = .ok (.invokevirtual 130, 3) := by decide +kernel
theorem dX4_houseFact_101 : decode cX4_houseFact 101 = .ok (.invokevirtual 210, 3) := by decide +kernel
theorem dX4_houseFact_104 : decode cX4_houseFact 104 = .ok (.ireturn, 1) := by decide +kernel
theorem dX4_houseFact_105 : decode cX4_houseFact 105 = .ok (.aload_n 0, 1) := by decide +kernel
theorem dX4_houseFact_106 : decode cX4_houseFact 106 = .ok (.getfield 19, 3) := by decide +kernel
theorem dX4_houseFact_109 : decode cX4_houseFact 109 = .ok (.invokevirtual 184, 3) := by decide +kernel
theorem dX4_houseFact_112 : decode cX4_houseFact 112 = .ok (.ireturn, 1) := by decide +kernel
theorem dX4_houseFact_113 : decode cX4_houseFact 113 = .ok (.aload_n 0, 1) := by decide +kernel
theorem dX4_houseFact_114 : decode cX4_houseFact 114 = .ok (.getfield 19, 3) := by decide +kernel
theorem dX4_houseFact_117 : decode cX4_houseFact 117 = .ok (.getfield 151, 3) := by decide +kernel
theorem dX4_houseFact_120 : decode cX4_houseFact 120 = .ok (.sipush 720, 3) := by decide +kernel
theorem dX4_houseFact_123 : decode cX4_houseFact 123 = .ok (.if_icmp .lt 7, 3) := by decide +kernel
theorem dX4_houseFact_126 : decode cX4_houseFact 126 = .ok (.iconst 1, 1) := by decide +kernel
theorem dX4_houseFact_127 : decode cX4_houseFact 127 = .ok (.goto 4, 3) := by decide +kernel
theorem dX4_houseFact_130 : decode cX4_houseFact 130 = .ok (.iconst 0, 1) := by decide +kernel
theorem dX4_houseFact_131 : decode cX4_houseFact 131 = .ok (.ireturn, 1) := by decide +kernel
theorem dX4_letGoBy_0 : decode cX4_letGoBy 0 = .ok (.aload_n 1, 1) := by decide +kernel
theorem dX4_letGoBy_1 : decode cX4_letGoBy 1 = .ok (.getfield 151, 3) := by decide +kernel
theorem dX4_letGoBy_4 : decode cX4_letGoBy 4 = .ok (.iload_n 2, 1) := by decide +kernel
theorem dX4_letGoBy_5 : decode cX4_letGoBy 5 = .ok (.iadd, 1) := by decide +kernel
theorem dX4_letGoBy_6 : decode cX4_letGoBy 6 = .ok (.sipush 720, 3) := by decide +kernel
theorem dX4_letGoBy_9 : decode cX4_letGoBy 9 = .ok (.invokestatic 213, 3) := by decide +kernel
theorem dX4_letGoBy_12 : decode cX4_letGoBy 12 = .ok (.istore_n 3, 1) := by decide +kernel
theorem dX4_letGoBy_13 : decode cX4_letGoBy 13 = .ok (.iconst 0, 1) := by decide +kernel
theorem dX4_letGoBy_14 : decode cX4_letGoBy 14 = .ok (.istore 4, 2) := by decide +kernel
theorem dX4_letGoBy_16 : decode cX4_letGoBy 16 = .ok (.aload_n 1, 1) := by decide +kernel
theorem dX4_letGoBy_17 : decode cX4_letGoBy 17 = .ok (.getfield 151, 3) := by decide +kernel
theorem dX4_letGoBy_20 : decode cX4_letGoBy 20 = .ok (.istore 5, 2) := by decide +kernel
theorem dX4_letGoBy_22 : decode cX4_letGoBy 22 = .ok (.iload 5, 2) := by decide +kernel
theorem dX4_letGoBy_24 : decode cX4_letGoBy 24 = .ok (.iload_n 3, 1) := by decide +kernel
theorem dX4_letGoBy_25 : decode cX4_letGoBy 25 = .ok (.if_icmp .ge 41, 3) := by decide +kernel
theorem dX4_letGoBy_28 : decode cX4_letGoBy 28 = .ok (.aload_n 1, 1) := by decide +kernel
theorem dX4_letGoBy_29 : decode cX4_letGoBy 29 = .ok (.invokevirtual 161, 3) := by decide +kernel
theorem dX4_letGoBy_32 : decode cX4_letGoBy 32 = .ok (.iload 4, 2) := by decide +kernel
theorem dX4_letGoBy_34 : decode cX4_letGoBy 34 = .ok (.aload_n 1, 1) := by decide +kernel
theorem dX4_letGoBy_35 : decode cX4_letGoBy 35 = .ok (.aload_n 0, 1) := by decide +kernel
theorem dX4_letGoBy_36 : decode cX4_letGoBy 36 = .ok (.getfield 12, 3) := by decide +kernel
theorem dX4_letGoBy_39 : decode cX4_letGoBy 39 = .ok (.iload 5, 2) := by decide +kernel
theorem dX4_letGoBy_41 : decode cX4_letGoBy 41 = .ok (.invokevirtual 154, 3) := by decide +kernel
theorem dX4_letGoBy_44 : decode cX4_letGoBy 44 = .ok (.invokevirtual 218, 3) := by decide +kernel
theorem dX4_letGoBy_47 : decode cX4_letGoBy 47 = .ok (.iadd, 1) := by decide +kernel
theorem dX4_letGoBy_48 : decode cX4_letGoBy 48 = .ok (.istore 4, 2) := by decide +kernel
theorem dX4_letGoBy_50 : decode cX4_letGoBy 50 = .ok (.aload_n 1, 1) := by decide +kernel
theorem dX4_letGoBy_51 : decode cX4_letGoBy 51 = .ok (.dup, 1) := by decide +kernel
theorem dX4_letGoBy_52 : decode cX4_letGoBy 52 = .ok (.getfield 151, 3) := by decide +kernel
theorem dX4_letGoBy_55 : decode cX4_letGoBy 55 = .ok (.iconst 1, 1) := by decide +kernel
theorem dX4_letGoBy_56 : decode cX4_letGoBy 56 = .ok (.iadd, 1) := by decide +kernel
theorem dX4_letGoBy_57 : decode cX4_letGoBy 57 = .ok (.putfield 151, 3) := by decide +kernel
theorem dX4_letGoBy_60 : decode cX4_letGoBy 60 = .ok (.iinc 5 1, 3) := by decide +kernel
theorem dX4_letGoBy_63 : decode cX4_letGoBy 63 = .ok (.goto (-41), 3) := by decide +kernel
theorem dX4_letGoBy_66 : decode cX4_letGoBy 66 = .ok (.iload 4, 2) := by decide +kernel
theorem dX4_letGoBy_68 : decode cX4_letGoBy 68 = .ok (.ireturn, 1) := by decide +kernel
theorem dX4_paidWithHole_0 : decode cX4_paidWithHole 0 = .ok (.aload_n 0, 1) := by decide +kernel
theorem dX4_paidWithHole_1 : decode cX4_paidWithHole 1 = .ok (.getfield 23, 3) := by decide +kernel
theorem dX4_paidWithHole_4 : decode cX4_paidWithHole 4 = .ok (.aload_n 0, 1) := by decide +kernel
theorem dX4_paidWithHole_5 : decode cX4_paidWithHole 5 = .ok (.getfield 19, 3) := by decide +kernel
theorem dX4_paidWithHole_8 : decode cX4_paidWithHole 8 = .ok (.invokevirtual 147, 3) := by decide +kernel
theorem dX4_paidWithHole_11 : decode cX4_paidWithHole 11 = .ok (.aload_n 0, 1) := by decide +kernel
theorem dX4_paidWithHole_12 : decode cX4_paidWithHole 12 = .ok (.getfield 23, 3) := by decide +kernel
theorem dX4_paidWithHole_15 : decode cX4_paidWithHole 15 = .ok (.getfield 76, 3) := by decide +kernel
theorem dX4_paidWithHole_18 : decode cX4_paidWithHole 18 = .ok (.iload_n 1, 1) := by decide +kernel
theorem dX4_paidWithHole_19 : decode cX4_paidWithHole 19 = .ok (.aaload, 1) := by decide +kernel
theorem dX4_paidWithHole_20 : decode cX4_paidWithHole 20 = .ok (.astore 4, 2) := by decide +kernel
theorem dX4_paidWithHole_22 : decode cX4_paidWithHole 22 = .ok (.aload 4, 2) := by decide +kernel
theorem dX4_paidWithHole_24 : decode cX4_paidWithHole 24 = .ok (.iload_n 2, 1) := by decide +kernel
theorem dX4_paidWithHole_25 : decode cX4_paidWithHole 25 = .ok (.putfield 90, 3) := by decide +kernel
theorem dX4_paidWithHole_28 : decode cX4_paidWithHole 28 = .ok (.aload_n 0, 1) := by decide +kernel
theorem dX4_paidWithHole_29 : decode cX4_paidWithHole 29 = .ok (.getfield 19, 3) := by decide +kernel
theorem dX4_paidWithHole_32 : decode cX4_paidWithHole 32 = .ok (.getfield 151, 3) := by decide +kernel
theorem dX4_paidWithHole_35 : decode cX4_paidWithHole 35 = .ok (.iload_n 3, 1) := by decide +kernel
theorem dX4_paidWithHole_36 : decode cX4_paidWithHole 36 = .ok (.iadd, 1) := by decide +kernel
theorem dX4_paidWithHole_37 : decode cX4_paidWithHole 37 = .ok (.sipush 720, 3) := by decide +kernel
theorem dX4_paidWithHole_40 : decode cX4_paidWithHole 40 = .ok (.invokestatic 213, 3) := by decide +kernel
theorem dX4_paidWithHole_43 : decode cX4_paidWithHole 43 = .ok (.istore 5, 2) := by decide +kernel
theorem dX4_paidWithHole_45 : decode cX4_paidWithHole 45 = .ok (.iconst 0, 1) := by decide +kernel
theorem dX4_paidWithHole_46 : decode cX4_paidWithHole 46 = .ok (.istore 6, 2) := by decide +kernel
theorem dX4_paidWithHole_48 : decode cX4_paidWithHole 48 = .ok (.aload_n 0, 1) := by decide +kernel
theorem dX4_paidWithHole_49 : decode cX4_paidWithHole 49 = .ok (.getfield 19, 3) := by decide +kernel
theorem dX4_paidWithHole_52 : decode cX4_paidWithHole 52 = .ok (.getfield 151, 3) := by decide +kernel
theorem dX4_paidWithHole_55 : decode cX4_paidWithHole 55 = .ok (.istore 7, 2) := by decide +kernel
theorem dX4_paidWithHole_57 : decode cX4_paidWithHole 57 = .ok (.iload 7, 2) := by decide +kernel
theorem dX4_paidWithHole_59 : decode cX4_paidWithHole 59 = .ok (.iload 5, 2) := by decide +kernel
theorem dX4_paidWithHole_61 : decode cX4_paidWithHole 61 = .ok (.if_icmp .ge 44, 3) := by decide +kernel
theorem dX4_paidWithHole_64 : decode cX4_paidWithHole 64 = .ok (.aload_n 0, 1) := by decide +kernel
theorem dX4_paidWithHole_65 : decode cX4_paidWithHole 65 = .ok (.getfield 23, 3) := by decide +kernel
theorem dX4_paidWithHole_68 : decode cX4_paidWithHole 68 = .ok (.invokevirtual 161, 3) := by decide +kernel
theorem dX4_paidWithHole_71 : decode cX4_paidWithHole 71 = .ok (.iload 6, 2) := by decide +kernel
theorem dX4_paidWithHole_73 : decode cX4_paidWithHole 73 = .ok (.aload 4, 2) := by decide +kernel
theorem dX4_paidWithHole_75 : decode cX4_paidWithHole 75 = .ok (.aload_n 0, 1) := by decide +kernel
theorem dX4_paidWithHole_76 : decode cX4_paidWithHole 76 = .ok (.getfield 23, 3) := by decide +kernel
theorem dX4_paidWithHole_79 : decode cX4_paidWithHole 79 = .ok (.aload 4, 2) := by decide +kernel
theorem dX4_paidWithHole_81 : decode cX4_paidWithHole 81 = .ok (.aload_n 0, 1) := by decide +kernel
theorem dX4_paidWithHole_82 : decode cX4_paidWithHole 82 = .ok (.getfield 12, 3) := by decide +kernel
theorem dX4_paidWithHole_85 : decode cX4_paidWithHole 85 = .ok (.iload 7, 2) := by decide +kernel
theorem dX4_paidWithHole_87 : decode cX4_paidWithHole 87 = .ok (.invokevirtual 154, 3) := by decide +kernel
theorem dX4_paidWithHole_90 : decode cX4_paidWithHole 90 = .ok (.invokevirtual 157, 3) := by decide +kernel
theorem dX4_paidWithHole_93 : decode cX4_paidWithHole 93 = .ok (.invokevirtual 221, 3) := by decide +kernel
theorem dX4_paidWithHole_96 : decode cX4_paidWithHole 96 = .ok (.iadd, 1) := by decide +kernel
theorem dX4_paidWithHole_97 : decode cX4_paidWithHole 97 = .ok (.istore 6, 2) := by decide +kernel
theorem dX4_paidWithHole_99 : decode cX4_paidWithHole 99 = .ok (.iinc 7 1, 3) := by decide +kernel
theorem dX4_paidWithHole_102 : decode cX4_paidWithHole 102 = .ok (.goto (-45), 3) := by decide +kernel
theorem dX4_paidWithHole_105 : decode cX4_paidWithHole 105 = .ok (.iload 6, 2) := by decide +kernel
theorem dX4_paidWithHole_107 : decode cX4_paidWithHole 107 = .ok (.ireturn, 1) := by decide +kernel
theorem dX5_init_0 : decode cX5_init 0 = .ok (.aload_n 0, 1) := by decide +kernel
theorem dX5_init_1 : decode cX5_init 1 = .ok (.aload_n 1, 1) := by decide +kernel
theorem dX5_init_2 : decode cX5_init 2 = .ok (.putfield 3, 3) := by decide +kernel
theorem dX5_init_5 : decode cX5_init 5 = .ok (.aload_n 0, 1) := by decide +kernel
theorem dX5_init_6 : decode cX5_init 6 = .ok (.invokespecial 9, 3) := by decide +kernel
theorem dX5_init_9 : decode cX5_init 9 = .ok (.aload_n 0, 1) := by decide +kernel
theorem dX5_init_10 : decode cX5_init 10 = .ok (.bipush 10, 2) := by decide +kernel
theorem dX5_init_12 : decode cX5_init 12 = .ok (.newarray .int, 2) := by decide +kernel
theorem dX5_init_14 : decode cX5_init 14 = .ok (.putfield 15, 3) := by decide +kernel
theorem dX5_init_17 : decode cX5_init 17 = .ok (.aload_n 0, 1) := by decide +kernel
theorem dX5_init_18 : decode cX5_init 18 = .ok (.bipush 8, 2) := by decide +kernel
theorem dX5_init_20 : decode cX5_init 20 = .ok (.newarray .int, 2) := by decide +kernel
theorem dX5_init_22 : decode cX5_init 22 = .ok (.putfield 19, 3) := by decide +kernel
theorem dX5_init_25 : decode cX5_init 25 = .ok (.aload_n 0, 1) := by decide +kernel
theorem dX5_init_26 : decode cX5_init 26 = .ok (.bipush 8, 2) := by decide +kernel
theorem dX5_init_28 : decode cX5_init 28 = .ok (.newarray .int, 2) := by decide +kernel
theorem dX5_init_30 : decode cX5_init 30 = .ok (.putfield 22, 3) := by decide +kernel
theorem dX5_init_33 : decode cX5_init 33 = .ok (.aload_n 0, 1) := by decide +kernel
theorem dX5_init_34 : decode cX5_init 34 = .ok (.bipush 8, 2) := by decide +kernel
theorem dX5_init_36 : decode cX5_init 36 = .ok (.newarray .int, 2) := by decide +kernel
theorem dX5_init_38 : decode cX5_init 38 = .ok (.putfield 25, 3) := by decide +kernel
theorem dX5_init_41 : decode cX5_init 41 = .ok (.return_, 1) := by decide +kernel
theorem dX5_copy_0 : decode cX5_copy 0 = .ok (.aload_n 1, 1) := by decide +kernel
theorem dX5_copy_1 : decode cX5_copy 1 = .ok (.iconst 0, 1) := by decide +kernel
theorem dX5_copy_2 : decode cX5_copy 2 = .ok (.aload_n 2, 1) := by decide +kernel
theorem dX5_copy_3 : decode cX5_copy 3 = .ok (.iconst 0, 1) := by decide +kernel
theorem dX5_copy_4 : decode cX5_copy 4 = .ok (.aload_n 1, 1) := by decide +kernel
theorem dX5_copy_5 : decode cX5_copy 5 = .ok (.arraylength, 1) := by decide +kernel
theorem dX5_copy_6 : decode cX5_copy 6 = .ok (.invokestatic 28, 3) := by decide +kernel
theorem dX5_copy_9 : decode cX5_copy 9 = .ok (.return_, 1) := by decide +kernel
theorem dX5_become_0 : decode cX5_become 0 = .ok (.aload_n 0, 1) := by decide +kernel
theorem dX5_become_1 : decode cX5_become 1 = .ok (.aload_n 1, 1) := by decide +kernel
theorem dX5_become_2 : decode cX5_become 2 = .ok (.getfield 34, 3) := by decide +kernel
theorem dX5_become_5 : decode cX5_become 5 = .ok (.putfield 34, 3) := by decide +kernel
theorem dX5_become_8 : decode cX5_become 8 = .ok (.aload_n 0, 1) := by decide +kernel
theorem dX5_become_9 : decode cX5_become 9 = .ok (.aload_n 1, 1) := by decide +kernel
theorem dX5_become_10 : decode cX5_become 10 = .ok (.getfield 15, 3) := by decide +kernel
theorem dX5_become_13 : decode cX5_become 13 = .ok (.aload_n 0, 1) := by decide +kernel
theorem dX5_become_14 : decode cX5_become 14 = .ok (.getfield 15, 3) := by decide +kernel
theorem dX5_become_17 : decode cX5_become 17 = .ok (.invokevirtual 38, 3) := by decide +kernel
theorem dX5_become_20 : decode cX5_become 20 = .ok (.aload_n 0, 1) := by decide +kernel
theorem dX5_become_21 : decode cX5_become 21 = .ok (.aload_n 1, 1) := by decide +kernel
theorem dX5_become_22 : decode cX5_become 22 = .ok (.getfield 19, 3) := by decide +kernel
theorem dX5_become_25 : decode cX5_become 25 = .ok (.aload_n 0, 1) := by decide +kernel
theorem dX5_become_26 : decode cX5_become 26 = .ok (.getfield 19, 3) := by decide +kernel
theorem dX5_become_29 : decode cX5_become 29 = .ok (.invokevirtual 38, 3) := by decide +kernel
theorem dX5_become_32 : decode cX5_become 32 = .ok (.aload_n 0, 1) := by decide +kernel
theorem dX5_become_33 : decode cX5_become 33 = .ok (.aload_n 1, 1) := by decide +kernel
theorem dX5_become_34 : decode cX5_become 34 = .ok (.getfield 22, 3) := by decide +kernel
theorem dX5_become_37 : decode cX5_become 37 = .ok (.aload_n 0, 1) := by decide +kernel
theorem dX5_become_38 : decode cX5_become 38 = .ok (.getfield 22, 3) := by decide +kernel
theorem dX5_become_41 : decode cX5_become 41 = .ok (.invokevirtual 38, 3) := by decide +kernel
theorem dX5_become_44 : decode cX5_become 44 = .ok (.aload_n 0, 1) := by decide +kernel
theorem dX5_become_45 : decode cX5_become 45 = .ok (.aload_n 1, 1) := by decide +kernel
theorem dX5_become_46 : decode cX5_become 46 = .ok (.getfield 25, 3) := by decide +kernel
theorem dX5_become_49 : decode cX5_become 49 = .ok (.aload_n 0, 1) := by decide +kernel
theorem dX5_become_50 : decode cX5_become 50 = .ok (.getfield 25, 3) := by decide +kernel
theorem dX5_become_53 : decode cX5_become 53 = .ok (.invokevirtual 38, 3) := by decide +kernel
theorem dX5_become_56 : decode cX5_become 56 = .ok (.return_, 1) := by decide +kernel
theorem dX5_lightNow_0 : decode cX5_lightNow 0 = .ok (.aload_n 0, 1) := by decide +kernel
theorem dX5_lightNow_1 : decode cX5_lightNow 1 = .ok (.getfield 34, 3) := by decide +kernel
theorem dX5_lightNow_4 : decode cX5_lightNow 4 = .ok (.sipush 720, 3) := by decide +kernel
theorem dX5_lightNow_7 : decode cX5_lightNow 7 = .ok (.if_icmp .ge 43, 3) := by decide +kernel
theorem dX5_lightNow_10 : decode cX5_lightNow 10 = .ok (.aload_n 0, 1) := by decide +kernel
theorem dX5_lightNow_11 : decode cX5_lightNow 11 = .ok (.getfield 3, 3) := by decide +kernel
theorem dX5_lightNow_14 : decode cX5_lightNow 14 = .ok (.getfield 42, 3) := by decide +kernel
theorem dX5_lightNow_17 : decode cX5_lightNow 17 = .ok (.aload_n 0, 1) := by decide +kernel
theorem dX5_lightNow_18 : decode cX5_lightNow 18 = .ok (.getfield 34, 3) := by decide +kernel
theorem dX5_lightNow_21 : decode cX5_lightNow 21 = .ok (.bipush 60, 2) := by decide +kernel
theorem dX5_lightNow_23 : decode cX5_lightNow 23 = .ok (.idiv, 1) := by decide +kernel
theorem dX5_lightNow_24 : decode cX5_lightNow 24 = .ok (.iaload, 1) := by decide +kernel
theorem dX5_lightNow_25 : decode cX5_lightNow 25 = .ok (.bipush 10, 2) := by decide +kernel
theorem dX5_lightNow_27 : decode cX5_lightNow 27 = .ok (.aload_n 0, 1) := by decide +kernel
theorem dX5_lightNow_28 : decode cX5_lightNow 28 = .ok (.getfield 3, 3) := by decide +kernel
theorem dX5_lightNow_31 : decode cX5_lightNow 31 = .ok (.getfield 45, 3) := by decide +kernel
theorem dX5_lightNow_34 : decode cX5_lightNow 34 = .ok (.aload_n 0, 1) := by decide +kernel
theorem dX5_lightNow_35 : decode cX5_lightNow 35 = .ok (.getfield 34, 3) := by decide +kernel
theorem dX5_lightNow_38 : decode cX5_lightNow 38 = .ok (.bipush 60, 2) := by decide +kernel
theorem dX5_lightNow_40 : decode cX5_lightNow 40 = .ok (.idiv, 1) := by decide +kernel
theorem dX5_lightNow_41 : decode cX5_lightNow 41 = .ok (.iaload, 1) := by decide +kernel
theorem dX5_lightNow_42 : decode cX5_lightNow 42 = .ok (.isub, 1) := by decide +kernel
theorem dX5_lightNow_43 : decode cX5_lightNow 43 = .ok (.imul, 1) := by decide +kernel
theorem dX5_lightNow_44 : decode cX5_lightNow 44 = .ok (.bipush 10, 2) := by decide +kernel
theorem dX5_lightNow_46 : decode cX5_lightNow 46 = .ok (.idiv, 1) := by decide +kernel
theorem dX5_lightNow_47 : decode cX5_lightNow 47 = .ok (.goto 4, 3) := by decide +kernel
theorem dX5_lightNow_50 : decode cX5_lightNow 50 = .ok (.iconst 0, 1) := by decide +kernel
theorem dX5_lightNow_51 : decode cX5_lightNow 51 = .ok (.ireturn, 1) := by decide +kernel
theorem dX5_isShown_0 : decode cX5_isShown 0 = .ok (.aload_n 0, 1) := by decide +kernel
theorem dX5_isShown_1 : decode cX5_isShown 1 = .ok (.getfield 15, 3) := by decide +kernel
theorem dX5_isShown_4 : decode cX5_isShown 4 = .ok (.iload_n 2, 1) := by decide +kernel
theorem dX5_isShown_5 : decode cX5_isShown 5 = .ok (.iaload, 1) := by decide +kernel
theorem dX5_isShown_6 : decode cX5_isShown 6 = .ok (.iconst (-1), 1) := by decide +kernel
theorem dX5_isShown_7 : decode cX5_isShown 7 = .ok (.if_icmp .eq 40, 3) := by decide +kernel
theorem dX5_isShown_10 : decode cX5_isShown 10 = .ok (.aload_n 0, 1) := by decide +kernel
theorem dX5_isShown_11 : decode cX5_isShown 11 = .ok (.getfield 15, 3) := by decide +kernel
theorem dX5_isShown_14 : decode cX5_isShown 14 = .ok (.iload_n 2, 1) := by decide +kernel
theorem dX5_isShown_15 : decode cX5_isShown 15 = .ok (.iaload, 1) := by decide +kernel
theorem dX5_isShown_16 : decode cX5_isShown 16 = .ok (.aload_n 0, 1) := by decide +kernel
theorem dX5_isShown_17 : decode cX5_isShown 17 = .ok (.getfield 3, 3) := by decide +kernel
theorem dX5_isShown_20 : decode cX5_isShown 20 = .ok (.getfield 48, 3) := by decide +kernel
theorem dX5_isShown_23 : decode cX5_isShown 23 = .ok (.iload_n 1, 1) := by decide +kernel
theorem dX5_isShown_24 : decode cX5_isShown 24 = .ok (.iaload, 1) := by decide +kernel
theorem dX5_isShown_25 : decode cX5_isShown 25 = .ok (.isub, 1) := by decide +kernel
theorem dX5_isShown_26 : decode cX5_isShown 26 = .ok (.invokestatic 51, 3) := by decide +kernel
theorem dX5_isShown_29 : decode cX5_isShown 29 = .ok (.iconst 4, 1) := by decide +kernel
theorem dX5_isShown_30 : decode cX5_isShown 30 = .ok (.aload_n 0, 1) := by decide +kernel
theorem dX5_isShown_31 : decode cX5_isShown 31 = .ok (.getfield 3, 3) := by decide +kernel
theorem dX5_isShown_34 : decode cX5_isShown 34 = .ok (.getfield 57, 3) := by decide +kernel
theorem dX5_isShown_37 : decode cX5_isShown 37 = .ok (.iload_n 1, 1) := by decide +kernel
theorem dX5_isShown_38 : decode cX5_isShown 38 = .ok (.iaload, 1) := by decide +kernel
theorem dX5_isShown_39 : decode cX5_isShown 39 = .ok (.imul, 1) := by decide +kernel
theorem dX5_isShown_40 : decode cX5_isShown 40 = .ok (.if_icmp .gt 7, 3) := by decide +kernel
theorem dX5_isShown_43 : decode cX5_isShown 43 = .ok (.iconst 1, 1) := by decide +kernel
theorem dX5_isShown_44 : decode cX5_isShown 44 = .ok (.goto 4, 3) := by decide +kernel
theorem dX5_isShown_47 : decode cX5_isShown 47 = .ok (.iconst 0, 1) := by decide +kernel
theorem dX5_isShown_48 : decode cX5_isShown 48 = .ok (.ireturn, 1) := by decide +kernel
theorem dX5_brightness_0 : decode cX5_brightness 0 = .ok (.aload_n 0, 1) := by decide +kernel
theorem dX5_brightness_1 : decode cX5_brightness 1 = .ok (.invokevirtual 60, 3) := by decide +kernel
theorem dX5_brightness_4 : decode cX5_brightness 4 = .ok (.aload_n 0, 1) := by decide +kernel
theorem dX5_brightness_5 : decode cX5_brightness 5 = .ok (.getfield 3, 3) := by decide +kernel
theorem dX5_brightness_8 : decode cX5_brightness 8 = .ok (.getfield 64, 3) := by decide +kernel
theorem dX5_brightness_11 : decode cX5_brightness 11 = .ok (.iload_n 2, 1) := by decide +kernel
theorem dX5_brightness_12 : decode cX5_brightness 12 = .ok (.iaload, 1) := by decide +kernel
theorem dX5_brightness_13 : decode cX5_brightness 13 = .ok (.imul, 1) := by decide +kernel
theorem dX5_brightness_14 : decode cX5_brightness 14 = .ok (.aload_n 0, 1) := by decide +kernel
theorem dX5_brightness_15 : decode cX5_brightness 15 = .ok (.getfield 19, 3) := by decide +kernel
theorem dX5_brightness_18 : decode cX5_brightness 18 = .ok (.iload_n 1, 1) := by decide +kernel
theorem dX5_brightness_19 : decode cX5_brightness 19 = .ok (.iaload, 1) := by decide +kernel
theorem dX5_brightness_20 : decode cX5_brightness 20 = .ok (.imul, 1) := by decide +kernel
theorem dX5_brightness_21 : decode cX5_brightness 21 = .ok (.aload_n 0, 1) := by decide +kernel
theorem dX5_brightness_22 : decode cX5_brightness 22 = .ok (.getfield 19, 3) := by decide +kernel
theorem dX5_brightness_25 : decode cX5_brightness 25 = .ok (.iload_n 1, 1) := by decide +kernel
theorem dX5_brightness_26 : decode cX5_brightness 26 = .ok (.iaload, 1) := by decide +kernel
theorem dX5_brightness_27 : decode cX5_brightness 27 = .ok (.imul, 1) := by decide +kernel
theorem dX5_brightness_28 : decode cX5_brightness 28 = .ok (.bipush 10, 2) := by decide +kernel
theorem dX5_brightness_30 : decode cX5_brightness 30 = .ok (.aload_n 0, 1) := by decide +kernel
theorem dX5_brightness_31 : decode cX5_brightness 31 = .ok (.getfield 3, 3) := by decide +kernel
theorem dX5_brightness_34 : decode cX5_brightness 34 = .ok (.getfield 57, 3) := by decide +kernel
theorem dX5_brightness_37 : decode cX5_brightness 37 = .ok (.iload_n 1, 1) := by decide +kernel
theorem dX5_brightness_38 : decode cX5_brightness 38 = .ok (.iaload, 1) := by decide +kernel
theorem dX5_brightness_39 : decode cX5_brightness 39 = .ok (.imul, 1) := by decide +kernel
theorem dX5_brightness_40 : decode cX5_brightness 40 = .ok (.aload_n 0, 1) := by decide +kernel
theorem dX5_brightness_41 : decode cX5_brightness 41 = .ok (.getfield 3, 3) := by decide +kernel
theorem dX5_brightness_44 : decode cX5_brightness 44 = .ok (.getfield 57, 3) := by decide +kernel
theorem dX5_brightness_47 : decode cX5_brightness 47 = .ok (.iload_n 1, 1) := by decide +kernel
theorem dX5_brightness_48 : decode cX5_brightness 48 = .ok (.iaload, 1) := by decide +kernel
theorem dX5_brightness_49 : decode cX5_brightness 49 = .ok (.imul, 1) := by decide +kernel
theorem dX5_brightness_50 : decode cX5_brightness 50 = .ok (.idiv, 1) := by decide +kernel
theorem dX5_brightness_51 : decode cX5_brightness 51 = .ok (.istore_n 3, 1) := by decide +kernel
theorem dX5_brightness_52 : decode cX5_brightness 52 = .ok (.iload_n 3, 1) := by decide +kernel
theorem dX5_brightness_53 : decode cX5_brightness 53 = .ok (.bipush 10, 2) := by decide +kernel
theorem dX5_brightness_55 : decode cX5_brightness 55 = .ok (.aload_n 0, 1) := by decide +kernel
theorem dX5_brightness_56 : decode cX5_brightness 56 = .ok (.getfield 3, 3) := by decide +kernel
theorem dX5_brightness_59 : decode cX5_brightness 59 = .ok (.getfield 67, 3) := by decide +kernel
theorem dX5_brightness_62 : decode cX5_brightness 62 = .ok (.iload_n 1, 1) := by decide +kernel
theorem dX5_brightness_63 : decode cX5_brightness 63 = .ok (.iaload, 1) := by decide +kernel
theorem dX5_brightness_64 : decode cX5_brightness 64 = .ok (.isub, 1) := by decide +kernel
theorem dX5_brightness_65 : decode cX5_brightness 65 = .ok (.imul, 1) := by decide +kernel
theorem dX5_brightness_66 : decode cX5_brightness 66 = .ok (.bipush 10, 2) := by decide +kernel
theorem dX5_brightness_68 : decode cX5_brightness 68 = .ok (.idiv, 1) := by decide +kernel
theorem dX5_brightness_69 : decode cX5_brightness 69 = .ok (.ireturn, 1) := by decide +kernel
theorem dX5_isWell_0 : decode cX5_isWell 0 = .ok (.aload_n 0, 1) := by decide +kernel
theorem dX5_isWell_1 : decode cX5_isWell 1 = .ok (.iload_n 1, 1) := by decide +kernel
theorem dX5_isWell_2 : decode cX5_isWell 2 = .ok (.iload_n 2, 1) := by decide +kernel
theorem dX5_isWell_3 : decode cX5_isWell 3 = .ok (.invokevirtual 70, 3) := by decide +kernel
theorem dX5_isWell_6 : decode cX5_isWell 6 = .ok (.ifCond .eq 47, 3) := by decide +kernel
theorem dX5_isWell_9 : decode cX5_isWell 9 = .ok (.aload_n 0, 1) := by decide +kernel
theorem dX5_isWell_10 : decode cX5_isWell 10 = .ok (.iload_n 1, 1) := by decide +kernel
theorem dX5_isWell_11 : decode cX5_isWell 11 = .ok (.iload_n 2, 1) := by decide +kernel
theorem dX5_isWell_12 : decode cX5_isWell 12 = .ok (.invokevirtual 74, 3) := by decide +kernel
theorem dX5_isWell_15 : decode cX5_isWell 15 = .ok (.iconst 5, 1) := by decide +kernel
theorem dX5_isWell_16 : decode cX5_isWell 16 = .ok (.if_icmp .lt 37, 3) := by decide +kernel
theorem dX5_isWell_19 : decode cX5_isWell 19 = .ok (.aload_n 0, 1) := by decide +kernel
theorem dX5_isWell_20 : decode cX5_isWell 20 = .ok (.getfield 19, 3) := by decide +kernel
theorem dX5_isWell_23 : decode cX5_isWell 23 = .ok (.iload_n 1, 1) := by decide +kernel
theorem dX5_isWell_24 : decode cX5_isWell 24 = .ok (.iaload, 1) := by decide +kernel
theorem dX5_isWell_25 : decode cX5_isWell 25 = .ok (.aload_n 0, 1) := by decide +kernel
theorem dX5_isWell_26 : decode cX5_isWell 26 = .ok (.getfield 3, 3) := by decide +kernel
theorem dX5_isWell_29 : decode cX5_isWell 29 = .ok (.getfield 57, 3) := by decide +kernel
theorem dX5_isWell_32 : decode cX5_isWell 32 = .ok (.iload_n 1, 1) := by decide +kernel
theorem dX5_isWell_33 : decode cX5_isWell 33 = .ok (.iaload, 1) := by decide +kernel
theorem dX5_isWell_34 : decode cX5_isWell 34 = .ok (.imul, 1) := by decide +kernel
theorem dX5_isWell_35 : decode cX5_isWell 35 = .ok (.iconst 3, 1) := by decide +kernel
theorem dX5_isWell_36 : decode cX5_isWell 36 = .ok (.idiv, 1) := by decide +kernel
theorem dX5_isWell_37 : decode cX5_isWell 37 = .ok (.aload_n 0, 1) := by decide +kernel
theorem dX5_isWell_38 : decode cX5_isWell 38 = .ok (.getfield 3, 3) := by decide +kernel
theorem dX5_isWell_41 : decode cX5_isWell 41 = .ok (.getfield 78, 3) := by decide +kernel
theorem dX5_isWell_44 : decode cX5_isWell 44 = .ok (.iload_n 2, 1) := by decide +kernel
theorem dX5_isWell_45 : decode cX5_isWell 45 = .ok (.iaload, 1) := by decide +kernel
theorem dX5_isWell_46 : decode cX5_isWell 46 = .ok (.if_icmp .gt 7, 3) := by decide +kernel
theorem dX5_isWell_49 : decode cX5_isWell 49 = .ok (.iconst 1, 1) := by decide +kernel
theorem dX5_isWell_50 : decode cX5_isWell 50 = .ok (.goto 4, 3) := by decide +kernel
theorem dX5_isWell_53 : decode cX5_isWell 53 = .ok (.iconst 0, 1) := by decide +kernel
theorem dX5_isWell_54 : decode cX5_isWell 54 = .ok (.ireturn, 1) := by decide +kernel
theorem dX5_show_0 : decode cX5_show 0 = .ok (.iconst 0, 1) := by decide +kernel
theorem dX5_show_1 : decode cX5_show 1 = .ok (.istore_n 2, 1) := by decide +kernel
theorem dX5_show_2 : decode cX5_show 2 = .ok (.iconst 0, 1) := by decide +kernel
theorem dX5_show_3 : decode cX5_show 3 = .ok (.istore_n 3, 1) := by decide +kernel
theorem dX5_show_4 : decode cX5_show 4 = .ok (.iload_n 3, 1) := by decide +kernel
theorem dX5_show_5 : decode cX5_show 5 = .ok (.aload_n 0, 1) := by decide +kernel
theorem dX5_show_6 : decode cX5_show 6 = .ok (.getfield 3, 3) := by decide +kernel
theorem dX5_show_9 : decode cX5_show 9 = .ok (.getfield 81, 3) := by decide +kernel
theorem dX5_show_12 : decode cX5_show 12 = .ok (.if_icmp .ge 26, 3) := by decide +kernel
theorem dX5_show_15 : decode cX5_show 15 = .ok (.iload_n 2, 1) := by decide +kernel
theorem dX5_show_16 : decode cX5_show 16 = .ok (.aload_n 0, 1) := by decide +kernel
theorem dX5_show_17 : decode cX5_show 17 = .ok (.iload_n 1, 1) := by decide +kernel
theorem dX5_show_18 : decode cX5_show 18 = .ok (.iload_n 3, 1) := by decide +kernel
theorem dX5_show_19 : decode cX5_show 19 = .ok (.invokevirtual 84, 3) := by decide +kernel
theorem dX5_show_22 : decode cX5_show 22 = .ok (.ifCond .eq 7, 3) := by decide +kernel
theorem dX5_show_25 : decode cX5_show 25 = .ok (.iconst 1, 1) := by decide +kernel
theorem dX5_show_26 : decode cX5_show 26 = .ok (.goto 4, 3) := by decide +kernel
theorem dX5_show_29 : decode cX5_show 29 = .ok (.iconst 0, 1) := by decide +kernel
theorem dX5_show_30 : decode cX5_show 30 = .ok (.iadd, 1) := by decide +kernel
theorem dX5_show_31 : decode cX5_show 31 = .ok (.istore_n 2, 1) := by decide +kernel
theorem dX5_show_32 : decode cX5_show 32 = .ok (.iinc 3 1, 3) := by decide +kernel
theorem dX5_show_35 : decode cX5_show 35 = .ok (.goto (-31), 3) := by decide +kernel
theorem dX5_show_38 : decode cX5_show 38 = .ok (.iload_n 2, 1) := by decide +kernel
theorem dX5_show_39 : decode cX5_show 39 = .ok (.ireturn, 1) := by decide +kernel
theorem dX5_go_0 : decode cX5_go 0 = .ok (.aload_n 0, 1) := by decide +kernel
theorem dX5_go_1 : decode cX5_go 1 = .ok (.getfield 34, 3) := by decide +kernel
theorem dX5_go_4 : decode cX5_go 4 = .ok (.sipush 720, 3) := by decide +kernel
theorem dX5_go_7 : decode cX5_go 7 = .ok (.if_icmp .ne 4, 3) := by decide +kernel
theorem dX5_go_10 : decode cX5_go 10 = .ok (.return_, 1) := by decide +kernel
theorem dX5_go_11 : decode cX5_go 11 = .ok (.iconst 0, 1) := by decide +kernel
theorem dX5_go_12 : decode cX5_go 12 = .ok (.istore_n 1, 1) := by decide +kernel
theorem dX5_go_13 : decode cX5_go 13 = .ok (.iload_n 1, 1) := by decide +kernel
theorem dX5_go_14 : decode cX5_go 14 = .ok (.aload_n 0, 1) := by decide +kernel
theorem dX5_go_15 : decode cX5_go 15 = .ok (.getfield 3, 3) := by decide +kernel
theorem dX5_go_18 : decode cX5_go 18 = .ok (.getfield 81, 3) := by decide +kernel
theorem dX5_go_21 : decode cX5_go 21 = .ok (.if_icmp .ge 60, 3) := by decide +kernel
theorem dX5_go_24 : decode cX5_go 24 = .ok (.aload_n 0, 1) := by decide +kernel
theorem dX5_go_25 : decode cX5_go 25 = .ok (.getfield 15, 3) := by decide +kernel
theorem dX5_go_28 : decode cX5_go 28 = .ok (.iload_n 1, 1) := by decide +kernel
theorem dX5_go_29 : decode cX5_go 29 = .ok (.iaload, 1) := by decide +kernel
theorem dX5_go_30 : decode cX5_go 30 = .ok (.iconst (-1), 1) := by decide +kernel
theorem dX5_go_31 : decode cX5_go 31 = .ok (.if_icmp .ne 6, 3) := by decide +kernel
theorem dX5_go_34 : decode cX5_go 34 = .ok (.goto 41, 3) := by decide +kernel
theorem dX5_go_37 : decode cX5_go 37 = .ok (.aload_n 0, 1) := by decide +kernel
theorem dX5_go_38 : decode cX5_go 38 = .ok (.getfield 15, 3) := by decide +kernel
theorem dX5_go_41 : decode cX5_go 41 = .ok (.iload_n 1, 1) := by decide +kernel
theorem dX5_go_42 : decode cX5_go 42 = .ok (.iaload, 1) := by decide +kernel
theorem dX5_go_43 : decode cX5_go 43 = .ok (.aload_n 0, 1) := by decide +kernel
theorem dX5_go_44 : decode cX5_go 44 = .ok (.getfield 3, 3) := by decide +kernel
theorem dX5_go_47 : decode cX5_go 47 = .ok (.getfield 87, 3) := by decide +kernel
theorem dX5_go_50 : decode cX5_go 50 = .ok (.iload_n 1, 1) := by decide +kernel
theorem dX5_go_51 : decode cX5_go 51 = .ok (.iaload, 1) := by decide +kernel
theorem dX5_go_52 : decode cX5_go 52 = .ok (.iadd, 1) := by decide +kernel
theorem dX5_go_53 : decode cX5_go 53 = .ok (.istore_n 2, 1) := by decide +kernel
theorem dX5_go_54 : decode cX5_go 54 = .ok (.aload_n 0, 1) := by decide +kernel
theorem dX5_go_55 : decode cX5_go 55 = .ok (.getfield 15, 3) := by decide +kernel
theorem dX5_go_58 : decode cX5_go 58 = .ok (.iload_n 1, 1) := by decide +kernel
theorem dX5_go_59 : decode cX5_go 59 = .ok (.iload_n 2, 1) := by decide +kernel
theorem dX5_go_60 : decode cX5_go 60 = .ok (.iconst 0, 1) := by decide +kernel
theorem dX5_go_61 : decode cX5_go 61 = .ok (.bipush 59, 2) := by decide +kernel
theorem dX5_go_63 : decode cX5_go 63 = .ok (.invokestatic 90, 3) := by decide +kernel
theorem dX5_go_66 : decode cX5_go 66 = .ok (.ifCond .eq 7, 3) := by decide +kernel
theorem dX5_go_69 : decode cX5_go 69 = .ok (.iload_n 2, 1) := by decide +kernel
theorem dX5_go_70 : decode cX5_go 70 = .ok (.goto 4, 3) := by decide +kernel
theorem dX5_go_73 : decode cX5_go 73 = .ok (.iconst (-1), 1) := by decide +kernel
theorem dX5_go_74 : decode cX5_go 74 = .ok (.iastore, 1) := by decide +kernel
theorem dX5_go_75 : decode cX5_go 75 = .ok (.iinc 1 1, 3) := by decide +kernel
theorem dX5_go_78 : decode cX5_go 78 = .ok (.goto (-65), 3) := by decide +kernel
theorem dX5_go_81 : decode cX5_go 81 = .ok (.iconst 0, 1) := by decide +kernel
theorem dX5_go_82 : decode cX5_go 82 = .ok (.istore_n 1, 1) := by decide +kernel
theorem dX5_go_83 : decode cX5_go 83 = .ok (.iload_n 1, 1) := by decide +kernel
theorem dX5_go_84 : decode cX5_go 84 = .ok (.aload_n 0, 1) := by decide +kernel
theorem dX5_go_85 : decode cX5_go 85 = .ok (.getfield 3, 3) := by decide +kernel
theorem dX5_go_88 : decode cX5_go 88 = .ok (.getfield 94, 3) := by decide +kernel
theorem dX5_go_91 : decode cX5_go 91 = .ok (.if_icmp .ge 94, 3) := by decide +kernel
theorem dX5_go_94 : decode cX5_go 94 = .ok (.aload_n 0, 1) := by decide +kernel
theorem dX5_go_95 : decode cX5_go 95 = .ok (.iload_n 1, 1) := by decide +kernel
theorem dX5_go_96 : decode cX5_go 96 = .ok (.invokevirtual 97, 3) := by decide +kernel
theorem dX5_go_99 : decode cX5_go 99 = .ok (.istore_n 2, 1) := by decide +kernel
theorem dX5_go_100 : decode cX5_go 100 = .ok (.iload_n 2, 1) := by decide +kernel
theorem dX5_go_101 : decode cX5_go 101 = .ok (.ifCond .ne 24, 3) := by decide +kernel
theorem dX5_go_104 : decode cX5_go 104 = .ok (.aload_n 0, 1) := by decide +kernel
theorem dX5_go_105 : decode cX5_go 105 = .ok (.getfield 22, 3) := by decide +kernel
theorem dX5_go_108 : decode cX5_go 108 = .ok (.iload_n 1, 1) := by decide +kernel
theorem dX5_go_109 : decode cX5_go 109 = .ok (.iconst 0, 1) := by decide +kernel
theorem dX5_go_110 : decode cX5_go 110 = .ok (.aload_n 0, 1) := by decide +kernel
theorem dX5_go_111 : decode cX5_go 111 = .ok (.getfield 22, 3) := by decide +kernel
theorem dX5_go_114 : decode cX5_go 114 = .ok (.iload_n 1, 1) := by decide +kernel
theorem dX5_go_115 : decode cX5_go 115 = .ok (.iaload, 1) := by decide +kernel
theorem dX5_go_116 : decode cX5_go 116 = .ok (.iconst 1, 1) := by decide +kernel
theorem dX5_go_117 : decode cX5_go 117 = .ok (.isub, 1) := by decide +kernel
theorem dX5_go_118 : decode cX5_go 118 = .ok (.invokestatic 100, 3) := by decide +kernel
theorem dX5_go_121 : decode cX5_go 121 = .ok (.iastore, 1) := by decide +kernel
theorem dX5_go_122 : decode cX5_go 122 = .ok (.goto 24, 3) := by decide +kernel
theorem dX5_go_125 : decode cX5_go 125 = .ok (.aload_n 0, 1) := by decide +kernel
theorem dX5_go_126 : decode cX5_go 126 = .ok (.getfield 25, 3) := by decide +kernel
theorem dX5_go_129 : decode cX5_go 129 = .ok (.iload_n 1, 1) := by decide +kernel
theorem dX5_go_130 : decode cX5_go 130 = .ok (.dup2, 1) := by decide +kernel
theorem dX5_go_131 : decode cX5_go 131 = .ok (.iaload, 1) := by decide +kernel
theorem dX5_go_132 : decode cX5_go 132 = .ok (.aload_n 0, 1) := by decide +kernel
theorem dX5_go_133 : decode cX5_go 133 = .ok (.getfield 22, 3) := by decide +kernel
theorem dX5_go_136 : decode cX5_go 136 = .ok (.iload_n 1, 1) := by decide +kernel
theorem dX5_go_137 : decode cX5_go 137 = .ok (.iaload, 1) := by decide +kernel
theorem dX5_go_138 : decode cX5_go 138 = .ok (.iconst 2, 1) := by decide +kernel
theorem dX5_go_139 : decode cX5_go 139 = .ok (.iload_n 2, 1) := by decide +kernel
theorem dX5_go_140 : decode cX5_go 140 = .ok (.invokestatic 103, 3) := by decide +kernel
theorem dX5_go_143 : decode cX5_go 143 = .ok (.imul, 1) := by decide +kernel
theorem dX5_go_144 : decode cX5_go 144 = .ok (.iadd, 1) := by decide +kernel
theorem dX5_go_145 : decode cX5_go 145 = .ok (.iastore, 1) := by decide +kernel
theorem dX5_go_146 : decode cX5_go 146 = .ok (.iload_n 2, 1) := by decide +kernel
theorem dX5_go_147 : decode cX5_go 147 = .ok (.iconst 1, 1) := by decide +kernel
theorem dX5_go_148 : decode cX5_go 148 = .ok (.if_icmp .le 31, 3) := by decide +kernel
theorem dX5_go_151 : decode cX5_go 151 = .ok (.aload_n 0, 1) := by decide +kernel
theorem dX5_go_152 : decode cX5_go 152 = .ok (.getfield 22, 3) := by decide +kernel
theorem dX5_go_155 : decode cX5_go 155 = .ok (.iload_n 1, 1) := by decide +kernel
theorem dX5_go_156 : decode cX5_go 156 = .ok (.iaload, 1) := by decide +kernel
theorem dX5_go_157 : decode cX5_go 157 = .ok (.aload_n 0, 1) := by decide +kernel
theorem dX5_go_158 : decode cX5_go 158 = .ok (.getfield 3, 3) := by decide +kernel
theorem dX5_go_161 : decode cX5_go 161 = .ok (.getfield 106, 3) := by decide +kernel
theorem dX5_go_164 : decode cX5_go 164 = .ok (.iload_n 1, 1) := by decide +kernel
theorem dX5_go_165 : decode cX5_go 165 = .ok (.iaload, 1) := by decide +kernel
theorem dX5_go_166 : decode cX5_go 166 = .ok (.if_icmp .ge 13, 3) := by decide +kernel
theorem dX5_go_169 : decode cX5_go 169 = .ok (.aload_n 0, 1) := by decide +kernel
theorem dX5_go_170 : decode cX5_go 170 = .ok (.getfield 22, 3) := by decide +kernel
theorem dX5_go_173 : decode cX5_go 173 = .ok (.iload_n 1, 1) := by decide +kernel
theorem dX5_go_174 : decode cX5_go 174 = .ok (.dup2, 1) := by decide +kernel
theorem dX5_go_175 : decode cX5_go 175 = .ok (.iaload, 1) := by decide +kernel
theorem dX5_go_176 : decode cX5_go 176 = .ok (.iconst 1, 1) := by decide +kernel
theorem dX5_go_177 : decode cX5_go 177 = .ok (.iadd, 1) := by decide +kernel
theorem dX5_go_178 : decode cX5_go 178 = .ok (.iastore, 1) := by decide +kernel
theorem dX5_go_179 : decode cX5_go 179 = .ok (.iinc 1 1, 3) := by decide +kernel
theorem dX5_go_182 : decode cX5_go 182 = .ok (.goto (-99), 3) := by decide +kernel
theorem dX5_go_185 : decode cX5_go 185 = .ok (.aload_n 0, 1) := by decide +kernel
theorem dX5_go_186 : decode cX5_go 186 = .ok (.dup, 1) := by decide +kernel
theorem dX5_go_187 : decode cX5_go 187 = .ok (.getfield 34, 3) := by decide +kernel
theorem dX5_go_190 : decode cX5_go 190 = .ok (.iconst 1, 1) := by decide +kernel
theorem dX5_go_191 : decode cX5_go 191 = .ok (.iadd, 1) := by decide +kernel
theorem dX5_go_192 : decode cX5_go 192 = .ok (.putfield 34, 3) := by decide +kernel
theorem dX5_go_195 : decode cX5_go 195 = .ok (.return_, 1) := by decide +kernel
theorem dX5_go__0 : decode cX5_go_ 0 = .ok (.iconst 0, 1) := by decide +kernel
theorem dX5_go__1 : decode cX5_go_ 1 = .ok (.istore_n 2, 1) := by decide +kernel
theorem dX5_go__2 : decode cX5_go_ 2 = .ok (.iload_n 2, 1) := by decide +kernel
theorem dX5_go__3 : decode cX5_go_ 3 = .ok (.iload_n 1, 1) := by decide +kernel
theorem dX5_go__4 : decode cX5_go_ 4 = .ok (.if_icmp .ge 13, 3) := by decide +kernel
theorem dX5_go__7 : decode cX5_go_ 7 = .ok (.aload_n 0, 1) := by decide +kernel
theorem dX5_go__8 : decode cX5_go_ 8 = .ok (.invokevirtual 109, 3) := by decide +kernel
theorem dX5_go__11 : decode cX5_go_ 11 = .ok (.iinc 2 1, 3) := by decide +kernel
theorem dX5_go__14 : decode cX5_go_ 14 = .ok (.goto (-12), 3) := by decide +kernel
theorem dX5_go__17 : decode cX5_go_ 17 = .ok (.return_, 1) := by decide +kernel
theorem dX5_paidInAll_0 : decode cX5_paidInAll 0 = .ok (.iconst 0, 1) := by decide +kernel
theorem dX5_paidInAll_1 : decode cX5_paidInAll 1 = .ok (.istore_n 1, 1) := by decide +kernel
theorem dX5_paidInAll_2 : decode cX5_paidInAll 2 = .ok (.iconst 0, 1) := by decide +kernel
theorem dX5_paidInAll_3 : decode cX5_paidInAll 3 = .ok (.istore_n 2, 1) := by decide +kernel
theorem dX5_paidInAll_4 : decode cX5_paidInAll 4 = .ok (.iload_n 2, 1) := by decide +kernel
theorem dX5_paidInAll_5 : decode cX5_paidInAll 5 = .ok (.aload_n 0, 1) := by decide +kernel
theorem dX5_paidInAll_6 : decode cX5_paidInAll 6 = .ok (.getfield 3, 3) := by decide +kernel
theorem dX5_paidInAll_9 : decode cX5_paidInAll 9 = .ok (.getfield 94, 3) := by decide +kernel
theorem dX5_paidInAll_12 : decode cX5_paidInAll 12 = .ok (.if_icmp .ge 18, 3) := by decide +kernel
theorem dX5_paidInAll_15 : decode cX5_paidInAll 15 = .ok (.iload_n 1, 1) := by decide +kernel
theorem dX5_paidInAll_16 : decode cX5_paidInAll 16 = .ok (.aload_n 0, 1) := by decide +kernel
theorem dX5_paidInAll_17 : decode cX5_paidInAll 17 = .ok (.getfield 25, 3) := by decide +kernel
theorem dX5_paidInAll_20 : decode cX5_paidInAll 20 = .ok (.iload_n 2, 1) := by decide +kernel
theorem dX5_paidInAll_21 : decode cX5_paidInAll 21 = .ok (.iaload, 1) := by decide +kernel
theorem dX5_paidInAll_22 : decode cX5_paidInAll 22 = .ok (.iadd, 1) := by decide +kernel
theorem dX5_paidInAll_23 : decode cX5_paidInAll 23 = .ok (.istore_n 1, 1) := by decide +kernel
theorem dX5_paidInAll_24 : decode cX5_paidInAll 24 = .ok (.iinc 2 1, 3) := by decide +kernel
theorem dX5_paidInAll_27 : decode cX5_paidInAll 27 = .ok (.goto (-23), 3) := by decide +kernel
theorem dX5_paidInAll_30 : decode cX5_paidInAll 30 = .ok (.iload_n 1, 1) := by decide +kernel
theorem dX5_paidInAll_31 : decode cX5_paidInAll 31 = .ok (.ireturn, 1) := by decide +kernel
theorem dX5_inAll_0 : decode cX5_inAll 0 = .ok (.iconst 0, 1) := by decide +kernel
theorem dX5_inAll_1 : decode cX5_inAll 1 = .ok (.istore_n 1, 1) := by decide +kernel
theorem dX5_inAll_2 : decode cX5_inAll 2 = .ok (.iconst 0, 1) := by decide +kernel
theorem dX5_inAll_3 : decode cX5_inAll 3 = .ok (.istore_n 2, 1) := by decide +kernel
theorem dX5_inAll_4 : decode cX5_inAll 4 = .ok (.iload_n 2, 1) := by decide +kernel
theorem dX5_inAll_5 : decode cX5_inAll 5 = .ok (.aload_n 0, 1) := by decide +kernel
theorem dX5_inAll_6 : decode cX5_inAll 6 = .ok (.getfield 3, 3) := by decide +kernel
theorem dX5_inAll_9 : decode cX5_inAll 9 = .ok (.getfield 94, 3) := by decide +kernel
theorem dX5_inAll_12 : decode cX5_inAll 12 = .ok (.if_icmp .ge 18, 3) := by decide +kernel
theorem dX5_inAll_15 : decode cX5_inAll 15 = .ok (.iload_n 1, 1) := by decide +kernel
theorem dX5_inAll_16 : decode cX5_inAll 16 = .ok (.aload_n 0, 1) := by decide +kernel
theorem dX5_inAll_17 : decode cX5_inAll 17 = .ok (.getfield 22, 3) := by decide +kernel
theorem dX5_inAll_20 : decode cX5_inAll 20 = .ok (.iload_n 2, 1) := by decide +kernel
theorem dX5_inAll_21 : decode cX5_inAll 21 = .ok (.iaload, 1) := by decide +kernel
theorem dX5_inAll_22 : decode cX5_inAll 22 = .ok (.iadd, 1) := by decide +kernel
theorem dX5_inAll_23 : decode cX5_inAll 23 = .ok (.istore_n 1, 1) := by decide +kernel
theorem dX5_inAll_24 : decode cX5_inAll 24 = .ok (.iinc 2 1, 3) := by decide +kernel
theorem dX5_inAll_27 : decode cX5_inAll 27 = .ok (.goto (-23), 3) := by decide +kernel
theorem dX5_inAll_30 : decode cX5_inAll 30 = .ok (.iload_n 1, 1) := by decide +kernel
theorem dX5_inAll_31 : decode cX5_inAll 31 = .ok (.ireturn, 1) := by decide +kernel
theorem dX5_gone_0 : decode cX5_gone 0 = .ok (.iconst 0, 1) := by decide +kernel
theorem dX5_gone_1 : decode cX5_gone 1 = .ok (.istore_n 1, 1) := by decide +kernel
theorem dX5_gone_2 : decode cX5_gone 2 = .ok (.iconst 0, 1) := by decide +kernel
theorem dX5_gone_3 : decode cX5_gone 3 = .ok (.istore_n 2, 1) := by decide +kernel
theorem dX5_gone_4 : decode cX5_gone 4 = .ok (.iload_n 2, 1) := by decide +kernel
theorem dX5_gone_5 : decode cX5_gone 5 = .ok (.aload_n 0, 1) := by decide +kernel
theorem dX5_gone_6 : decode cX5_gone 6 = .ok (.getfield 3, 3) := by decide +kernel
theorem dX5_gone_9 : decode cX5_gone 9 = .ok (.getfield 81, 3) := by decide +kernel
theorem dX5_gone_12 : decode cX5_gone 12 = .ok (.if_icmp .ge 27, 3) := by decide +kernel
theorem dX5_gone_15 : decode cX5_gone 15 = .ok (.iload_n 1, 1) := by decide +kernel
theorem dX5_gone_16 : decode cX5_gone 16 = .ok (.aload_n 0, 1) := by decide +kernel
theorem dX5_gone_17 : decode cX5_gone 17 = .ok (.getfield 15, 3) := by decide +kernel
theorem dX5_gone_20 : decode cX5_gone 20 = .ok (.iload_n 2, 1) := by decide +kernel
theorem dX5_gone_21 : decode cX5_gone 21 = .ok (.iaload, 1) := by decide +kernel
theorem dX5_gone_22 : decode cX5_gone 22 = .ok (.iconst (-1), 1) := by decide +kernel
theorem dX5_gone_23 : decode cX5_gone 23 = .ok (.if_icmp .ne 7, 3) := by decide +kernel
theorem dX5_gone_26 : decode cX5_gone 26 = .ok (.iconst 1, 1) := by decide +kernel
theorem dX5_gone_27 : decode cX5_gone 27 = .ok (.goto 4, 3) := by decide +kernel
theorem dX5_gone_30 : decode cX5_gone 30 = .ok (.iconst 0, 1) := by decide +kernel
theorem dX5_gone_31 : decode cX5_gone 31 = .ok (.iadd, 1) := by decide +kernel
theorem dX5_gone_32 : decode cX5_gone 32 = .ok (.istore_n 1, 1) := by decide +kernel
theorem dX5_gone_33 : decode cX5_gone 33 = .ok (.iinc 2 1, 3) := by decide +kernel
theorem dX5_gone_36 : decode cX5_gone 36 = .ok (.goto (-32), 3) := by decide +kernel
theorem dX5_gone_39 : decode cX5_gone 39 = .ok (.iload_n 1, 1) := by decide +kernel
theorem dX5_gone_40 : decode cX5_gone 40 = .ok (.ireturn, 1) := by decide +kernel
theorem dX6_init_0 : decode cX6_init 0 = .ok (.aload_n 0, 1) := by decide +kernel
theorem dX6_init_1 : decode cX6_init 1 = .ok (.invokespecial 1, 3) := by decide +kernel
theorem dX6_init_4 : decode cX6_init 4 = .ok (.aload_n 0, 1) := by decide +kernel
theorem dX6_init_5 : decode cX6_init 5 = .ok (.bipush 12, 2) := by decide +kernel
theorem dX6_init_7 : decode cX6_init 7 = .ok (.newarray .int, 2) := by decide +kernel
theorem dX6_init_9 : decode cX6_init 9 = .ok (.putfield 9, 3) := by decide +kernel
theorem dX6_init_12 : decode cX6_init 12 = .ok (.aload_n 0, 1) := by decide +kernel
theorem dX6_init_13 : decode cX6_init 13 = .ok (.bipush 12, 2) := by decide +kernel
theorem dX6_init_15 : decode cX6_init 15 = .ok (.newarray .int, 2) := by decide +kernel
theorem dX6_init_17 : decode cX6_init 17 = .ok (.putfield 13, 3) := by decide +kernel
theorem dX6_init_20 : decode cX6_init 20 = .ok (.aload_n 0, 1) := by decide +kernel
theorem dX6_init_21 : decode cX6_init 21 = .ok (.bipush 10, 2) := by decide +kernel
theorem dX6_init_23 : decode cX6_init 23 = .ok (.newarray .int, 2) := by decide +kernel
theorem dX6_init_25 : decode cX6_init 25 = .ok (.putfield 16, 3) := by decide +kernel
theorem dX6_init_28 : decode cX6_init 28 = .ok (.aload_n 0, 1) := by decide +kernel
theorem dX6_init_29 : decode cX6_init 29 = .ok (.bipush 10, 2) := by decide +kernel
theorem dX6_init_31 : decode cX6_init 31 = .ok (.newarray .int, 2) := by decide +kernel
theorem dX6_init_33 : decode cX6_init 33 = .ok (.putfield 19, 3) := by decide +kernel
theorem dX6_init_36 : decode cX6_init 36 = .ok (.aload_n 0, 1) := by decide +kernel
theorem dX6_init_37 : decode cX6_init 37 = .ok (.bipush 10, 2) := by decide +kernel
theorem dX6_init_39 : decode cX6_init 39 = .ok (.newarray .int, 2) := by decide +kernel
theorem dX6_init_41 : decode cX6_init 41 = .ok (.putfield 22, 3) := by decide +kernel
theorem dX6_init_44 : decode cX6_init 44 = .ok (.aload_n 0, 1) := by decide +kernel
theorem dX6_init_45 : decode cX6_init 45 = .ok (.bipush 8, 2) := by decide +kernel
theorem dX6_init_47 : decode cX6_init 47 = .ok (.newarray .int, 2) := by decide +kernel
theorem dX6_init_49 : decode cX6_init 49 = .ok (.putfield 25, 3) := by decide +kernel
theorem dX6_init_52 : decode cX6_init 52 = .ok (.aload_n 0, 1) := by decide +kernel
theorem dX6_init_53 : decode cX6_init 53 = .ok (.bipush 8, 2) := by decide +kernel
theorem dX6_init_55 : decode cX6_init 55 = .ok (.newarray .int, 2) := by decide +kernel
theorem dX6_init_57 : decode cX6_init 57 = .ok (.putfield 28, 3) := by decide +kernel
theorem dX6_init_60 : decode cX6_init 60 = .ok (.aload_n 0, 1) := by decide +kernel
theorem dX6_init_61 : decode cX6_init 61 = .ok (.bipush 8, 2) := by decide +kernel
theorem dX6_init_63 : decode cX6_init 63 = .ok (.newarray .int, 2) := by decide +kernel
theorem dX6_init_65 : decode cX6_init 65 = .ok (.putfield 31, 3) := by decide +kernel
theorem dX6_init_68 : decode cX6_init 68 = .ok (.aload_n 0, 1) := by decide +kernel
theorem dX6_init_69 : decode cX6_init 69 = .ok (.bipush 8, 2) := by decide +kernel
theorem dX6_init_71 : decode cX6_init 71 = .ok (.newarray .int, 2) := by decide +kernel
theorem dX6_init_73 : decode cX6_init 73 = .ok (.putfield 34, 3) := by decide +kernel
theorem dX6_init_76 : decode cX6_init 76 = .ok (.aload_n 0, 1) := by decide +kernel
theorem dX6_init_77 : decode cX6_init 77 = .ok (.new 37, 3) := by decide +kernel
theorem dX6_init_80 : decode cX6_init 80 = .ok (.dup, 1) := by decide +kernel
theorem dX6_init_81 : decode cX6_init 81 = .ok (.aload_n 0, 1) := by decide +kernel
theorem dX6_init_82 : decode cX6_init 82 = .ok (.invokespecial 39, 3) := by decide +kernel
theorem dX6_init_85 : decode cX6_init 85 = .ok (.putfield 42, 3) := by decide +kernel
theorem dX6_init_88 : decode cX6_init 88 = .ok (.aload_n 0, 1) := by decide +kernel
theorem dX6_init_89 : decode cX6_init 89 = .ok (.new 37, 3) := by decide +kernel
theorem dX6_init_92 : decode cX6_init 92 = .ok (.dup, 1) := by decide +kernel
theorem dX6_init_93 : decode cX6_init 93 = .ok (.aload_n 0, 1) := by decide +kernel
theorem dX6_init_94 : decode cX6_init 94 = .ok (.invokespecial 39, 3) := by decide +kernel
theorem dX6_init_97 : decode cX6_init 97 = .ok (.putfield 46, 3) := by decide +kernel
theorem dX6_init_100 : decode cX6_init 100 = .ok (.iconst 0, 1) := by decide +kernel
theorem dX6_init_101 : decode cX6_init 101 = .ok (.istore_n 1, 1) := by decide +kernel
theorem dX6_init_102 : decode cX6_init 102 = .ok (.iload_n 1, 1) := by decide +kernel
theorem dX6_init_103 : decode cX6_init 103 = .ok (.bipush 12, 2) := by decide +kernel
theorem dX6_init_105 : decode cX6_init 105 = .ok (.if_icmp .ge 17, 3) := by decide +kernel
theorem dX6_init_108 : decode cX6_init 108 = .ok (.aload_n 0, 1) := by decide +kernel
theorem dX6_init_109 : decode cX6_init 109 = .ok (.getfield 9, 3) := by decide +kernel
theorem dX6_init_112 : decode cX6_init 112 = .ok (.iload_n 1, 1) := by decide +kernel
theorem dX6_init_113 : decode cX6_init 113 = .ok (.bipush 50, 2) := by decide +kernel
theorem dX6_init_115 : decode cX6_init 115 = .ok (.iastore, 1) := by decide +kernel
theorem dX6_init_116 : decode cX6_init 116 = .ok (.iinc 1 1, 3) := by decide +kernel
theorem dX6_init_119 : decode cX6_init 119 = .ok (.goto (-17), 3) := by decide +kernel
theorem dX6_init_122 : decode cX6_init 122 = .ok (.return_, 1) := by decide +kernel
theorem dX6_thrown_0 : decode cX6_thrown 0 = .ok (.aload_n 0, 1) := by decide +kernel
theorem dX6_thrown_1 : decode cX6_thrown 1 = .ok (.getfield 49, 3) := by decide +kernel
theorem dX6_thrown_4 : decode cX6_thrown 4 = .ok (.ireturn, 1) := by decide +kernel
theorem dX6_no_0 : decode cX6_no 0 = .ok (.aload_n 0, 1) := by decide +kernel
theorem dX6_no_1 : decode cX6_no 1 = .ok (.iload_n 1, 1) := by decide +kernel
theorem dX6_no_2 : decode cX6_no 2 = .ok (.putfield 49, 3) := by decide +kernel
theorem dX6_no_5 : decode cX6_no 5 = .ok (.iconst 0, 1) := by decide +kernel
theorem dX6_no_6 : decode cX6_no 6 = .ok (.ireturn, 1) := by decide +kernel
theorem dX6_isIn_0 : decode cX6_isIn 0 = .ok (.iload_n 0, 1) := by decide +kernel
theorem dX6_isIn_1 : decode cX6_isIn 1 = .ok (.iload_n 1, 1) := by decide +kernel
theorem dX6_isIn_2 : decode cX6_isIn 2 = .ok (.if_icmp .lt 12, 3) := by decide +kernel
theorem dX6_isIn_5 : decode cX6_isIn 5 = .ok (.iload_n 0, 1) := by decide +kernel
theorem dX6_isIn_6 : decode cX6_isIn 6 = .ok (.iload_n 2, 1) := by decide +kernel
theorem dX6_isIn_7 : decode cX6_isIn 7 = .ok (.if_icmp .gt 7, 3) := by decide +kernel
theorem dX6_isIn_10 : decode cX6_isIn 10 = .ok (.iconst 1, 1) := by decide +kernel
theorem dX6_isIn_11 : decode cX6_isIn 11 = .ok (.goto 4, 3) := by decide +kernel
theorem dX6_isIn_14 : decode cX6_isIn 14 = .ok (.iconst 0, 1) := by decide +kernel
theorem dX6_isIn_15 : decode cX6_isIn 15 = .ok (.ireturn, 1) := by decide +kernel
theorem dX6_isRoom_0 : decode cX6_isRoom 0 = .ok (.iload_n 1, 1) := by decide +kernel
theorem dX6_isRoom_1 : decode cX6_isRoom 1 = .ok (.iconst 0, 1) := by decide +kernel
theorem dX6_isRoom_2 : decode cX6_isRoom 2 = .ok (.aload_n 0, 1) := by decide +kernel
theorem dX6_isRoom_3 : decode cX6_isRoom 3 = .ok (.getfield 53, 3) := by decide +kernel
theorem dX6_isRoom_6 : decode cX6_isRoom 6 = .ok (.iconst 1, 1) := by decide +kernel
theorem dX6_isRoom_7 : decode cX6_isRoom 7 = .ok (.isub, 1) := by decide +kernel
theorem dX6_isRoom_8 : decode cX6_isRoom 8 = .ok (.invokestatic 56, 3) := by decide +kernel
theorem dX6_isRoom_11 : decode cX6_isRoom 11 = .ok (.ireturn, 1) := by decide +kernel
theorem dX6_isPasser_0 : decode cX6_isPasser 0 = .ok (.iload_n 1, 1) := by decide +kernel
theorem dX6_isPasser_1 : decode cX6_isPasser 1 = .ok (.iconst 0, 1) := by decide +kernel
theorem dX6_isPasser_2 : decode cX6_isPasser 2 = .ok (.aload_n 0, 1) := by decide +kernel
theorem dX6_isPasser_3 : decode cX6_isPasser 3 = .ok (.getfield 60, 3) := by decide +kernel
theorem dX6_isPasser_6 : decode cX6_isPasser 6 = .ok (.iconst 1, 1) := by decide +kernel
theorem dX6_isPasser_7 : decode cX6_isPasser 7 = .ok (.isub, 1) := by decide +kernel
theorem dX6_isPasser_8 : decode cX6_isPasser 8 = .ok (.invokestatic 56, 3) := by decide +kernel
theorem dX6_isPasser_11 : decode cX6_isPasser 11 = .ok (.ireturn, 1) := by decide +kernel
theorem dX6_pass_0 : decode cX6_pass 0 = .ok (.aload_n 0, 1) := by decide +kernel
theorem dX6_pass_1 : decode cX6_pass 1 = .ok (.iconst 0, 1) := by decide +kernel
theorem dX6_pass_2 : decode cX6_pass 2 = .ok (.putfield 49, 3) := by decide +kernel
theorem dX6_pass_5 : decode cX6_pass 5 = .ok (.iload_n 1, 1) := by decide +kernel
theorem dX6_pass_6 : decode cX6_pass 6 = .ok (.iconst 0, 1) := by decide +kernel
theorem dX6_pass_7 : decode cX6_pass 7 = .ok (.bipush 59, 2) := by decide +kernel
theorem dX6_pass_9 : decode cX6_pass 9 = .ok (.invokestatic 56, 3) := by decide +kernel
theorem dX6_pass_12 : decode cX6_pass 12 = .ok (.ifCond .eq 34, 3) := by decide +kernel
theorem dX6_pass_15 : decode cX6_pass 15 = .ok (.iload_n 2, 1) := by decide +kernel
theorem dX6_pass_16 : decode cX6_pass 16 = .ok (.bipush (-3), 2) := by decide +kernel
theorem dX6_pass_18 : decode cX6_pass 18 = .ok (.iconst 3, 1) := by decide +kernel
theorem dX6_pass_19 : decode cX6_pass 19 = .ok (.invokestatic 56, 3) := by decide +kernel
theorem dX6_pass_22 : decode cX6_pass 22 = .ok (.ifCond .eq 24, 3) := by decide +kernel
theorem dX6_pass_25 : decode cX6_pass 25 = .ok (.iload_n 3, 1) := by decide +kernel
theorem dX6_pass_26 : decode cX6_pass 26 = .ok (.iconst 1, 1) := by decide +kernel
theorem dX6_pass_27 : decode cX6_pass 27 = .ok (.bipush 9, 2) := by decide +kernel
theorem dX6_pass_29 : decode cX6_pass 29 = .ok (.invokestatic 56, 3) := by decide +kernel
theorem dX6_pass_32 : decode cX6_pass 32 = .ok (.ifCond .eq 14, 3) := by decide +kernel
theorem dX6_pass_35 : decode cX6_pass 35 = .ok (.iload 4, 2) := by decide +kernel
theorem dX6_pass_37 : decode cX6_pass 37 = .ok (.iconst 1, 1) := by decide +kernel
theorem dX6_pass_38 : decode cX6_pass 38 = .ok (.bipush 9, 2) := by decide +kernel
theorem dX6_pass_40 : decode cX6_pass 40 = .ok (.invokestatic 56, 3) := by decide +kernel
theorem dX6_pass_43 : decode cX6_pass 43 = .ok (.ifCond .ne 9, 3) := by decide +kernel
theorem dX6_pass_46 : decode cX6_pass 46 = .ok (.aload_n 0, 1) := by decide +kernel
theorem dX6_pass_47 : decode cX6_pass 47 = .ok (.iconst 1, 1) := by decide +kernel
theorem dX6_pass_48 : decode cX6_pass 48 = .ok (.invokevirtual 63, 3) := by decide +kernel
theorem dX6_pass_51 : decode cX6_pass 51 = .ok (.ireturn, 1) := by decide +kernel
theorem dX6_pass_52 : decode cX6_pass 52 = .ok (.aload_n 0, 1) := by decide +kernel
theorem dX6_pass_53 : decode cX6_pass 53 = .ok (.getfield 60, 3) := by decide +kernel
theorem dX6_pass_56 : decode cX6_pass 56 = .ok (.bipush 10, 2) := by decide +kernel
theorem dX6_pass_58 : decode cX6_pass 58 = .ok (.if_icmp .ne 9, 3) := by decide +kernel
theorem dX6_pass_61 : decode cX6_pass 61 = .ok (.aload_n 0, 1) := by decide +kernel
theorem dX6_pass_62 : decode cX6_pass 62 = .ok (.iconst 2, 1) := by decide +kernel
theorem dX6_pass_63 : decode cX6_pass 63 = .ok (.invokevirtual 63, 3) := by decide +kernel
theorem dX6_pass_66 : decode cX6_pass 66 = .ok (.ireturn, 1) := by decide +kernel
theorem dX6_pass_67 : decode cX6_pass 67 = .ok (.aload_n 0, 1) := by decide +kernel
theorem dX6_pass_68 : decode cX6_pass 68 = .ok (.getfield 42, 3) := by decide +kernel
theorem dX6_pass_71 : decode cX6_pass 71 = .ok (.getfield 67, 3) := by decide +kernel
theorem dX6_pass_74 : decode cX6_pass 74 = .ok (.aload_n 0, 1) := by decide +kernel
theorem dX6_pass_75 : decode cX6_pass 75 = .ok (.getfield 60, 3) := by decide +kernel
theorem dX6_pass_78 : decode cX6_pass 78 = .ok (.iload_n 1, 1) := by decide +kernel
theorem dX6_pass_79 : decode cX6_pass 79 = .ok (.iastore, 1) := by decide +kernel
theorem dX6_pass_80 : decode cX6_pass 80 = .ok (.aload_n 0, 1) := by decide +kernel
theorem dX6_pass_81 : decode cX6_pass 81 = .ok (.getfield 16, 3) := by decide +kernel
theorem dX6_pass_84 : decode cX6_pass 84 = .ok (.aload_n 0, 1) := by decide +kernel
theorem dX6_pass_85 : decode cX6_pass 85 = .ok (.getfield 60, 3) := by decide +kernel
theorem dX6_pass_88 : decode cX6_pass 88 = .ok (.iload_n 2, 1) := by decide +kernel
theorem dX6_pass_89 : decode cX6_pass 89 = .ok (.iastore, 1) := by decide +kernel
theorem dX6_pass_90 : decode cX6_pass 90 = .ok (.aload_n 0, 1) := by decide +kernel
theorem dX6_pass_91 : decode cX6_pass 91 = .ok (.getfield 19, 3) := by decide +kernel
theorem dX6_pass_94 : decode cX6_pass 94 = .ok (.aload_n 0, 1) := by decide +kernel
theorem dX6_pass_95 : decode cX6_pass 95 = .ok (.getfield 60, 3) := by decide +kernel
theorem dX6_pass_98 : decode cX6_pass 98 = .ok (.iload_n 3, 1) := by decide +kernel
theorem dX6_pass_99 : decode cX6_pass 99 = .ok (.iastore, 1) := by decide +kernel
theorem dX6_pass_100 : decode cX6_pass 100 = .ok (.aload_n 0, 1) := by decide +kernel
theorem dX6_pass_101 : decode cX6_pass 101 = .ok (.getfield 22, 3) := by decide +kernel
theorem dX6_pass_104 : decode cX6_pass 104 = .ok (.aload_n 0, 1) := by decide +kernel
theorem dX6_pass_105 : decode cX6_pass 105 = .ok (.getfield 60, 3) := by decide +kernel
theorem dX6_pass_108 : decode cX6_pass 108 = .ok (.iload 4, 2) := by decide +kernel
theorem dX6_pass_110 : decode cX6_pass 110 = .ok (.iastore, 1) := by decide +kernel
theorem dX6_pass_111 : decode cX6_pass 111 = .ok (.aload_n 0, 1) := by decide +kernel
theorem dX6_pass_112 : decode cX6_pass 112 = .ok (.dup, 1) := by decide +kernel
theorem dX6_pass_113 : decode cX6_pass 113 = .ok (.getfield 60, 3) := by decide +kernel
theorem dX6_pass_116 : decode cX6_pass 116 = .ok (.iconst 1, 1) := by decide +kernel
theorem dX6_pass_117 : decode cX6_pass 117 = .ok (.iadd, 1) := by decide +kernel
theorem dX6_pass_118 : decode cX6_pass 118 = .ok (.putfield 60, 3) := by decide +kernel
theorem dX6_pass_121 : decode cX6_pass 121 = .ok (.aload_n 0, 1) := by decide +kernel
theorem dX6_pass_122 : decode cX6_pass 122 = .ok (.getfield 60, 3) := by decide +kernel
theorem dX6_pass_125 : decode cX6_pass 125 = .ok (.iconst 1, 1) := by decide +kernel
theorem dX6_pass_126 : decode cX6_pass 126 = .ok (.isub, 1) := by decide +kernel
theorem dX6_pass_127 : decode cX6_pass 127 = .ok (.ireturn, 1) := by decide +kernel
theorem dX6_setLight_0 : decode cX6_setLight 0 = .ok (.aload_n 0, 1) := by decide +kernel
theorem dX6_setLight_1 : decode cX6_setLight 1 = .ok (.iconst 0, 1) := by decide +kernel
theorem dX6_setLight_2 : decode cX6_setLight 2 = .ok (.putfield 49, 3) := by decide +kernel
theorem dX6_setLight_5 : decode cX6_setLight 5 = .ok (.iload_n 1, 1) := by decide +kernel
theorem dX6_setLight_6 : decode cX6_setLight 6 = .ok (.iconst 0, 1) := by decide +kernel
theorem dX6_setLight_7 : decode cX6_setLight 7 = .ok (.bipush 11, 2) := by decide +kernel
theorem dX6_setLight_9 : decode cX6_setLight 9 = .ok (.invokestatic 56, 3) := by decide +kernel
theorem dX6_setLight_12 : decode cX6_setLight 12 = .ok (.ifCond .ne 9, 3) := by decide +kernel
theorem dX6_setLight_15 : decode cX6_setLight 15 = .ok (.aload_n 0, 1) := by decide +kernel
theorem dX6_setLight_16 : decode cX6_setLight 16 = .ok (.iconst 1, 1) := by decide +kernel
theorem dX6_setLight_17 : decode cX6_setLight 17 = .ok (.invokevirtual 63, 3) := by decide +kernel
theorem dX6_setLight_20 : decode cX6_setLight 20 = .ok (.ireturn, 1) := by decide +kernel
theorem dX6_setLight_21 : decode cX6_setLight 21 = .ok (.iload_n 2, 1) := by decide +kernel
theorem dX6_setLight_22 : decode cX6_setLight 22 = .ok (.iconst 0, 1) := by decide +kernel
theorem dX6_setLight_23 : decode cX6_setLight 23 = .ok (.bipush 100, 2) := by decide +kernel
theorem dX6_setLight_25 : decode cX6_setLight 25 = .ok (.invokestatic 56, 3) := by decide +kernel
theorem dX6_setLight_28 : decode cX6_setLight 28 = .ok (.ifCond .eq 13, 3) := by decide +kernel
theorem dX6_setLight_31 : decode cX6_setLight 31 = .ok (.iload_n 3, 1) := by decide +kernel
theorem dX6_setLight_32 : decode cX6_setLight 32 = .ok (.iconst 0, 1) := by decide +kernel
theorem dX6_setLight_33 : decode cX6_setLight 33 = .ok (.bipush 9, 2) := by decide +kernel
theorem dX6_setLight_35 : decode cX6_setLight 35 = .ok (.invokestatic 56, 3) := by decide +kernel
theorem dX6_setLight_38 : decode cX6_setLight 38 = .ok (.ifCond .ne 9, 3) := by decide +kernel
theorem dX6_setLight_41 : decode cX6_setLight 41 = .ok (.aload_n 0, 1) := by decide +kernel
theorem dX6_setLight_42 : decode cX6_setLight 42 = .ok (.iconst 2, 1) := by decide +kernel
theorem dX6_setLight_43 : decode cX6_setLight 43 = .ok (.invokevirtual 63, 3) := by decide +kernel
theorem dX6_setLight_46 : decode cX6_setLight 46 = .ok (.ireturn, 1) := by decide +kernel
theorem dX6_setLight_47 : decode cX6_setLight 47 = .ok (.bipush 10, 2) := by decide +kernel
theorem dX6_setLight_49 : decode cX6_setLight 49 = .ok (.aload_n 0, 1) := by decide +kernel
theorem dX6_setLight_50 : decode cX6_setLight 50 = .ok (.getfield 9, 3) := by decide +kernel
theorem dX6_setLight_53 : decode cX6_setLight 53 = .ok (.iload_n 1, 1) := by decide +kernel
theorem dX6_setLight_54 : decode cX6_setLight 54 = .ok (.iaload, 1) := by decide +kernel
theorem dX6_setLight_55 : decode cX6_setLight 55 = .ok (.imul, 1) := by decide +kernel
theorem dX6_setLight_56 : decode cX6_setLight 56 = .ok (.aload_n 0, 1) := by decide +kernel
theorem dX6_setLight_57 : decode cX6_setLight 57 = .ok (.getfield 13, 3) := by decide +kernel
theorem dX6_setLight_60 : decode cX6_setLight 60 = .ok (.iload_n 1, 1) := by decide +kernel
theorem dX6_setLight_61 : decode cX6_setLight 61 = .ok (.iaload, 1) := by decide +kernel
theorem dX6_setLight_62 : decode cX6_setLight 62 = .ok (.iadd, 1) := by decide +kernel
theorem dX6_setLight_63 : decode cX6_setLight 63 = .ok (.istore 4, 2) := by decide +kernel
theorem dX6_setLight_65 : decode cX6_setLight 65 = .ok (.aload_n 0, 1) := by decide +kernel
theorem dX6_setLight_66 : decode cX6_setLight 66 = .ok (.getfield 9, 3) := by decide +kernel
theorem dX6_setLight_69 : decode cX6_setLight 69 = .ok (.iload_n 1, 1) := by decide +kernel
theorem dX6_setLight_70 : decode cX6_setLight 70 = .ok (.iload_n 2, 1) := by decide +kernel
theorem dX6_setLight_71 : decode cX6_setLight 71 = .ok (.iastore, 1) := by decide +kernel
theorem dX6_setLight_72 : decode cX6_setLight 72 = .ok (.aload_n 0, 1) := by decide +kernel
theorem dX6_setLight_73 : decode cX6_setLight 73 = .ok (.getfield 13, 3) := by decide +kernel
theorem dX6_setLight_76 : decode cX6_setLight 76 = .ok (.iload_n 1, 1) := by decide +kernel
theorem dX6_setLight_77 : decode cX6_setLight 77 = .ok (.iload_n 3, 1) := by decide +kernel
theorem dX6_setLight_78 : decode cX6_setLight 78 = .ok (.iastore, 1) := by decide +kernel
theorem dX6_setLight_79 : decode cX6_setLight 79 = .ok (.iload 4, 2) := by decide +kernel
theorem dX6_setLight_81 : decode cX6_setLight 81 = .ok (.ireturn, 1) := by decide +kernel
theorem dX6_addRoom_0 : decode cX6_addRoom 0 = .ok (.aload_n 0, 1) := by decide +kernel
theorem dX6_addRoom_1 : decode cX6_addRoom 1 = .ok (.iconst 0, 1) := by decide +kernel
theorem dX6_addRoom_2 : decode cX6_addRoom 2 = .ok (.putfield 49, 3) := by decide +kernel
theorem dX6_addRoom_5 : decode cX6_addRoom 5 = .ok (.iload_n 1, 1) := by decide +kernel
theorem dX6_addRoom_6 : decode cX6_addRoom 6 = .ok (.iconst 0, 1) := by decide +kernel
theorem dX6_addRoom_7 : decode cX6_addRoom 7 = .ok (.bipush 59, 2) := by decide +kernel
theorem dX6_addRoom_9 : decode cX6_addRoom 9 = .ok (.invokestatic 56, 3) := by decide +kernel
theorem dX6_addRoom_12 : decode cX6_addRoom 12 = .ok (.ifCond .eq 23, 3) := by decide +kernel
theorem dX6_addRoom_15 : decode cX6_addRoom 15 = .ok (.iload_n 2, 1) := by decide +kernel
theorem dX6_addRoom_16 : decode cX6_addRoom 16 = .ok (.iconst 1, 1) := by decide +kernel
theorem dX6_addRoom_17 : decode cX6_addRoom 17 = .ok (.bipush 9, 2) := by decide +kernel
theorem dX6_addRoom_19 : decode cX6_addRoom 19 = .ok (.invokestatic 56, 3) := by decide +kernel
theorem dX6_addRoom_22 : decode cX6_addRoom 22 = .ok (.ifCond .eq 13, 3) := by decide +kernel
theorem dX6_addRoom_25 : decode cX6_addRoom 25 = .ok (.iload_n 3, 1) := by decide +kernel
theorem dX6_addRoom_26 : decode cX6_addRoom 26 = .ok (.iconst 0, 1) := by decide +kernel
theorem dX6_addRoom_27 : decode cX6_addRoom 27 = .ok (.bipush 20, 2) := by decide +kernel
theorem dX6_addRoom_29 : decode cX6_addRoom 29 = .ok (.invokestatic 56, 3) := by decide +kernel
theorem dX6_addRoom_32 : decode cX6_addRoom 32 = .ok (.ifCond .ne 9, 3) := by decide +kernel
theorem dX6_addRoom_35 : decode cX6_addRoom 35 = .ok (.aload_n 0, 1) := by decide +kernel
theorem dX6_addRoom_36 : decode cX6_addRoom 36 = .ok (.iconst 1, 1) := by decide +kernel
theorem dX6_addRoom_37 : decode cX6_addRoom 37 = .ok (.invokevirtual 63, 3) := by decide +kernel
theorem dX6_addRoom_40 : decode cX6_addRoom 40 = .ok (.ireturn, 1) := by decide +kernel
theorem dX6_addRoom_41 : decode cX6_addRoom 41 = .ok (.aload_n 0, 1) := by decide +kernel
theorem dX6_addRoom_42 : decode cX6_addRoom 42 = .ok (.getfield 53, 3) := by decide +kernel
theorem dX6_addRoom_45 : decode cX6_addRoom 45 = .ok (.bipush 8, 2) := by decide +kernel
theorem dX6_addRoom_47 : decode cX6_addRoom 47 = .ok (.if_icmp .ge 7, 3) := by decide +kernel
theorem dX6_addRoom_50 : decode cX6_addRoom 50 = .ok (.iconst 1, 1) := by decide +kernel
theorem dX6_addRoom_51 : decode cX6_addRoom 51 = .ok (.goto 4, 3) := by decide +kernel
theorem dX6_addRoom_54 : decode cX6_addRoom 54 = .ok (.iconst 0, 1) := by decide +kernel
theorem dX6_addRoom_55 : decode cX6_addRoom 55 = .ok (.istore 4, 2) := by decide +kernel
theorem dX6_addRoom_57 : decode cX6_addRoom 57 = .ok (.iconst 0, 1) := by decide +kernel
theorem dX6_addRoom_58 : decode cX6_addRoom 58 = .ok (.istore 5, 2) := by decide +kernel
theorem dX6_addRoom_60 : decode cX6_addRoom 60 = .ok (.iload 5, 2) := by decide +kernel
theorem dX6_addRoom_62 : decode cX6_addRoom 62 = .ok (.aload_n 0, 1) := by decide +kernel
theorem dX6_addRoom_63 : decode cX6_addRoom 63 = .ok (.getfield 53, 3) := by decide +kernel
theorem dX6_addRoom_66 : decode cX6_addRoom 66 = .ok (.if_icmp .ge 30, 3) := by decide +kernel
theorem dX6_addRoom_69 : decode cX6_addRoom 69 = .ok (.iload 4, 2) := by decide +kernel
theorem dX6_addRoom_71 : decode cX6_addRoom 71 = .ok (.aload_n 0, 1) := by decide +kernel
theorem dX6_addRoom_72 : decode cX6_addRoom 72 = .ok (.getfield 25, 3) := by decide +kernel
theorem dX6_addRoom_75 : decode cX6_addRoom 75 = .ok (.iload 5, 2) := by decide +kernel
theorem dX6_addRoom_77 : decode cX6_addRoom 77 = .ok (.iaload, 1) := by decide +kernel
theorem dX6_addRoom_78 : decode cX6_addRoom 78 = .ok (.iload_n 1, 1) := by decide +kernel
theorem dX6_addRoom_79 : decode cX6_addRoom 79 = .ok (.if_icmp .eq 7, 3) := by decide +kernel
theorem dX6_addRoom_82 : decode cX6_addRoom 82 = .ok (.iconst 1, 1) := by decide +kernel
theorem dX6_addRoom_83 : decode cX6_addRoom 83 = .ok (.goto 4, 3) := by decide +kernel
theorem dX6_addRoom_86 : decode cX6_addRoom 86 = .ok (.iconst 0, 1) := by decide +kernel
theorem dX6_addRoom_87 : decode cX6_addRoom 87 = .ok (.iand, 1) := by decide +kernel
theorem dX6_addRoom_88 : decode cX6_addRoom 88 = .ok (.istore 4, 2) := by decide +kernel
theorem dX6_addRoom_90 : decode cX6_addRoom 90 = .ok (.iinc 5 1, 3) := by decide +kernel
theorem dX6_addRoom_93 : decode cX6_addRoom 93 = .ok (.goto (-33), 3) := by decide +kernel
theorem dX6_addRoom_96 : decode cX6_addRoom 96 = .ok (.iload 4, 2) := by decide +kernel
theorem dX6_addRoom_98 : decode cX6_addRoom 98 = .ok (.ifCond .ne 9, 3) := by decide +kernel
theorem dX6_addRoom_101 : decode cX6_addRoom 101 = .ok (.aload_n 0, 1) := by decide +kernel
theorem dX6_addRoom_102 : decode cX6_addRoom 102 = .ok (.iconst 2, 1) := by decide +kernel
theorem dX6_addRoom_103 : decode cX6_addRoom 103 = .ok (.invokevirtual 63, 3) := by decide +kernel
theorem dX6_addRoom_106 : decode cX6_addRoom 106 = .ok (.ireturn, 1) := by decide +kernel
theorem dX6_addRoom_107 : decode cX6_addRoom 107 = .ok (.aload_n 0, 1) := by decide +kernel
theorem dX6_addRoom_108 : decode cX6_addRoom 108 = .ok (.getfield 25, 3) := by decide +kernel
theorem dX6_addRoom_111 : decode cX6_addRoom 111 = .ok (.aload_n 0, 1) := by decide +kernel
theorem dX6_addRoom_112 : decode cX6_addRoom 112 = .ok (.getfield 53, 3) := by decide +kernel
theorem dX6_addRoom_115 : decode cX6_addRoom 115 = .ok (.iload_n 1, 1) := by decide +kernel
theorem dX6_addRoom_116 : decode cX6_addRoom 116 = .ok (.iastore, 1) := by decide +kernel
theorem dX6_addRoom_117 : decode cX6_addRoom 117 = .ok (.aload_n 0, 1) := by decide +kernel
theorem dX6_addRoom_118 : decode cX6_addRoom 118 = .ok (.getfield 28, 3) := by decide +kernel
theorem dX6_addRoom_121 : decode cX6_addRoom 121 = .ok (.aload_n 0, 1) := by decide +kernel
theorem dX6_addRoom_122 : decode cX6_addRoom 122 = .ok (.getfield 53, 3) := by decide +kernel
theorem dX6_addRoom_125 : decode cX6_addRoom 125 = .ok (.iload_n 2, 1) := by decide +kernel
theorem dX6_addRoom_126 : decode cX6_addRoom 126 = .ok (.iastore, 1) := by decide +kernel
theorem dX6_addRoom_127 : decode cX6_addRoom 127 = .ok (.aload_n 0, 1) := by decide +kernel
theorem dX6_addRoom_128 : decode cX6_addRoom 128 = .ok (.getfield 34, 3) := by decide +kernel
theorem dX6_addRoom_131 : decode cX6_addRoom 131 = .ok (.aload_n 0, 1) := by decide +kernel
theorem dX6_addRoom_132 : decode cX6_addRoom 132 = .ok (.getfield 53, 3) := by decide +kernel
theorem dX6_addRoom_135 : decode cX6_addRoom 135 = .ok (.iload_n 3, 1) := by decide +kernel
theorem dX6_addRoom_136 : decode cX6_addRoom 136 = .ok (.iastore, 1) := by decide +kernel
theorem dX6_addRoom_137 : decode cX6_addRoom 137 = .ok (.aload_n 0, 1) := by decide +kernel
theorem dX6_addRoom_138 : decode cX6_addRoom 138 = .ok (.getfield 42, 3) := by decide +kernel
theorem dX6_addRoom_141 : decode cX6_addRoom 141 = .ok (.getfield 70, 3) := by decide +kernel
theorem dX6_addRoom_144 : decode cX6_addRoom 144 = .ok (.aload_n 0, 1) := by decide +kernel
theorem dX6_addRoom_145 : decode cX6_addRoom 145 = .ok (.getfield 53, 3) := by decide +kernel
theorem dX6_addRoom_148 : decode cX6_addRoom 148 = .ok (.iconst 3, 1) := by decide +kernel
theorem dX6_addRoom_149 : decode cX6_addRoom 149 = .ok (.iastore, 1) := by decide +kernel
theorem dX6_addRoom_150 : decode cX6_addRoom 150 = .ok (.aload_n 0, 1) := by decide +kernel
theorem dX6_addRoom_151 : decode cX6_addRoom 151 = .ok (.dup, 1) := by decide +kernel
theorem dX6_addRoom_152 : decode cX6_addRoom 152 = .ok (.getfield 53, 3) := by decide +kernel
theorem dX6_addRoom_155 : decode cX6_addRoom 155 = .ok (.iconst 1, 1) := by decide +kernel
theorem dX6_addRoom_156 : decode cX6_addRoom 156 = .ok (.iadd, 1) := by decide +kernel
theorem dX6_addRoom_157 : decode cX6_addRoom 157 = .ok (.putfield 53, 3) := by decide +kernel
theorem dX6_addRoom_160 : decode cX6_addRoom 160 = .ok (.aload_n 0, 1) := by decide +kernel
theorem dX6_addRoom_161 : decode cX6_addRoom 161 = .ok (.getfield 53, 3) := by decide +kernel
theorem dX6_addRoom_164 : decode cX6_addRoom 164 = .ok (.iconst 1, 1) := by decide +kernel
theorem dX6_addRoom_165 : decode cX6_addRoom 165 = .ok (.isub, 1) := by decide +kernel
theorem dX6_addRoom_166 : decode cX6_addRoom 166 = .ok (.ireturn, 1) := by decide +kernel
theorem dX6_bore_0 : decode cX6_bore 0 = .ok (.aload_n 0, 1) := by decide +kernel
theorem dX6_bore_1 : decode cX6_bore 1 = .ok (.iconst 0, 1) := by decide +kernel
theorem dX6_bore_2 : decode cX6_bore 2 = .ok (.putfield 49, 3) := by decide +kernel
theorem dX6_bore_5 : decode cX6_bore 5 = .ok (.aload_n 0, 1) := by decide +kernel
theorem dX6_bore_6 : decode cX6_bore 6 = .ok (.iload_n 1, 1) := by decide +kernel
theorem dX6_bore_7 : decode cX6_bore 7 = .ok (.invokevirtual 73, 3) := by decide +kernel
theorem dX6_bore_10 : decode cX6_bore 10 = .ok (.ifCond .ne 9, 3) := by decide +kernel
theorem dX6_bore_13 : decode cX6_bore 13 = .ok (.aload_n 0, 1) := by decide +kernel
theorem dX6_bore_14 : decode cX6_bore 14 = .ok (.iconst 1, 1) := by decide +kernel
theorem dX6_bore_15 : decode cX6_bore 15 = .ok (.invokevirtual 63, 3) := by decide +kernel
theorem dX6_bore_18 : decode cX6_bore 18 = .ok (.ireturn, 1) := by decide +kernel
theorem dX6_bore_19 : decode cX6_bore 19 = .ok (.iload_n 2, 1) := by decide +kernel
theorem dX6_bore_20 : decode cX6_bore 20 = .ok (.iconst 1, 1) := by decide +kernel
theorem dX6_bore_21 : decode cX6_bore 21 = .ok (.bipush 9, 2) := by decide +kernel
theorem dX6_bore_23 : decode cX6_bore 23 = .ok (.invokestatic 56, 3) := by decide +kernel
theorem dX6_bore_26 : decode cX6_bore 26 = .ok (.ifCond .ne 9, 3) := by decide +kernel
theorem dX6_bore_29 : decode cX6_bore 29 = .ok (.aload_n 0, 1) := by decide +kernel
theorem dX6_bore_30 : decode cX6_bore 30 = .ok (.iconst 2, 1) := by decide +kernel
theorem dX6_bore_31 : decode cX6_bore 31 = .ok (.invokevirtual 63, 3) := by decide +kernel
theorem dX6_bore_34 : decode cX6_bore 34 = .ok (.ireturn, 1) := by decide +kernel
theorem dX6_bore_35 : decode cX6_bore 35 = .ok (.aload_n 0, 1) := by decide +kernel
theorem dX6_bore_36 : decode cX6_bore 36 = .ok (.getfield 42, 3) := by decide +kernel
theorem dX6_bore_39 : decode cX6_bore 39 = .ok (.getfield 70, 3) := by decide +kernel
theorem dX6_bore_42 : decode cX6_bore 42 = .ok (.iload_n 1, 1) := by decide +kernel
theorem dX6_bore_43 : decode cX6_bore 43 = .ok (.iaload, 1) := by decide +kernel
theorem dX6_bore_44 : decode cX6_bore 44 = .ok (.istore_n 3, 1) := by decide +kernel
theorem dX6_bore_45 : decode cX6_bore 45 = .ok (.aload_n 0, 1) := by decide +kernel
theorem dX6_bore_46 : decode cX6_bore 46 = .ok (.getfield 42, 3) := by decide +kernel
theorem dX6_bore_49 : decode cX6_bore 49 = .ok (.getfield 70, 3) := by decide +kernel
theorem dX6_bore_52 : decode cX6_bore 52 = .ok (.iload_n 1, 1) := by decide +kernel
theorem dX6_bore_53 : decode cX6_bore 53 = .ok (.iload_n 2, 1) := by decide +kernel
theorem dX6_bore_54 : decode cX6_bore 54 = .ok (.iastore, 1) := by decide +kernel
theorem dX6_bore_55 : decode cX6_bore 55 = .ok (.iload_n 3, 1) := by decide +kernel
theorem dX6_bore_56 : decode cX6_bore 56 = .ok (.ireturn, 1) := by decide +kernel
theorem dX6_paint_0 : decode cX6_paint 0 = .ok (.aload_n 0, 1) := by decide +kernel
theorem dX6_paint_1 : decode cX6_paint 1 = .ok (.iconst 0, 1) := by decide +kernel
theorem dX6_paint_2 : decode cX6_paint 2 = .ok (.putfield 49, 3) := by decide +kernel
theorem dX6_paint_5 : decode cX6_paint 5 = .ok (.aload_n 0, 1) := by decide +kernel
theorem dX6_paint_6 : decode cX6_paint 6 = .ok (.iload_n 1, 1) := by decide +kernel
theorem dX6_paint_7 : decode cX6_paint 7 = .ok (.invokevirtual 73, 3) := by decide +kernel
theorem dX6_paint_10 : decode cX6_paint 10 = .ok (.ifCond .ne 9, 3) := by decide +kernel
theorem dX6_paint_13 : decode cX6_paint 13 = .ok (.aload_n 0, 1) := by decide +kernel
theorem dX6_paint_14 : decode cX6_paint 14 = .ok (.iconst 1, 1) := by decide +kernel
theorem dX6_paint_15 : decode cX6_paint 15 = .ok (.invokevirtual 63, 3) := by decide +kernel
theorem dX6_paint_18 : decode cX6_paint 18 = .ok (.ireturn, 1) := by decide +kernel
theorem dX6_paint_19 : decode cX6_paint 19 = .ok (.iload_n 2, 1) := by decide +kernel
theorem dX6_paint_20 : decode cX6_paint 20 = .ok (.iconst 0, 1) := by decide +kernel
theorem dX6_paint_21 : decode cX6_paint 21 = .ok (.bipush 9, 2) := by decide +kernel
theorem dX6_paint_23 : decode cX6_paint 23 = .ok (.invokestatic 56, 3) := by decide +kernel
theorem dX6_paint_26 : decode cX6_paint 26 = .ok (.ifCond .ne 9, 3) := by decide +kernel
theorem dX6_paint_29 : decode cX6_paint 29 = .ok (.aload_n 0, 1) := by decide +kernel
theorem dX6_paint_30 : decode cX6_paint 30 = .ok (.iconst 2, 1) := by decide +kernel
theorem dX6_paint_31 : decode cX6_paint 31 = .ok (.invokevirtual 63, 3) := by decide +kernel
theorem dX6_paint_34 : decode cX6_paint 34 = .ok (.ireturn, 1) := by decide +kernel
theorem dX6_paint_35 : decode cX6_paint 35 = .ok (.aload_n 0, 1) := by decide +kernel
theorem dX6_paint_36 : decode cX6_paint 36 = .ok (.getfield 31, 3) := by decide +kernel
theorem dX6_paint_39 : decode cX6_paint 39 = .ok (.iload_n 1, 1) := by decide +kernel
theorem dX6_paint_40 : decode cX6_paint 40 = .ok (.iaload, 1) := by decide +kernel
theorem dX6_paint_41 : decode cX6_paint 41 = .ok (.istore_n 3, 1) := by decide +kernel
theorem dX6_paint_42 : decode cX6_paint 42 = .ok (.aload_n 0, 1) := by decide +kernel
theorem dX6_paint_43 : decode cX6_paint 43 = .ok (.getfield 31, 3) := by decide +kernel
theorem dX6_paint_46 : decode cX6_paint 46 = .ok (.iload_n 1, 1) := by decide +kernel
theorem dX6_paint_47 : decode cX6_paint 47 = .ok (.iload_n 2, 1) := by decide +kernel
theorem dX6_paint_48 : decode cX6_paint 48 = .ok (.iastore, 1) := by decide +kernel
theorem dX6_paint_49 : decode cX6_paint 49 = .ok (.iload_n 3, 1) := by decide +kernel
theorem dX6_paint_50 : decode cX6_paint 50 = .ok (.ireturn, 1) := by decide +kernel
theorem dX6_seat_0 : decode cX6_seat 0 = .ok (.aload_n 0, 1) := by decide +kernel
theorem dX6_seat_1 : decode cX6_seat 1 = .ok (.iconst 0, 1) := by decide +kernel
theorem dX6_seat_2 : decode cX6_seat 2 = .ok (.putfield 49, 3) := by decide +kernel
theorem dX6_seat_5 : decode cX6_seat 5 = .ok (.aload_n 0, 1) := by decide +kernel
theorem dX6_seat_6 : decode cX6_seat 6 = .ok (.iload_n 1, 1) := by decide +kernel
theorem dX6_seat_7 : decode cX6_seat 7 = .ok (.invokevirtual 73, 3) := by decide +kernel
theorem dX6_seat_10 : decode cX6_seat 10 = .ok (.ifCond .ne 9, 3) := by decide +kernel
theorem dX6_seat_13 : decode cX6_seat 13 = .ok (.aload_n 0, 1) := by decide +kernel
theorem dX6_seat_14 : decode cX6_seat 14 = .ok (.iconst 1, 1) := by decide +kernel
theorem dX6_seat_15 : decode cX6_seat 15 = .ok (.invokevirtual 63, 3) := by decide +kernel
theorem dX6_seat_18 : decode cX6_seat 18 = .ok (.ireturn, 1) := by decide +kernel
theorem dX6_seat_19 : decode cX6_seat 19 = .ok (.iload_n 2, 1) := by decide +kernel
theorem dX6_seat_20 : decode cX6_seat 20 = .ok (.iconst 1, 1) := by decide +kernel
theorem dX6_seat_21 : decode cX6_seat 21 = .ok (.bipush 20, 2) := by decide +kernel
theorem dX6_seat_23 : decode cX6_seat 23 = .ok (.invokestatic 56, 3) := by decide +kernel
theorem dX6_seat_26 : decode cX6_seat 26 = .ok (.ifCond .ne 9, 3) := by decide +kernel
theorem dX6_seat_29 : decode cX6_seat 29 = .ok (.aload_n 0, 1) := by decide +kernel
theorem dX6_seat_30 : decode cX6_seat 30 = .ok (.iconst 2, 1) := by decide +kernel
theorem dX6_seat_31 : decode cX6_seat 31 = .ok (.invokevirtual 63, 3) := by decide +kernel
theorem dX6_seat_34 : decode cX6_seat 34 = .ok (.ireturn, 1) := by decide +kernel
theorem dX6_seat_35 : decode cX6_seat 35 = .ok (.aload_n 0, 1) := by decide +kernel
theorem dX6_seat_36 : decode cX6_seat 36 = .ok (.getfield 42, 3) := by decide +kernel
theorem dX6_seat_39 : decode cX6_seat 39 = .ok (.getfield 77, 3) := by decide +kernel
theorem dX6_seat_42 : decode cX6_seat 42 = .ok (.iload_n 1, 1) := by decide +kernel
theorem dX6_seat_43 : decode cX6_seat 43 = .ok (.iaload, 1) := by decide +kernel
theorem dX6_seat_44 : decode cX6_seat 44 = .ok (.iload_n 2, 1) := by decide +kernel
theorem dX6_seat_45 : decode cX6_seat 45 = .ok (.iadd, 1) := by decide +kernel
theorem dX6_seat_46 : decode cX6_seat 46 = .ok (.aload_n 0, 1) := by decide +kernel
theorem dX6_seat_47 : decode cX6_seat 47 = .ok (.getfield 34, 3) := by decide +kernel
theorem dX6_seat_50 : decode cX6_seat 50 = .ok (.iload_n 1, 1) := by decide +kernel
theorem dX6_seat_51 : decode cX6_seat 51 = .ok (.iaload, 1) := by decide +kernel
theorem dX6_seat_52 : decode cX6_seat 52 = .ok (.if_icmp .le 9, 3) := by decide +kernel
theorem dX6_seat_55 : decode cX6_seat 55 = .ok (.aload_n 0, 1) := by decide +kernel
theorem dX6_seat_56 : decode cX6_seat 56 = .ok (.iconst 3, 1) := by decide +kernel
theorem dX6_seat_57 : decode cX6_seat 57 = .ok (.invokevirtual 63, 3) := by decide +kernel
theorem dX6_seat_60 : decode cX6_seat 60 = .ok (.ireturn, 1) := by decide +kernel
theorem dX6_seat_61 : decode cX6_seat 61 = .ok (.aload_n 0, 1) := by decide +kernel
theorem dX6_seat_62 : decode cX6_seat 62 = .ok (.getfield 42, 3) := by decide +kernel
theorem dX6_seat_65 : decode cX6_seat 65 = .ok (.getfield 77, 3) := by decide +kernel
theorem dX6_seat_68 : decode cX6_seat 68 = .ok (.iload_n 1, 1) := by decide +kernel
theorem dX6_seat_69 : decode cX6_seat 69 = .ok (.dup2, 1) := by decide +kernel
theorem dX6_seat_70 : decode cX6_seat 70 = .ok (.iaload, 1) := by decide +kernel
theorem dX6_seat_71 : decode cX6_seat 71 = .ok (.iload_n 2, 1) := by decide +kernel
theorem dX6_seat_72 : decode cX6_seat 72 = .ok (.iadd, 1) := by decide +kernel
theorem dX6_seat_73 : decode cX6_seat 73 = .ok (.iastore, 1) := by decide +kernel
theorem dX6_seat_74 : decode cX6_seat 74 = .ok (.aload_n 0, 1) := by decide +kernel
theorem dX6_seat_75 : decode cX6_seat 75 = .ok (.getfield 42, 3) := by decide +kernel
theorem dX6_seat_78 : decode cX6_seat 78 = .ok (.getfield 77, 3) := by decide +kernel
theorem dX6_seat_81 : decode cX6_seat 81 = .ok (.iload_n 1, 1) := by decide +kernel
theorem dX6_seat_82 : decode cX6_seat 82 = .ok (.iaload, 1) := by decide +kernel
theorem dX6_seat_83 : decode cX6_seat 83 = .ok (.ireturn, 1) := by decide +kernel
theorem dX6_passerTold_0 : decode cX6_passerTold 0 = .ok (.iconst 0, 1) := by decide +kernel
theorem dX6_passerTold_1 : decode cX6_passerTold 1 = .ok (.istore_n 3, 1) := by decide +kernel
theorem dX6_passerTold_2 : decode cX6_passerTold 2 = .ok (.iconst 0, 1) := by decide +kernel
theorem dX6_passerTold_3 : decode cX6_passerTold 3 = .ok (.istore 4, 2) := by decide +kernel
theorem dX6_passerTold_5 : decode cX6_passerTold 5 = .ok (.iload 4, 2) := by decide +kernel
theorem dX6_passerTold_7 : decode cX6_passerTold 7 = .ok (.aload_n 0, 1) := by decide +kernel
theorem dX6_passerTold_8 : decode cX6_passerTold 8 = .ok (.getfield 53, 3) := by decide +kernel
theorem dX6_passerTold_11 : decode cX6_passerTold 11 = .ok (.if_icmp .ge 30, 3) := by decide +kernel
theorem dX6_passerTold_14 : decode cX6_passerTold 14 = .ok (.iload_n 3, 1) := by decide +kernel
theorem dX6_passerTold_15 : decode cX6_passerTold 15 = .ok (.aload_n 0, 1) := by decide +kernel
theorem dX6_passerTold_16 : decode cX6_passerTold 16 = .ok (.getfield 42, 3) := by decide +kernel
theorem dX6_passerTold_19 : decode cX6_passerTold 19 = .ok (.iload 4, 2) := by decide +kernel
theorem dX6_passerTold_21 : decode cX6_passerTold 21 = .ok (.iload_n 1, 1) := by decide +kernel
theorem dX6_passerTold_22 : decode cX6_passerTold 22 = .ok (.invokevirtual 80, 3) := by decide +kernel
theorem dX6_passerTold_25 : decode cX6_passerTold 25 = .ok (.ifCond .eq 7, 3) := by decide +kernel
theorem dX6_passerTold_28 : decode cX6_passerTold 28 = .ok (.iconst 1, 1) := by decide +kernel
theorem dX6_passerTold_29 : decode cX6_passerTold 29 = .ok (.goto 4, 3) := by decide +kernel
theorem dX6_passerTold_32 : decode cX6_passerTold 32 = .ok (.iconst 0, 1) := by decide +kernel
theorem dX6_passerTold_33 : decode cX6_passerTold 33 = .ok (.iadd, 1) := by decide +kernel
theorem dX6_passerTold_34 : decode cX6_passerTold 34 = .ok (.istore_n 3, 1) := by decide +kernel
theorem dX6_passerTold_35 : decode cX6_passerTold 35 = .ok (.iinc 4 1, 3) := by decide +kernel
theorem dX6_passerTold_38 : decode cX6_passerTold 38 = .ok (.goto (-33), 3) := by decide +kernel
theorem dX6_passerTold_41 : decode cX6_passerTold 41 = .ok (.iload_n 2, 1) := by decide +kernel
theorem dX6_passerTold_42 : decode cX6_passerTold 42 = .ok (.ifCond .ne 15, 3) := by decide +kernel
theorem dX6_passerTold_45 : decode cX6_passerTold 45 = .ok (.aload_n 0, 1) := by decide +kernel
theorem dX6_passerTold_46 : decode cX6_passerTold 46 = .ok (.getfield 42, 3) := by decide +kernel
theorem dX6_passerTold_49 : decode cX6_passerTold 49 = .ok (.getfield 67, 3) := by decide +kernel
theorem dX6_passerTold_52 : decode cX6_passerTold 52 = .ok (.iload_n 1, 1) := by decide +kernel
theorem dX6_passerTold_53 : decode cX6_passerTold 53 = .ok (.iaload, 1) := by decide +kernel
theorem dX6_passerTold_54 : decode cX6_passerTold 54 = .ok (.goto 46, 3) := by decide +kernel
theorem dX6_passerTold_57 : decode cX6_passerTold 57 = .ok (.iload_n 2, 1) := by decide +kernel
theorem dX6_passerTold_58 : decode cX6_passerTold 58 = .ok (.iconst 1, 1) := by decide +kernel
theorem dX6_passerTold_59 : decode cX6_passerTold 59 = .ok (.if_icmp .ne 12, 3) := by decide +kernel
theorem dX6_passerTold_62 : decode cX6_passerTold 62 = .ok (.aload_n 0, 1) := by decide +kernel
theorem dX6_passerTold_63 : decode cX6_passerTold 63 = .ok (.getfield 16, 3) := by decide +kernel
theorem dX6_passerTold_66 : decode cX6_passerTold 66 = .ok (.iload_n 1, 1) := by decide +kernel
theorem dX6_passerTold_67 : decode cX6_passerTold 67 = .ok (.iaload, 1) := by decide +kernel
theorem dX6_passerTold_68 : decode cX6_passerTold 68 = .ok (.goto 32, 3) := by decide +kernel
theorem dX6_passerTold_71 : decode cX6_passerTold 71 = .ok (.iload_n 2, 1) := by decide +kernel
theorem dX6_passerTold_72 : decode cX6_passerTold 72 = .ok (.iconst 2, 1) := by decide +kernel
theorem dX6_passerTold_73 : decode cX6_passerTold 73 = .ok (.if_icmp .ne 12, 3) := by decide +kernel
theorem dX6_passerTold_76 : decode cX6_passerTold 76 = .ok (.aload_n 0, 1) := by decide +kernel
theorem dX6_passerTold_77 : decode cX6_passerTold 77 = .ok (.getfield 19, 3) := by decide +kernel
theorem dX6_passerTold_80 : decode cX6_passerTold 80 = .ok (.iload_n 1, 1) := by decide +kernel
theorem dX6_passerTold_81 : decode cX6_passerTold 81 = .ok (.iaload, 1) := by decide +kernel
theorem dX6_passerTold_82 : decode cX6_passerTold 82 = .ok (.goto 18, 3) := by decide +kernel
theorem dX6_passerTold_85 : decode cX6_passerTold 85 = .ok (.iload_n 2, 1) := by decide +kernel
theorem dX6_passerTold_86 : decode cX6_passerTold 86 = .ok (.iconst 3, 1) := by decide +kernel
theorem dX6_passerTold_87 : decode cX6_passerTold 87 = .ok (.if_icmp .ne 12, 3) := by decide +kernel
theorem dX6_passerTold_90 : decode cX6_passerTold 90 = .ok (.aload_n 0, 1) := by decide +kernel
theorem dX6_passerTold_91 : decode cX6_passerTold 91 = .ok (.getfield 22, 3) := by decide +kernel
theorem dX6_passerTold_94 : decode cX6_passerTold 94 = .ok (.iload_n 1, 1) := by decide +kernel
theorem dX6_passerTold_95 : decode cX6_passerTold 95 = .ok (.iaload, 1) := by decide +kernel
theorem dX6_passerTold_96 : decode cX6_passerTold 96 = .ok (.goto 4, 3) := by decide +kernel
theorem dX6_passerTold_99 : decode cX6_passerTold 99 = .ok (.iload_n 3, 1) := by decide +kernel
theorem dX6_passerTold_100 : decode cX6_passerTold 100 = .ok (.ireturn, 1) := by decide +kernel
theorem dX6_passer_0 : decode cX6_passer 0 = .ok (.aload_n 0, 1) := by decide +kernel
theorem dX6_passer_1 : decode cX6_passer 1 = .ok (.iconst 0, 1) := by decide +kernel
theorem dX6_passer_2 : decode cX6_passer 2 = .ok (.putfield 49, 3) := by decide +kernel
theorem dX6_passer_5 : decode cX6_passer 5 = .ok (.aload_n 0, 1) := by decide +kernel
theorem dX6_passer_6 : decode cX6_passer 6 = .ok (.iload_n 1, 1) := by decide +kernel
theorem dX6_passer_7 : decode cX6_passer 7 = .ok (.invokevirtual 84, 3) := by decide +kernel
theorem dX6_passer_10 : decode cX6_passer 10 = .ok (.ifCond .eq 21, 3) := by decide +kernel
theorem dX6_passer_13 : decode cX6_passer 13 = .ok (.iload_n 2, 1) := by decide +kernel
theorem dX6_passer_14 : decode cX6_passer 14 = .ok (.iconst 0, 1) := by decide +kernel
theorem dX6_passer_15 : decode cX6_passer 15 = .ok (.iconst 4, 1) := by decide +kernel
theorem dX6_passer_16 : decode cX6_passer 16 = .ok (.invokestatic 56, 3) := by decide +kernel
theorem dX6_passer_19 : decode cX6_passer 19 = .ok (.ifCond .eq 12, 3) := by decide +kernel
theorem dX6_passer_22 : decode cX6_passer 22 = .ok (.aload_n 0, 1) := by decide +kernel
theorem dX6_passer_23 : decode cX6_passer 23 = .ok (.iload_n 1, 1) := by decide +kernel
theorem dX6_passer_24 : decode cX6_passer 24 = .ok (.iload_n 2, 1) := by decide +kernel
theorem dX6_passer_25 : decode cX6_passer 25 = .ok (.invokevirtual 87, 3) := by decide +kernel
theorem dX6_passer_28 : decode cX6_passer 28 = .ok (.goto 8, 3) := by decide +kernel
theorem dX6_passer_31 : decode cX6_passer 31 = .ok (.aload_n 0, 1) := by decide +kernel
theorem dX6_passer_32 : decode cX6_passer 32 = .ok (.iconst 1, 1) := by decide +kernel
theorem dX6_passer_33 : decode cX6_passer 33 = .ok (.invokevirtual 63, 3) := by decide +kernel
theorem dX6_passer_36 : decode cX6_passer 36 = .ok (.ireturn, 1) := by decide +kernel
theorem dX6_roomTold_0 : decode cX6_roomTold 0 = .ok (.iload_n 2, 1) := by decide +kernel
theorem dX6_roomTold_1 : decode cX6_roomTold 1 = .ok (.tableswitch 100 0 6 #[43, 50, 57, 67, 74, 81, 91], 43) := by decide +kernel
theorem dX6_roomTold_44 : decode cX6_roomTold 44 = .ok (.aload_n 0, 1) := by decide +kernel
theorem dX6_roomTold_45 : decode cX6_roomTold 45 = .ok (.getfield 25, 3) := by decide +kernel
theorem dX6_roomTold_48 : decode cX6_roomTold 48 = .ok (.iload_n 1, 1) := by decide +kernel
theorem dX6_roomTold_49 : decode cX6_roomTold 49 = .ok (.iaload, 1) := by decide +kernel
theorem dX6_roomTold_50 : decode cX6_roomTold 50 = .ok (.ireturn, 1) := by decide +kernel
theorem dX6_roomTold_51 : decode cX6_roomTold 51 = .ok (.aload_n 0, 1) := by decide +kernel
theorem dX6_roomTold_52 : decode cX6_roomTold 52 = .ok (.getfield 28, 3) := by decide +kernel
theorem dX6_roomTold_55 : decode cX6_roomTold 55 = .ok (.iload_n 1, 1) := by decide +kernel
theorem dX6_roomTold_56 : decode cX6_roomTold 56 = .ok (.iaload, 1) := by decide +kernel
theorem dX6_roomTold_57 : decode cX6_roomTold 57 = .ok (.ireturn, 1) := by decide +kernel
theorem dX6_roomTold_58 : decode cX6_roomTold 58 = .ok (.aload_n 0, 1) := by decide +kernel
theorem dX6_roomTold_59 : decode cX6_roomTold 59 = .ok (.getfield 42, 3) := by decide +kernel
theorem dX6_roomTold_62 : decode cX6_roomTold 62 = .ok (.getfield 70, 3) := by decide +kernel
theorem dX6_roomTold_65 : decode cX6_roomTold 65 = .ok (.iload_n 1, 1) := by decide +kernel
theorem dX6_roomTold_66 : decode cX6_roomTold 66 = .ok (.iaload, 1) := by decide +kernel
theorem dX6_roomTold_67 : decode cX6_roomTold 67 = .ok (.ireturn, 1) := by decide +kernel
theorem dX6_roomTold_68 : decode cX6_roomTold 68 = .ok (.aload_n 0, 1) := by decide +kernel
theorem dX6_roomTold_69 : decode cX6_roomTold 69 = .ok (.getfield 31, 3) := by decide +kernel
theorem dX6_roomTold_72 : decode cX6_roomTold 72 = .ok (.iload_n 1, 1) := by decide +kernel
theorem dX6_roomTold_73 : decode cX6_roomTold 73 = .ok (.iaload, 1) := by decide +kernel
theorem dX6_roomTold_74 : decode cX6_roomTold 74 = .ok (.ireturn, 1) := by decide +kernel
theorem dX6_roomTold_75 : decode cX6_roomTold 75 = .ok (.aload_n 0, 1) := by decide +kernel
theorem dX6_roomTold_76 : decode cX6_roomTold 76 = .ok (.getfield 34, 3) := by decide +kernel
theorem dX6_roomTold_79 : decode cX6_roomTold 79 = .ok (.iload_n 1, 1) := by decide +kernel
theorem dX6_roomTold_80 : decode cX6_roomTold 80 = .ok (.iaload, 1) := by decide +kernel
theorem dX6_roomTold_81 : decode cX6_roomTold 81 = .ok (.ireturn, 1) := by decide +kernel
theorem dX6_roomTold_82 : decode cX6_roomTold 82 = .ok (.aload_n 0, 1) := by decide +kernel
theorem dX6_roomTold_83 : decode cX6_roomTold 83 = .ok (.getfield 42, 3) := by decide +kernel
theorem dX6_roomTold_86 : decode cX6_roomTold 86 = .ok (.getfield 77, 3) := by decide +kernel
theorem dX6_roomTold_89 : decode cX6_roomTold 89 = .ok (.iload_n 1, 1) := by decide +kernel
theorem dX6_roomTold_90 : decode cX6_roomTold 90 = .ok (.iaload, 1) := by decide +kernel
theorem dX6_roomTold_91 : decode cX6_roomTold 91 = .ok (.ireturn, 1) := by decide +kernel
theorem dX6_roomTold_92 : decode cX6_roomTold 92 = .ok (.aload_n 0, 1) := by decide +kernel
theorem dX6_roomTold_93 : decode cX6_roomTold 93 = .ok (.getfield 42, 3) := by decide +kernel
theorem dX6_roomTold_96 : decode cX6_roomTold 96 = .ok (.iload_n 1, 1) := by decide +kernel
theorem dX6_roomTold_97 : decode cX6_roomTold 97 = .ok (.invokevirtual 91, 3) := by decide +kernel
theorem dX6_roomTold_100 : decode cX6_roomTold 100 = .ok (.ireturn, 1) := by decide +kernel
theorem dX6_roomTold_101 : decode cX6_roomTold 101 = .ok (.aload_n 0, 1) := by decide +kernel
theorem dX6_roomTold_102 : decode cX6_roomTold 102 = .ok (.getfield 42, 3) := by decide +kernel
theorem dX6_roomTold_105 : decode cX6_roomTold 105 = .ok (.getfield 94, 3) := by decide +kernel
theorem dX6_roomTold_108 : decode cX6_roomTold 108 = .ok (.iload_n 1, 1) := by decide +kernel
theorem dX6_roomTold_109 : decode cX6_roomTold 109 = .ok (.iaload, 1) := by decide +kernel
theorem dX6_roomTold_110 : decode cX6_roomTold 110 = .ok (.ireturn, 1) := by decide +kernel
theorem dX6_room_0 : decode cX6_room 0 = .ok (.aload_n 0, 1) := by decide +kernel
theorem dX6_room_1 : decode cX6_room 1 = .ok (.iconst 0, 1) := by decide +kernel
theorem dX6_room_2 : decode cX6_room 2 = .ok (.putfield 49, 3) := by decide +kernel
theorem dX6_room_5 : decode cX6_room 5 = .ok (.aload_n 0, 1) := by decide +kernel
theorem dX6_room_6 : decode cX6_room 6 = .ok (.iload_n 1, 1) := by decide +kernel
theorem dX6_room_7 : decode cX6_room 7 = .ok (.invokevirtual 73, 3) := by decide +kernel
theorem dX6_room_10 : decode cX6_room 10 = .ok (.ifCond .eq 22, 3) := by decide +kernel
theorem dX6_room_13 : decode cX6_room 13 = .ok (.iload_n 2, 1) := by decide +kernel
theorem dX6_room_14 : decode cX6_room 14 = .ok (.iconst 0, 1) := by decide +kernel
theorem dX6_room_15 : decode cX6_room 15 = .ok (.bipush 7, 2) := by decide +kernel
theorem dX6_room_17 : decode cX6_room 17 = .ok (.invokestatic 56, 3) := by decide +kernel
theorem dX6_room_20 : decode cX6_room 20 = .ok (.ifCond .eq 12, 3) := by decide +kernel
theorem dX6_room_23 : decode cX6_room 23 = .ok (.aload_n 0, 1) := by decide +kernel
theorem dX6_room_24 : decode cX6_room 24 = .ok (.iload_n 1, 1) := by decide +kernel
theorem dX6_room_25 : decode cX6_room 25 = .ok (.iload_n 2, 1) := by decide +kernel
theorem dX6_room_26 : decode cX6_room 26 = .ok (.invokevirtual 97, 3) := by decide +kernel
theorem dX6_room_29 : decode cX6_room 29 = .ok (.goto 8, 3) := by decide +kernel
theorem dX6_room_32 : decode cX6_room 32 = .ok (.aload_n 0, 1) := by decide +kernel
theorem dX6_room_33 : decode cX6_room 33 = .ok (.iconst 1, 1) := by decide +kernel
theorem dX6_room_34 : decode cX6_room 34 = .ok (.invokevirtual 63, 3) := by decide +kernel
theorem dX6_room_37 : decode cX6_room 37 = .ok (.ireturn, 1) := by decide +kernel
theorem dX6_wall_0 : decode cX6_wall 0 = .ok (.aload_n 0, 1) := by decide +kernel
theorem dX6_wall_1 : decode cX6_wall 1 = .ok (.iconst 0, 1) := by decide +kernel
theorem dX6_wall_2 : decode cX6_wall 2 = .ok (.putfield 49, 3) := by decide +kernel
theorem dX6_wall_5 : decode cX6_wall 5 = .ok (.aload_n 0, 1) := by decide +kernel
theorem dX6_wall_6 : decode cX6_wall 6 = .ok (.iload_n 1, 1) := by decide +kernel
theorem dX6_wall_7 : decode cX6_wall 7 = .ok (.invokevirtual 73, 3) := by decide +kernel
theorem dX6_wall_10 : decode cX6_wall 10 = .ok (.ifCond .eq 27, 3) := by decide +kernel
theorem dX6_wall_13 : decode cX6_wall 13 = .ok (.iload_n 2, 1) := by decide +kernel
theorem dX6_wall_14 : decode cX6_wall 14 = .ok (.bipush (-4), 2) := by decide +kernel
theorem dX6_wall_16 : decode cX6_wall 16 = .ok (.aload_n 0, 1) := by decide +kernel
theorem dX6_wall_17 : decode cX6_wall 17 = .ok (.getfield 28, 3) := by decide +kernel
theorem dX6_wall_20 : decode cX6_wall 20 = .ok (.iload_n 1, 1) := by decide +kernel
theorem dX6_wall_21 : decode cX6_wall 21 = .ok (.iaload, 1) := by decide +kernel
theorem dX6_wall_22 : decode cX6_wall 22 = .ok (.imul, 1) := by decide +kernel
theorem dX6_wall_23 : decode cX6_wall 23 = .ok (.iconst 4, 1) := by decide +kernel
theorem dX6_wall_24 : decode cX6_wall 24 = .ok (.aload_n 0, 1) := by decide +kernel
theorem dX6_wall_25 : decode cX6_wall 25 = .ok (.getfield 28, 3) := by decide +kernel
theorem dX6_wall_28 : decode cX6_wall 28 = .ok (.iload_n 1, 1) := by decide +kernel
theorem dX6_wall_29 : decode cX6_wall 29 = .ok (.iaload, 1) := by decide +kernel
theorem dX6_wall_30 : decode cX6_wall 30 = .ok (.imul, 1) := by decide +kernel
theorem dX6_wall_31 : decode cX6_wall 31 = .ok (.invokestatic 56, 3) := by decide +kernel
theorem dX6_wall_34 : decode cX6_wall 34 = .ok (.ifCond .ne 9, 3) := by decide +kernel
theorem dX6_wall_37 : decode cX6_wall 37 = .ok (.aload_n 0, 1) := by decide +kernel
theorem dX6_wall_38 : decode cX6_wall 38 = .ok (.iconst 1, 1) := by decide +kernel
theorem dX6_wall_39 : decode cX6_wall 39 = .ok (.invokevirtual 63, 3) := by decide +kernel
theorem dX6_wall_42 : decode cX6_wall 42 = .ok (.ireturn, 1) := by decide +kernel
theorem dX6_wall_43 : decode cX6_wall 43 = .ok (.iconst 0, 1) := by decide +kernel
theorem dX6_wall_44 : decode cX6_wall 44 = .ok (.istore_n 3, 1) := by decide +kernel
theorem dX6_wall_45 : decode cX6_wall 45 = .ok (.iconst 0, 1) := by decide +kernel
theorem dX6_wall_46 : decode cX6_wall 46 = .ok (.istore 4, 2) := by decide +kernel
theorem dX6_wall_48 : decode cX6_wall 48 = .ok (.iload 4, 2) := by decide +kernel
theorem dX6_wall_50 : decode cX6_wall 50 = .ok (.aload_n 0, 1) := by decide +kernel
theorem dX6_wall_51 : decode cX6_wall 51 = .ok (.getfield 60, 3) := by decide +kernel
theorem dX6_wall_54 : decode cX6_wall 54 = .ok (.if_icmp .ge 52, 3) := by decide +kernel
theorem dX6_wall_57 : decode cX6_wall 57 = .ok (.iload_n 3, 1) := by decide +kernel
theorem dX6_wall_58 : decode cX6_wall 58 = .ok (.aload_n 0, 1) := by decide +kernel
theorem dX6_wall_59 : decode cX6_wall 59 = .ok (.getfield 42, 3) := by decide +kernel
theorem dX6_wall_62 : decode cX6_wall 62 = .ok (.getfield 67, 3) := by decide +kernel
theorem dX6_wall_65 : decode cX6_wall 65 = .ok (.iload 4, 2) := by decide +kernel
theorem dX6_wall_67 : decode cX6_wall 67 = .ok (.iaload, 1) := by decide +kernel
theorem dX6_wall_68 : decode cX6_wall 68 = .ok (.iconst (-1), 1) := by decide +kernel
theorem dX6_wall_69 : decode cX6_wall 69 = .ok (.if_icmp .eq 28, 3) := by decide +kernel
theorem dX6_wall_72 : decode cX6_wall 72 = .ok (.aload_n 0, 1) := by decide +kernel
theorem dX6_wall_73 : decode cX6_wall 73 = .ok (.getfield 25, 3) := by decide +kernel
theorem dX6_wall_76 : decode cX6_wall 76 = .ok (.iload_n 1, 1) := by decide +kernel
theorem dX6_wall_77 : decode cX6_wall 77 = .ok (.iaload, 1) := by decide +kernel
theorem dX6_wall_78 : decode cX6_wall 78 = .ok (.aload_n 0, 1) := by decide +kernel
theorem dX6_wall_79 : decode cX6_wall 79 = .ok (.getfield 42, 3) := by decide +kernel
theorem dX6_wall_82 : decode cX6_wall 82 = .ok (.getfield 67, 3) := by decide +kernel
theorem dX6_wall_85 : decode cX6_wall 85 = .ok (.iload 4, 2) := by decide +kernel
theorem dX6_wall_87 : decode cX6_wall 87 = .ok (.iaload, 1) := by decide +kernel
theorem dX6_wall_88 : decode cX6_wall 88 = .ok (.isub, 1) := by decide +kernel
theorem dX6_wall_89 : decode cX6_wall 89 = .ok (.iload_n 2, 1) := by decide +kernel
theorem dX6_wall_90 : decode cX6_wall 90 = .ok (.if_icmp .ne 7, 3) := by decide +kernel
theorem dX6_wall_93 : decode cX6_wall 93 = .ok (.iconst 1, 1) := by decide +kernel
theorem dX6_wall_94 : decode cX6_wall 94 = .ok (.goto 4, 3) := by decide +kernel
theorem dX6_wall_97 : decode cX6_wall 97 = .ok (.iconst 0, 1) := by decide +kernel
theorem dX6_wall_98 : decode cX6_wall 98 = .ok (.iadd, 1) := by decide +kernel
theorem dX6_wall_99 : decode cX6_wall 99 = .ok (.istore_n 3, 1) := by decide +kernel
theorem dX6_wall_100 : decode cX6_wall 100 = .ok (.iinc 4 1, 3) := by decide +kernel
theorem dX6_wall_103 : decode cX6_wall 103 = .ok (.goto (-55), 3) := by decide +kernel
theorem dX6_wall_106 : decode cX6_wall 106 = .ok (.iload_n 3, 1) := by decide +kernel
theorem dX6_wall_107 : decode cX6_wall 107 = .ok (.ireturn, 1) := by decide +kernel
theorem dX6_bright_0 : decode cX6_bright 0 = .ok (.aload_n 0, 1) := by decide +kernel
theorem dX6_bright_1 : decode cX6_bright 1 = .ok (.iconst 0, 1) := by decide +kernel
theorem dX6_bright_2 : decode cX6_bright 2 = .ok (.putfield 49, 3) := by decide +kernel
theorem dX6_bright_5 : decode cX6_bright 5 = .ok (.aload_n 0, 1) := by decide +kernel
theorem dX6_bright_6 : decode cX6_bright 6 = .ok (.iload_n 1, 1) := by decide +kernel
theorem dX6_bright_7 : decode cX6_bright 7 = .ok (.invokevirtual 73, 3) := by decide +kernel
theorem dX6_bright_10 : decode cX6_bright 10 = .ok (.ifCond .eq 11, 3) := by decide +kernel
theorem dX6_bright_13 : decode cX6_bright 13 = .ok (.aload_n 0, 1) := by decide +kernel
theorem dX6_bright_14 : decode cX6_bright 14 = .ok (.iload_n 2, 1) := by decide +kernel
theorem dX6_bright_15 : decode cX6_bright 15 = .ok (.invokevirtual 84, 3) := by decide +kernel
theorem dX6_bright_18 : decode cX6_bright 18 = .ok (.ifCond .ne 9, 3) := by decide +kernel
theorem dX6_bright_21 : decode cX6_bright 21 = .ok (.aload_n 0, 1) := by decide +kernel
theorem dX6_bright_22 : decode cX6_bright 22 = .ok (.iconst 1, 1) := by decide +kernel
theorem dX6_bright_23 : decode cX6_bright 23 = .ok (.invokevirtual 63, 3) := by decide +kernel
theorem dX6_bright_26 : decode cX6_bright 26 = .ok (.ireturn, 1) := by decide +kernel
theorem dX6_bright_27 : decode cX6_bright 27 = .ok (.aload_n 0, 1) := by decide +kernel
theorem dX6_bright_28 : decode cX6_bright 28 = .ok (.getfield 42, 3) := by decide +kernel
theorem dX6_bright_31 : decode cX6_bright 31 = .ok (.iload_n 1, 1) := by decide +kernel
theorem dX6_bright_32 : decode cX6_bright 32 = .ok (.iload_n 2, 1) := by decide +kernel
theorem dX6_bright_33 : decode cX6_bright 33 = .ok (.invokevirtual 100, 3) := by decide +kernel
theorem dX6_bright_36 : decode cX6_bright 36 = .ok (.ifCond .eq 15, 3) := by decide +kernel
theorem dX6_bright_39 : decode cX6_bright 39 = .ok (.aload_n 0, 1) := by decide +kernel
theorem dX6_bright_40 : decode cX6_bright 40 = .ok (.getfield 42, 3) := by decide +kernel
theorem dX6_bright_43 : decode cX6_bright 43 = .ok (.iload_n 1, 1) := by decide +kernel
theorem dX6_bright_44 : decode cX6_bright 44 = .ok (.iload_n 2, 1) := by decide +kernel
theorem dX6_bright_45 : decode cX6_bright 45 = .ok (.invokevirtual 103, 3) := by decide +kernel
theorem dX6_bright_48 : decode cX6_bright 48 = .ok (.goto 4, 3) := by decide +kernel
theorem dX6_bright_51 : decode cX6_bright 51 = .ok (.iconst (-1), 1) := by decide +kernel
theorem dX6_bright_52 : decode cX6_bright 52 = .ok (.ireturn, 1) := by decide +kernel
theorem dX6_counted_0 : decode cX6_counted 0 = .ok (.iconst 0, 1) := by decide +kernel
theorem dX6_counted_1 : decode cX6_counted 1 = .ok (.istore_n 2, 1) := by decide +kernel
theorem dX6_counted_2 : decode cX6_counted 2 = .ok (.iconst 0, 1) := by decide +kernel
theorem dX6_counted_3 : decode cX6_counted 3 = .ok (.istore_n 3, 1) := by decide +kernel
theorem dX6_counted_4 : decode cX6_counted 4 = .ok (.iload_n 3, 1) := by decide +kernel
theorem dX6_counted_5 : decode cX6_counted 5 = .ok (.aload_n 0, 1) := by decide +kernel
theorem dX6_counted_6 : decode cX6_counted 6 = .ok (.getfield 53, 3) := by decide +kernel
theorem dX6_counted_9 : decode cX6_counted 9 = .ok (.if_icmp .ge 20, 3) := by decide +kernel
theorem dX6_counted_12 : decode cX6_counted 12 = .ok (.iload_n 2, 1) := by decide +kernel
theorem dX6_counted_13 : decode cX6_counted 13 = .ok (.aload_n 0, 1) := by decide +kernel
theorem dX6_counted_14 : decode cX6_counted 14 = .ok (.getfield 42, 3) := by decide +kernel
theorem dX6_counted_17 : decode cX6_counted 17 = .ok (.iload_n 3, 1) := by decide +kernel
theorem dX6_counted_18 : decode cX6_counted 18 = .ok (.invokevirtual 91, 3) := by decide +kernel
theorem dX6_counted_21 : decode cX6_counted 21 = .ok (.iadd, 1) := by decide +kernel
theorem dX6_counted_22 : decode cX6_counted 22 = .ok (.istore_n 2, 1) := by decide +kernel
theorem dX6_counted_23 : decode cX6_counted 23 = .ok (.iinc 3 1, 3) := by decide +kernel
theorem dX6_counted_26 : decode cX6_counted 26 = .ok (.goto (-22), 3) := by decide +kernel
theorem dX6_counted_29 : decode cX6_counted 29 = .ok (.bipush 9, 2) := by decide +kernel
theorem dX6_counted_31 : decode cX6_counted 31 = .ok (.newarray .int, 2) := by decide +kernel
theorem dX6_counted_33 : decode cX6_counted 33 = .ok (.dup, 1) := by decide +kernel
theorem dX6_counted_34 : decode cX6_counted 34 = .ok (.iconst 0, 1) := by decide +kernel
theorem dX6_counted_35 : decode cX6_counted 35 = .ok (.aload_n 0, 1) := by decide +kernel
theorem dX6_counted_36 : decode cX6_counted 36 = .ok (.getfield 42, 3) := by decide +kernel
theorem dX6_counted_39 : decode cX6_counted 39 = .ok (.getfield 106, 3) := by decide +kernel
theorem dX6_counted_42 : decode cX6_counted 42 = .ok (.iastore, 1) := by decide +kernel
theorem dX6_counted_43 : decode cX6_counted 43 = .ok (.dup, 1) := by decide +kernel
theorem dX6_counted_44 : decode cX6_counted 44 = .ok (.iconst 1, 1) := by decide +kernel
theorem dX6_counted_45 : decode cX6_counted 45 = .ok (.aload_n 0, 1) := by decide +kernel
theorem dX6_counted_46 : decode cX6_counted 46 = .ok (.getfield 42, 3) := by decide +kernel
theorem dX6_counted_49 : decode cX6_counted 49 = .ok (.invokevirtual 109, 3) := by decide +kernel
theorem dX6_counted_52 : decode cX6_counted 52 = .ok (.iastore, 1) := by decide +kernel
theorem dX6_counted_53 : decode cX6_counted 53 = .ok (.dup, 1) := by decide +kernel
theorem dX6_counted_54 : decode cX6_counted 54 = .ok (.iconst 2, 1) := by decide +kernel
theorem dX6_counted_55 : decode cX6_counted 55 = .ok (.aload_n 0, 1) := by decide +kernel
theorem dX6_counted_56 : decode cX6_counted 56 = .ok (.getfield 60, 3) := by decide +kernel
theorem dX6_counted_59 : decode cX6_counted 59 = .ok (.iastore, 1) := by decide +kernel
theorem dX6_counted_60 : decode cX6_counted 60 = .ok (.dup, 1) := by decide +kernel
theorem dX6_counted_61 : decode cX6_counted 61 = .ok (.iconst 3, 1) := by decide +kernel
theorem dX6_counted_62 : decode cX6_counted 62 = .ok (.aload_n 0, 1) := by decide +kernel
theorem dX6_counted_63 : decode cX6_counted 63 = .ok (.getfield 42, 3) := by decide +kernel
theorem dX6_counted_66 : decode cX6_counted 66 = .ok (.invokevirtual 113, 3) := by decide +kernel
theorem dX6_counted_69 : decode cX6_counted 69 = .ok (.iastore, 1) := by decide +kernel
theorem dX6_counted_70 : decode cX6_counted 70 = .ok (.dup, 1) := by decide +kernel
theorem dX6_counted_71 : decode cX6_counted 71 = .ok (.iconst 4, 1) := by decide +kernel
theorem dX6_counted_72 : decode cX6_counted 72 = .ok (.aload_n 0, 1) := by decide +kernel
theorem dX6_counted_73 : decode cX6_counted 73 = .ok (.getfield 53, 3) := by decide +kernel
theorem dX6_counted_76 : decode cX6_counted 76 = .ok (.iastore, 1) := by decide +kernel
theorem dX6_counted_77 : decode cX6_counted 77 = .ok (.dup, 1) := by decide +kernel
theorem dX6_counted_78 : decode cX6_counted 78 = .ok (.iconst 5, 1) := by decide +kernel
theorem dX6_counted_79 : decode cX6_counted 79 = .ok (.aload_n 0, 1) := by decide +kernel
theorem dX6_counted_80 : decode cX6_counted 80 = .ok (.getfield 42, 3) := by decide +kernel
theorem dX6_counted_83 : decode cX6_counted 83 = .ok (.invokevirtual 116, 3) := by decide +kernel
theorem dX6_counted_86 : decode cX6_counted 86 = .ok (.iastore, 1) := by decide +kernel
theorem dX6_counted_87 : decode cX6_counted 87 = .ok (.dup, 1) := by decide +kernel
theorem dX6_counted_88 : decode cX6_counted 88 = .ok (.bipush 6, 2) := by decide +kernel
theorem dX6_counted_90 : decode cX6_counted 90 = .ok (.iload_n 2, 1) := by decide +kernel
theorem dX6_counted_91 : decode cX6_counted 91 = .ok (.iastore, 1) := by decide +kernel
theorem dX6_counted_92 : decode cX6_counted 92 = .ok (.dup, 1) := by decide +kernel
theorem dX6_counted_93 : decode cX6_counted 93 = .ok (.bipush 7, 2) := by decide +kernel
theorem dX6_counted_95 : decode cX6_counted 95 = .ok (.aload_n 0, 1) := by decide +kernel
theorem dX6_counted_96 : decode cX6_counted 96 = .ok (.getfield 42, 3) := by decide +kernel
theorem dX6_counted_99 : decode cX6_counted 99 = .ok (.invokevirtual 119, 3) := by decide +kernel
theorem dX6_counted_102 : decode cX6_counted 102 = .ok (.iastore, 1) := by decide +kernel
theorem dX6_counted_103 : decode cX6_counted 103 = .ok (.dup, 1) := by decide +kernel
theorem dX6_counted_104 : decode cX6_counted 104 = .ok (.bipush 8, 2) := by decide +kernel
theorem dX6_counted_106 : decode cX6_counted 106 = .ok (.aload_n 0, 1) := by decide +kernel
theorem dX6_counted_107 : decode cX6_counted 107 = .ok (.getfield 42, 3) := by decide +kernel
theorem dX6_counted_110 : decode cX6_counted 110 = .ok (.getfield 106, 3) := by decide +kernel
theorem dX6_counted_113 : decode cX6_counted 113 = .ok (.sipush 720, 3) := by decide +kernel
theorem dX6_counted_116 : decode cX6_counted 116 = .ok (.if_icmp .ne 7, 3) := by decide +kernel
theorem dX6_counted_119 : decode cX6_counted 119 = .ok (.iconst 1, 1) := by decide +kernel
theorem dX6_counted_120 : decode cX6_counted 120 = .ok (.goto 4, 3) := by decide +kernel
theorem dX6_counted_123 : decode cX6_counted 123 = .ok (.iconst 0, 1) := by decide +kernel
theorem dX6_counted_124 : decode cX6_counted 124 = .ok (.iastore, 1) := by decide +kernel
theorem dX6_counted_125 : decode cX6_counted 125 = .ok (.astore_n 3, 1) := by decide +kernel
theorem dX6_counted_126 : decode cX6_counted 126 = .ok (.aload_n 3, 1) := by decide +kernel
theorem dX6_counted_127 : decode cX6_counted 127 = .ok (.iload_n 1, 1) := by decide +kernel
theorem dX6_counted_128 : decode cX6_counted 128 = .ok (.iaload, 1) := by decide +kernel
theorem dX6_counted_129 : decode cX6_counted 129 = .ok (.ireturn, 1) := by decide +kernel
theorem dX6_count_0 : decode cX6_count 0 = .ok (.aload_n 0, 1) := by decide +kernel
theorem dX6_count_1 : decode cX6_count 1 = .ok (.iconst 0, 1) := by decide +kernel
theorem dX6_count_2 : decode cX6_count 2 = .ok (.putfield 49, 3) := by decide +kernel
theorem dX6_count_5 : decode cX6_count 5 = .ok (.iload_n 1, 1) := by decide +kernel
theorem dX6_count_6 : decode cX6_count 6 = .ok (.iconst 0, 1) := by decide +kernel
theorem dX6_count_7 : decode cX6_count 7 = .ok (.bipush 8, 2) := by decide +kernel
theorem dX6_count_9 : decode cX6_count 9 = .ok (.invokestatic 56, 3) := by decide +kernel
theorem dX6_count_12 : decode cX6_count 12 = .ok (.ifCond .eq 11, 3) := by decide +kernel
theorem dX6_count_15 : decode cX6_count 15 = .ok (.aload_n 0, 1) := by decide +kernel
theorem dX6_count_16 : decode cX6_count 16 = .ok (.iload_n 1, 1) := by decide +kernel
theorem dX6_count_17 : decode cX6_count 17 = .ok (.invokevirtual 122, 3) := by decide +kernel
theorem dX6_count_20 : decode cX6_count 20 = .ok (.goto 8, 3) := by decide +kernel
theorem dX6_count_23 : decode cX6_count 23 = .ok (.aload_n 0, 1) := by decide +kernel
theorem dX6_count_24 : decode cX6_count 24 = .ok (.iconst 1, 1) := by decide +kernel
theorem dX6_count_25 : decode cX6_count 25 = .ok (.invokevirtual 63, 3) := by decide +kernel
theorem dX6_count_28 : decode cX6_count 28 = .ok (.ireturn, 1) := by decide +kernel
theorem dX6_go_0 : decode cX6_go 0 = .ok (.aload_n 0, 1) := by decide +kernel
theorem dX6_go_1 : decode cX6_go 1 = .ok (.iconst 0, 1) := by decide +kernel
theorem dX6_go_2 : decode cX6_go 2 = .ok (.putfield 49, 3) := by decide +kernel
theorem dX6_go_5 : decode cX6_go 5 = .ok (.iload_n 1, 1) := by decide +kernel
theorem dX6_go_6 : decode cX6_go 6 = .ok (.iconst 1, 1) := by decide +kernel
theorem dX6_go_7 : decode cX6_go 7 = .ok (.sipush 720, 3) := by decide +kernel
theorem dX6_go_10 : decode cX6_go 10 = .ok (.invokestatic 56, 3) := by decide +kernel
theorem dX6_go_13 : decode cX6_go 13 = .ok (.ifCond .ne 9, 3) := by decide +kernel
theorem dX6_go_16 : decode cX6_go 16 = .ok (.aload_n 0, 1) := by decide +kernel
theorem dX6_go_17 : decode cX6_go 17 = .ok (.iconst 1, 1) := by decide +kernel
theorem dX6_go_18 : decode cX6_go 18 = .ok (.invokevirtual 63, 3) := by decide +kernel
theorem dX6_go_21 : decode cX6_go 21 = .ok (.ireturn, 1) := by decide +kernel
theorem dX6_go_22 : decode cX6_go 22 = .ok (.aload_n 0, 1) := by decide +kernel
theorem dX6_go_23 : decode cX6_go 23 = .ok (.getfield 42, 3) := by decide +kernel
theorem dX6_go_26 : decode cX6_go 26 = .ok (.invokevirtual 119, 3) := by decide +kernel
theorem dX6_go_29 : decode cX6_go 29 = .ok (.istore_n 2, 1) := by decide +kernel
theorem dX6_go_30 : decode cX6_go 30 = .ok (.aload_n 0, 1) := by decide +kernel
theorem dX6_go_31 : decode cX6_go 31 = .ok (.getfield 42, 3) := by decide +kernel
theorem dX6_go_34 : decode cX6_go 34 = .ok (.iload_n 1, 1) := by decide +kernel
theorem dX6_go_35 : decode cX6_go 35 = .ok (.invokevirtual 125, 3) := by decide +kernel
theorem dX6_go_38 : decode cX6_go 38 = .ok (.aload_n 0, 1) := by decide +kernel
theorem dX6_go_39 : decode cX6_go 39 = .ok (.getfield 42, 3) := by decide +kernel
theorem dX6_go_42 : decode cX6_go 42 = .ok (.invokevirtual 119, 3) := by decide +kernel
theorem dX6_go_45 : decode cX6_go 45 = .ok (.iload_n 2, 1) := by decide +kernel
theorem dX6_go_46 : decode cX6_go 46 = .ok (.isub, 1) := by decide +kernel
theorem dX6_go_47 : decode cX6_go 47 = .ok (.ireturn, 1) := by decide +kernel
theorem dX6_when_0 : decode cX6_when 0 = .ok (.aload_n 0, 1) := by decide +kernel
theorem dX6_when_1 : decode cX6_when 1 = .ok (.iconst 0, 1) := by decide +kernel
theorem dX6_when_2 : decode cX6_when 2 = .ok (.putfield 49, 3) := by decide +kernel
theorem dX6_when_5 : decode cX6_when 5 = .ok (.aload_n 0, 1) := by decide +kernel
theorem dX6_when_6 : decode cX6_when 6 = .ok (.iload_n 1, 1) := by decide +kernel
theorem dX6_when_7 : decode cX6_when 7 = .ok (.invokevirtual 73, 3) := by decide +kernel
theorem dX6_when_10 : decode cX6_when 10 = .ok (.ifCond .ne 9, 3) := by decide +kernel
theorem dX6_when_13 : decode cX6_when 13 = .ok (.aload_n 0, 1) := by decide +kernel
theorem dX6_when_14 : decode cX6_when 14 = .ok (.iconst 1, 1) := by decide +kernel
theorem dX6_when_15 : decode cX6_when 15 = .ok (.invokevirtual 63, 3) := by decide +kernel
theorem dX6_when_18 : decode cX6_when 18 = .ok (.ireturn, 1) := by decide +kernel
theorem dX6_when_19 : decode cX6_when 19 = .ok (.aload_n 0, 1) := by decide +kernel
theorem dX6_when_20 : decode cX6_when 20 = .ok (.getfield 46, 3) := by decide +kernel
theorem dX6_when_23 : decode cX6_when 23 = .ok (.aload_n 0, 1) := by decide +kernel
theorem dX6_when_24 : decode cX6_when 24 = .ok (.getfield 42, 3) := by decide +kernel
theorem dX6_when_27 : decode cX6_when 27 = .ok (.invokevirtual 129, 3) := by decide +kernel
theorem dX6_when_30 : decode cX6_when 30 = .ok (.iconst (-1), 1) := by decide +kernel
theorem dX6_when_31 : decode cX6_when 31 = .ok (.istore_n 2, 1) := by decide +kernel
theorem dX6_when_32 : decode cX6_when 32 = .ok (.iconst 0, 1) := by decide +kernel
theorem dX6_when_33 : decode cX6_when 33 = .ok (.istore_n 3, 1) := by decide +kernel
theorem dX6_when_34 : decode cX6_when 34 = .ok (.aload_n 0, 1) := by decide +kernel
theorem dX6_when_35 : decode cX6_when 35 = .ok (.getfield 46, 3) := by decide +kernel
theorem dX6_when_38 : decode cX6_when 38 = .ok (.getfield 106, 3) := by decide +kernel
theorem dX6_when_41 : decode cX6_when 41 = .ok (.sipush 720, 3) := by decide +kernel
theorem dX6_when_44 : decode cX6_when 44 = .ok (.if_icmp .ge 40, 3) := by decide +kernel
theorem dX6_when_47 : decode cX6_when 47 = .ok (.aload_n 0, 1) := by decide +kernel
theorem dX6_when_48 : decode cX6_when 48 = .ok (.getfield 46, 3) := by decide +kernel
theorem dX6_when_51 : decode cX6_when 51 = .ok (.iload_n 1, 1) := by decide +kernel
theorem dX6_when_52 : decode cX6_when 52 = .ok (.invokevirtual 91, 3) := by decide +kernel
theorem dX6_when_55 : decode cX6_when 55 = .ok (.istore 4, 2) := by decide +kernel
theorem dX6_when_57 : decode cX6_when 57 = .ok (.iload 4, 2) := by decide +kernel
theorem dX6_when_59 : decode cX6_when 59 = .ok (.iload_n 3, 1) := by decide +kernel
theorem dX6_when_60 : decode cX6_when 60 = .ok (.if_icmp .le 14, 3) := by decide +kernel
theorem dX6_when_63 : decode cX6_when 63 = .ok (.iload 4, 2) := by decide +kernel
theorem dX6_when_65 : decode cX6_when 65 = .ok (.istore_n 3, 1) := by decide +kernel
theorem dX6_when_66 : decode cX6_when 66 = .ok (.aload_n 0, 1) := by decide +kernel
theorem dX6_when_67 : decode cX6_when 67 = .ok (.getfield 46, 3) := by decide +kernel
theorem dX6_when_70 : decode cX6_when 70 = .ok (.getfield 106, 3) := by decide +kernel
theorem dX6_when_73 : decode cX6_when 73 = .ok (.istore_n 2, 1) := by decide +kernel
theorem dX6_when_74 : decode cX6_when 74 = .ok (.aload_n 0, 1) := by decide +kernel
theorem dX6_when_75 : decode cX6_when 75 = .ok (.getfield 46, 3) := by decide +kernel
theorem dX6_when_78 : decode cX6_when 78 = .ok (.invokevirtual 133, 3) := by decide +kernel
theorem dX6_when_81 : decode cX6_when 81 = .ok (.goto (-47), 3) := by decide +kernel
theorem dX6_when_84 : decode cX6_when 84 = .ok (.iload_n 2, 1) := by decide +kernel
theorem dX6_when_85 : decode cX6_when 85 = .ok (.ireturn, 1) := by decide +kernel
theorem dX6_advise_0 : decode cX6_advise 0 = .ok (.aload_n 0, 1) := by decide +kernel
theorem dX6_advise_1 : decode cX6_advise 1 = .ok (.iconst 0, 1) := by decide +kernel
theorem dX6_advise_2 : decode cX6_advise 2 = .ok (.putfield 49, 3) := by decide +kernel
theorem dX6_advise_5 : decode cX6_advise 5 = .ok (.aload_n 0, 1) := by decide +kernel
theorem dX6_advise_6 : decode cX6_advise 6 = .ok (.iload_n 1, 1) := by decide +kernel
theorem dX6_advise_7 : decode cX6_advise 7 = .ok (.invokevirtual 73, 3) := by decide +kernel
theorem dX6_advise_10 : decode cX6_advise 10 = .ok (.ifCond .ne 9, 3) := by decide +kernel
theorem dX6_advise_13 : decode cX6_advise 13 = .ok (.aload_n 0, 1) := by decide +kernel
theorem dX6_advise_14 : decode cX6_advise 14 = .ok (.iconst 1, 1) := by decide +kernel
theorem dX6_advise_15 : decode cX6_advise 15 = .ok (.invokevirtual 63, 3) := by decide +kernel
theorem dX6_advise_18 : decode cX6_advise 18 = .ok (.ireturn, 1) := by decide +kernel
theorem dX6_advise_19 : decode cX6_advise 19 = .ok (.iload_n 2, 1) := by decide +kernel
theorem dX6_advise_20 : decode cX6_advise 20 = .ok (.iconst 1, 1) := by decide +kernel
theorem dX6_advise_21 : decode cX6_advise 21 = .ok (.sipush 200, 3) := by decide +kernel
theorem dX6_advise_24 : decode cX6_advise 24 = .ok (.invokestatic 56, 3) := by decide +kernel
theorem dX6_advise_27 : decode cX6_advise 27 = .ok (.ifCond .ne 9, 3) := by decide +kernel
theorem dX6_advise_30 : decode cX6_advise 30 = .ok (.aload_n 0, 1) := by decide +kernel
theorem dX6_advise_31 : decode cX6_advise 31 = .ok (.iconst 2, 1) := by decide +kernel
theorem dX6_advise_32 : decode cX6_advise 32 = .ok (.invokevirtual 63, 3) := by decide +kernel
theorem dX6_advise_35 : decode cX6_advise 35 = .ok (.ireturn, 1) := by decide +kernel
theorem dX6_advise_36 : decode cX6_advise 36 = .ok (.iconst 0, 1) := by decide +kernel
theorem dX6_advise_37 : decode cX6_advise 37 = .ok (.istore_n 3, 1) := by decide +kernel
theorem dX6_advise_38 : decode cX6_advise 38 = .ok (.iconst (-1), 1) := by decide +kernel
theorem dX6_advise_39 : decode cX6_advise 39 = .ok (.istore 4, 2) := by decide +kernel
theorem dX6_advise_41 : decode cX6_advise 41 = .ok (.iconst 1, 1) := by decide +kernel
theorem dX6_advise_42 : decode cX6_advise 42 = .ok (.istore 5, 2) := by decide +kernel
theorem dX6_advise_44 : decode cX6_advise 44 = .ok (.iload 5, 2) := by decide +kernel
theorem dX6_advise_46 : decode cX6_advise 46 = .ok (.bipush 9, 2) := by decide +kernel
theorem dX6_advise_48 : decode cX6_advise 48 = .ok (.if_icmp .gt 70, 3) := by decide +kernel
theorem dX6_advise_51 : decode cX6_advise 51 = .ok (.aload_n 0, 1) := by decide +kernel
theorem dX6_advise_52 : decode cX6_advise 52 = .ok (.getfield 46, 3) := by decide +kernel
theorem dX6_advise_55 : decode cX6_advise 55 = .ok (.aload_n 0, 1) := by decide +kernel
theorem dX6_advise_56 : decode cX6_advise 56 = .ok (.getfield 42, 3) := by decide +kernel
theorem dX6_advise_59 : decode cX6_advise 59 = .ok (.invokevirtual 129, 3) := by decide +kernel
theorem dX6_advise_62 : decode cX6_advise 62 = .ok (.aload_n 0, 1) := by decide +kernel
theorem dX6_advise_63 : decode cX6_advise 63 = .ok (.getfield 46, 3) := by decide +kernel
theorem dX6_advise_66 : decode cX6_advise 66 = .ok (.getfield 70, 3) := by decide +kernel
theorem dX6_advise_69 : decode cX6_advise 69 = .ok (.iload_n 1, 1) := by decide +kernel
theorem dX6_advise_70 : decode cX6_advise 70 = .ok (.iload 5, 2) := by decide +kernel
theorem dX6_advise_72 : decode cX6_advise 72 = .ok (.iastore, 1) := by decide +kernel
theorem dX6_advise_73 : decode cX6_advise 73 = .ok (.aload_n 0, 1) := by decide +kernel
theorem dX6_advise_74 : decode cX6_advise 74 = .ok (.getfield 46, 3) := by decide +kernel
theorem dX6_advise_77 : decode cX6_advise 77 = .ok (.iload_n 2, 1) := by decide +kernel
theorem dX6_advise_78 : decode cX6_advise 78 = .ok (.invokevirtual 125, 3) := by decide +kernel
theorem dX6_advise_81 : decode cX6_advise 81 = .ok (.aload_n 0, 1) := by decide +kernel
theorem dX6_advise_82 : decode cX6_advise 82 = .ok (.getfield 46, 3) := by decide +kernel
theorem dX6_advise_85 : decode cX6_advise 85 = .ok (.getfield 94, 3) := by decide +kernel
theorem dX6_advise_88 : decode cX6_advise 88 = .ok (.iload_n 1, 1) := by decide +kernel
theorem dX6_advise_89 : decode cX6_advise 89 = .ok (.iaload, 1) := by decide +kernel
theorem dX6_advise_90 : decode cX6_advise 90 = .ok (.iload 4, 2) := by decide +kernel
theorem dX6_advise_92 : decode cX6_advise 92 = .ok (.if_icmp .gt 6, 3) := by decide +kernel
theorem dX6_advise_95 : decode cX6_advise 95 = .ok (.goto 17, 3) := by decide +kernel
theorem dX6_advise_98 : decode cX6_advise 98 = .ok (.aload_n 0, 1) := by decide +kernel
theorem dX6_advise_99 : decode cX6_advise 99 = .ok (.getfield 46, 3) := by decide +kernel
theorem dX6_advise_102 : decode cX6_advise 102 = .ok (.getfield 94, 3) := by decide +kernel
theorem dX6_advise_105 : decode cX6_advise 105 = .ok (.iload_n 1, 1) := by decide +kernel
theorem dX6_advise_106 : decode cX6_advise 106 = .ok (.iaload, 1) := by decide +kernel
theorem dX6_advise_107 : decode cX6_advise 107 = .ok (.istore 4, 2) := by decide +kernel
theorem dX6_advise_109 : decode cX6_advise 109 = .ok (.iload 5, 2) := by decide +kernel
theorem dX6_advise_111 : decode cX6_advise 111 = .ok (.istore_n 3, 1) := by decide +kernel
theorem dX6_advise_112 : decode cX6_advise 112 = .ok (.iinc 5 1, 3) := by decide +kernel
theorem dX6_advise_115 : decode cX6_advise 115 = .ok (.goto (-71), 3) := by decide +kernel
theorem dX6_advise_118 : decode cX6_advise 118 = .ok (.iload_n 3, 1) := by decide +kernel
theorem dX6_advise_119 : decode cX6_advise 119 = .ok (.ireturn, 1) := by decide +kernel
theorem dX6_seen_0 : decode cX6_seen 0 = .ok (.aload_n 0, 1) := by decide +kernel
theorem dX6_seen_1 : decode cX6_seen 1 = .ok (.iconst 0, 1) := by decide +kernel
theorem dX6_seen_2 : decode cX6_seen 2 = .ok (.putfield 49, 3) := by decide +kernel
theorem dX6_seen_5 : decode cX6_seen 5 = .ok (.aload_n 0, 1) := by decide +kernel
theorem dX6_seen_6 : decode cX6_seen 6 = .ok (.iload_n 1, 1) := by decide +kernel
theorem dX6_seen_7 : decode cX6_seen 7 = .ok (.invokevirtual 84, 3) := by decide +kernel
theorem dX6_seen_10 : decode cX6_seen 10 = .ok (.ifCond .ne 9, 3) := by decide +kernel
theorem dX6_seen_13 : decode cX6_seen 13 = .ok (.aload_n 0, 1) := by decide +kernel
theorem dX6_seen_14 : decode cX6_seen 14 = .ok (.iconst 1, 1) := by decide +kernel
theorem dX6_seen_15 : decode cX6_seen 15 = .ok (.invokevirtual 63, 3) := by decide +kernel
theorem dX6_seen_18 : decode cX6_seen 18 = .ok (.ireturn, 1) := by decide +kernel
theorem dX6_seen_19 : decode cX6_seen 19 = .ok (.aload_n 0, 1) := by decide +kernel
theorem dX6_seen_20 : decode cX6_seen 20 = .ok (.getfield 46, 3) := by decide +kernel
theorem dX6_seen_23 : decode cX6_seen 23 = .ok (.aload_n 0, 1) := by decide +kernel
theorem dX6_seen_24 : decode cX6_seen 24 = .ok (.getfield 42, 3) := by decide +kernel
theorem dX6_seen_27 : decode cX6_seen 27 = .ok (.invokevirtual 129, 3) := by decide +kernel
theorem dX6_seen_30 : decode cX6_seen 30 = .ok (.iconst 0, 1) := by decide +kernel
theorem dX6_seen_31 : decode cX6_seen 31 = .ok (.istore_n 2, 1) := by decide +kernel
theorem dX6_seen_32 : decode cX6_seen 32 = .ok (.iconst 1, 1) := by decide +kernel
theorem dX6_seen_33 : decode cX6_seen 33 = .ok (.istore_n 3, 1) := by decide +kernel
theorem dX6_seen_34 : decode cX6_seen 34 = .ok (.iload_n 3, 1) := by decide +kernel
theorem dX6_seen_35 : decode cX6_seen 35 = .ok (.ifCond .eq 70, 3) := by decide +kernel
theorem dX6_seen_38 : decode cX6_seen 38 = .ok (.iconst 0, 1) := by decide +kernel
theorem dX6_seen_39 : decode cX6_seen 39 = .ok (.istore 4, 2) := by decide +kernel
theorem dX6_seen_41 : decode cX6_seen 41 = .ok (.iload 4, 2) := by decide +kernel
theorem dX6_seen_43 : decode cX6_seen 43 = .ok (.aload_n 0, 1) := by decide +kernel
theorem dX6_seen_44 : decode cX6_seen 44 = .ok (.getfield 53, 3) := by decide +kernel
theorem dX6_seen_47 : decode cX6_seen 47 = .ok (.if_icmp .ge 29, 3) := by decide +kernel
theorem dX6_seen_50 : decode cX6_seen 50 = .ok (.aload_n 0, 1) := by decide +kernel
theorem dX6_seen_51 : decode cX6_seen 51 = .ok (.getfield 46, 3) := by decide +kernel
theorem dX6_seen_54 : decode cX6_seen 54 = .ok (.iload 4, 2) := by decide +kernel
theorem dX6_seen_56 : decode cX6_seen 56 = .ok (.iload_n 1, 1) := by decide +kernel
theorem dX6_seen_57 : decode cX6_seen 57 = .ok (.invokevirtual 100, 3) := by decide +kernel
theorem dX6_seen_60 : decode cX6_seen 60 = .ok (.ifCond .eq 10, 3) := by decide +kernel
theorem dX6_seen_63 : decode cX6_seen 63 = .ok (.iload_n 2, 1) := by decide +kernel
theorem dX6_seen_64 : decode cX6_seen 64 = .ok (.iconst 1, 1) := by decide +kernel
theorem dX6_seen_65 : decode cX6_seen 65 = .ok (.iload 4, 2) := by decide +kernel
theorem dX6_seen_67 : decode cX6_seen 67 = .ok (.ishl, 1) := by decide +kernel
theorem dX6_seen_68 : decode cX6_seen 68 = .ok (.ior, 1) := by decide +kernel
theorem dX6_seen_69 : decode cX6_seen 69 = .ok (.istore_n 2, 1) := by decide +kernel
theorem dX6_seen_70 : decode cX6_seen 70 = .ok (.iinc 4 1, 3) := by decide +kernel
theorem dX6_seen_73 : decode cX6_seen 73 = .ok (.goto (-32), 3) := by decide +kernel
theorem dX6_seen_76 : decode cX6_seen 76 = .ok (.aload_n 0, 1) := by decide +kernel
theorem dX6_seen_77 : decode cX6_seen 77 = .ok (.getfield 46, 3) := by decide +kernel
theorem dX6_seen_80 : decode cX6_seen 80 = .ok (.invokevirtual 133, 3) := by decide +kernel
theorem dX6_seen_83 : decode cX6_seen 83 = .ok (.aload_n 0, 1) := by decide +kernel
theorem dX6_seen_84 : decode cX6_seen 84 = .ok (.getfield 46, 3) := by decide +kernel
theorem dX6_seen_87 : decode cX6_seen 87 = .ok (.getfield 106, 3) := by decide +kernel
theorem dX6_seen_90 : decode cX6_seen 90 = .ok (.sipush 720, 3) := by decide +kernel
theorem dX6_seen_93 : decode cX6_seen 93 = .ok (.if_icmp .ge 7, 3) := by decide +kernel
theorem dX6_seen_96 : decode cX6_seen 96 = .ok (.iconst 1, 1) := by decide +kernel
theorem dX6_seen_97 : decode cX6_seen 97 = .ok (.goto 4, 3) := by decide +kernel
theorem dX6_seen_100 : decode cX6_seen 100 = .ok (.iconst 0, 1) := by decide +kernel
theorem dX6_seen_101 : decode cX6_seen 101 = .ok (.istore_n 3, 1) := by decide +kernel
theorem dX6_seen_102 : decode cX6_seen 102 = .ok (.goto (-68), 3) := by decide +kernel
theorem dX6_seen_105 : decode cX6_seen 105 = .ok (.iload_n 2, 1) := by decide +kernel
theorem dX6_seen_106 : decode cX6_seen 106 = .ok (.ireturn, 1) := by decide +kernel
theorem dX6_foresee_0 : decode cX6_foresee 0 = .ok (.aload_n 0, 1) := by decide +kernel
theorem dX6_foresee_1 : decode cX6_foresee 1 = .ok (.iconst 0, 1) := by decide +kernel
theorem dX6_foresee_2 : decode cX6_foresee 2 = .ok (.putfield 49, 3) := by decide +kernel
theorem dX6_foresee_5 : decode cX6_foresee 5 = .ok (.iload_n 1, 1) := by decide +kernel
theorem dX6_foresee_6 : decode cX6_foresee 6 = .ok (.iconst 1, 1) := by decide +kernel
theorem dX6_foresee_7 : decode cX6_foresee 7 = .ok (.sipush 720, 3) := by decide +kernel
theorem dX6_foresee_10 : decode cX6_foresee 10 = .ok (.invokestatic 56, 3) := by decide +kernel
theorem dX6_foresee_13 : decode cX6_foresee 13 = .ok (.ifCond .ne 9, 3) := by decide +kernel
theorem dX6_foresee_16 : decode cX6_foresee 16 = .ok (.aload_n 0, 1) := by decide +kernel
theorem dX6_foresee_17 : decode cX6_foresee 17 = .ok (.iconst 1, 1) := by decide +kernel
theorem dX6_foresee_18 : decode cX6_foresee 18 = .ok (.invokevirtual 63, 3) := by decide +kernel
theorem dX6_foresee_21 : decode cX6_foresee 21 = .ok (.ireturn, 1) := by decide +kernel
theorem dX6_foresee_22 : decode cX6_foresee 22 = .ok (.iload_n 2, 1) := by decide +kernel
theorem dX6_foresee_23 : decode cX6_foresee 23 = .ok (.iconst 0, 1) := by decide +kernel
theorem dX6_foresee_24 : decode cX6_foresee 24 = .ok (.iconst 2, 1) := by decide +kernel
theorem dX6_foresee_25 : decode cX6_foresee 25 = .ok (.invokestatic 56, 3) := by decide +kernel
theorem dX6_foresee_28 : decode cX6_foresee 28 = .ok (.ifCond .ne 9, 3) := by decide +kernel
theorem dX6_foresee_31 : decode cX6_foresee 31 = .ok (.aload_n 0, 1) := by decide +kernel
theorem dX6_foresee_32 : decode cX6_foresee 32 = .ok (.iconst 2, 1) := by decide +kernel
theorem dX6_foresee_33 : decode cX6_foresee 33 = .ok (.invokevirtual 63, 3) := by decide +kernel
theorem dX6_foresee_36 : decode cX6_foresee 36 = .ok (.ireturn, 1) := by decide +kernel
theorem dX6_foresee_37 : decode cX6_foresee 37 = .ok (.aload_n 0, 1) := by decide +kernel
theorem dX6_foresee_38 : decode cX6_foresee 38 = .ok (.getfield 46, 3) := by decide +kernel
theorem dX6_foresee_41 : decode cX6_foresee 41 = .ok (.aload_n 0, 1) := by decide +kernel
theorem dX6_foresee_42 : decode cX6_foresee 42 = .ok (.getfield 42, 3) := by decide +kernel
theorem dX6_foresee_45 : decode cX6_foresee 45 = .ok (.invokevirtual 129, 3) := by decide +kernel
theorem dX6_foresee_48 : decode cX6_foresee 48 = .ok (.aload_n 0, 1) := by decide +kernel
theorem dX6_foresee_49 : decode cX6_foresee 49 = .ok (.getfield 46, 3) := by decide +kernel
theorem dX6_foresee_52 : decode cX6_foresee 52 = .ok (.iload_n 1, 1) := by decide +kernel
theorem dX6_foresee_53 : decode cX6_foresee 53 = .ok (.invokevirtual 125, 3) := by decide +kernel
theorem dX6_foresee_56 : decode cX6_foresee 56 = .ok (.iload_n 2, 1) := by decide +kernel
theorem dX6_foresee_57 : decode cX6_foresee 57 = .ok (.ifCond .ne 21, 3) := by decide +kernel
theorem dX6_foresee_60 : decode cX6_foresee 60 = .ok (.aload_n 0, 1) := by decide +kernel
theorem dX6_foresee_61 : decode cX6_foresee 61 = .ok (.getfield 46, 3) := by decide +kernel
theorem dX6_foresee_64 : decode cX6_foresee 64 = .ok (.invokevirtual 119, 3) := by decide +kernel
theorem dX6_foresee_67 : decode cX6_foresee 67 = .ok (.aload_n 0, 1) := by decide +kernel
theorem dX6_foresee_68 : decode cX6_foresee 68 = .ok (.getfield 42, 3) := by decide +kernel
theorem dX6_foresee_71 : decode cX6_foresee 71 = .ok (.invokevirtual 119, 3) := by decide +kernel
theorem dX6_foresee_74 : decode cX6_foresee 74 = .ok (.isub, 1) := by decide +kernel
theorem dX6_foresee_75 : decode cX6_foresee 75 = .ok (.goto 30, 3) := by decide +kernel
theorem dX6_foresee_78 : decode cX6_foresee 78 = .ok (.iload_n 2, 1) := by decide +kernel
theorem dX6_foresee_79 : decode cX6_foresee 79 = .ok (.iconst 1, 1) := by decide +kernel
theorem dX6_foresee_80 : decode cX6_foresee 80 = .ok (.if_icmp .ne 13, 3) := by decide +kernel
theorem dX6_foresee_83 : decode cX6_foresee 83 = .ok (.aload_n 0, 1) := by decide +kernel
theorem dX6_foresee_84 : decode cX6_foresee 84 = .ok (.getfield 46, 3) := by decide +kernel
theorem dX6_foresee_87 : decode cX6_foresee 87 = .ok (.invokevirtual 116, 3) := by decide +kernel
theorem dX6_foresee_90 : decode cX6_foresee 90 = .ok (.goto 15, 3) := by decide +kernel
theorem dX6_foresee_93 : decode cX6_foresee 93 = .ok (.aload_n 0, 1) := by decide +kernel
theorem dX6_foresee_94 : decode cX6_foresee 94 = .ok (.getfield 60, 3) := by decide +kernel
theorem dX6_foresee_97 : decode cX6_foresee 97 = .ok (.aload_n 0, 1) := by decide +kernel
theorem dX6_foresee_98 : decode cX6_foresee 98 = .ok (.getfield 46, 3) := by decide +kernel
theorem dX6_foresee_101 : decode cX6_foresee 101 = .ok (.invokevirtual 113, 3) := by decide +kernel
theorem dX6_foresee_104 : decode cX6_foresee 104 = .ok (.isub, 1) := by decide +kernel
theorem dX6_foresee_105 : decode cX6_foresee 105 = .ok (.ireturn, 1) := by decide +kernel
theorem dX6_mean_0 : decode cX6_mean 0 = .ok (.aload_n 0, 1) := by decide +kernel
theorem dX6_mean_1 : decode cX6_mean 1 = .ok (.iconst 0, 1) := by decide +kernel
theorem dX6_mean_2 : decode cX6_mean 2 = .ok (.putfield 49, 3) := by decide +kernel
theorem dX6_mean_5 : decode cX6_mean 5 = .ok (.aload_n 0, 1) := by decide +kernel
theorem dX6_mean_6 : decode cX6_mean 6 = .ok (.getfield 42, 3) := by decide +kernel
theorem dX6_mean_9 : decode cX6_mean 9 = .ok (.getfield 106, 3) := by decide +kernel
theorem dX6_mean_12 : decode cX6_mean 12 = .ok (.ifCond .ne 7, 3) := by decide +kernel
theorem dX6_mean_15 : decode cX6_mean 15 = .ok (.dconst 0, 1) := by decide +kernel
theorem dX6_mean_16 : decode cX6_mean 16 = .ok (.goto 20, 3) := by decide +kernel
theorem dX6_mean_19 : decode cX6_mean 19 = .ok (.aload_n 0, 1) := by decide +kernel
theorem dX6_mean_20 : decode cX6_mean 20 = .ok (.getfield 42, 3) := by decide +kernel
theorem dX6_mean_23 : decode cX6_mean 23 = .ok (.invokevirtual 119, 3) := by decide +kernel
theorem dX6_mean_26 : decode cX6_mean 26 = .ok (.i2d, 1) := by decide +kernel
theorem dX6_mean_27 : decode cX6_mean 27 = .ok (.aload_n 0, 1) := by decide +kernel
theorem dX6_mean_28 : decode cX6_mean 28 = .ok (.getfield 42, 3) := by decide +kernel
theorem dX6_mean_31 : decode cX6_mean 31 = .ok (.getfield 106, 3) := by decide +kernel
theorem dX6_mean_34 : decode cX6_mean 34 = .ok (.i2d, 1) := by decide +kernel
theorem dX6_mean_35 : decode cX6_mean 35 = .ok (.ddiv, 1) := by decide +kernel
theorem dX6_mean_36 : decode cX6_mean 36 = .ok (.dreturn, 1) := by decide +kernel
theorem dX6_digest_0 : decode cX6_digest 0 = .ok (.aload_n 0, 1) := by decide +kernel
theorem dX6_digest_1 : decode cX6_digest 1 = .ok (.iconst 0, 1) := by decide +kernel
theorem dX6_digest_2 : decode cX6_digest 2 = .ok (.putfield 49, 3) := by decide +kernel
theorem dX6_digest_5 : decode cX6_digest 5 = .ok (.ldc2_w 135, 3) := by decide +kernel
theorem dX6_digest_8 : decode cX6_digest 8 = .ok (.lstore_n 1, 1) := by decide +kernel
theorem dX6_digest_9 : decode cX6_digest 9 = .ok (.iconst 0, 1) := by decide +kernel
theorem dX6_digest_10 : decode cX6_digest 10 = .ok (.istore_n 3, 1) := by decide +kernel
theorem dX6_digest_11 : decode cX6_digest 11 = .ok (.iload_n 3, 1) := by decide +kernel
theorem dX6_digest_12 : decode cX6_digest 12 = .ok (.bipush 9, 2) := by decide +kernel
theorem dX6_digest_14 : decode cX6_digest 14 = .ok (.if_icmp .ge 22, 3) := by decide +kernel
theorem dX6_digest_17 : decode cX6_digest 17 = .ok (.lload_n 1, 1) := by decide +kernel
theorem dX6_digest_18 : decode cX6_digest 18 = .ok (.ldc2_w 137, 3) := by decide +kernel
theorem dX6_digest_21 : decode cX6_digest 21 = .ok (.lmul, 1) := by decide +kernel
theorem dX6_digest_22 : decode cX6_digest 22 = .ok (.aload_n 0, 1) := by decide +kernel
theorem dX6_digest_23 : decode cX6_digest 23 = .ok (.iload_n 3, 1) := by decide +kernel
theorem dX6_digest_24 : decode cX6_digest 24 = .ok (.invokevirtual 122, 3) := by decide +kernel
theorem dX6_digest_27 : decode cX6_digest 27 = .ok (.i2l, 1) := by decide +kernel
theorem dX6_digest_28 : decode cX6_digest 28 = .ok (.ladd, 1) := by decide +kernel
theorem dX6_digest_29 : decode cX6_digest 29 = .ok (.lstore_n 1, 1) := by decide +kernel
theorem dX6_digest_30 : decode cX6_digest 30 = .ok (.iinc 3 1, 3) := by decide +kernel
theorem dX6_digest_33 : decode cX6_digest 33 = .ok (.goto (-22), 3) := by decide +kernel
theorem dX6_digest_36 : decode cX6_digest 36 = .ok (.iconst 0, 1) := by decide +kernel
theorem dX6_digest_37 : decode cX6_digest 37 = .ok (.istore_n 3, 1) := by decide +kernel
theorem dX6_digest_38 : decode cX6_digest 38 = .ok (.iload_n 3, 1) := by decide +kernel
theorem dX6_digest_39 : decode cX6_digest 39 = .ok (.bipush 12, 2) := by decide +kernel
theorem dX6_digest_41 : decode cX6_digest 41 = .ok (.if_icmp .ge 34, 3) := by decide +kernel
theorem dX6_digest_44 : decode cX6_digest 44 = .ok (.lload_n 1, 1) := by decide +kernel
theorem dX6_digest_45 : decode cX6_digest 45 = .ok (.ldc2_w 137, 3) := by decide +kernel
theorem dX6_digest_48 : decode cX6_digest 48 = .ok (.lmul, 1) := by decide +kernel
theorem dX6_digest_49 : decode cX6_digest 49 = .ok (.bipush 10, 2) := by decide +kernel
theorem dX6_digest_51 : decode cX6_digest 51 = .ok (.aload_n 0, 1) := by decide +kernel
theorem dX6_digest_52 : decode cX6_digest 52 = .ok (.getfield 9, 3) := by decide +kernel
theorem dX6_digest_55 : decode cX6_digest 55 = .ok (.iload_n 3, 1) := by decide +kernel
theorem dX6_digest_56 : decode cX6_digest 56 = .ok (.iaload, 1) := by decide +kernel
theorem dX6_digest_57 : decode cX6_digest 57 = .ok (.imul, 1) := by decide +kernel
theorem dX6_digest_58 : decode cX6_digest 58 = .ok (.i2l, 1) := by decide +kernel
theorem dX6_digest_59 : decode cX6_digest 59 = .ok (.ladd, 1) := by decide +kernel
theorem dX6_digest_60 : decode cX6_digest 60 = .ok (.aload_n 0, 1) := by decide +kernel
theorem dX6_digest_61 : decode cX6_digest 61 = .ok (.getfield 13, 3) := by decide +kernel
theorem dX6_digest_64 : decode cX6_digest 64 = .ok (.iload_n 3, 1) := by decide +kernel
theorem dX6_digest_65 : decode cX6_digest 65 = .ok (.iaload, 1) := by decide +kernel
theorem dX6_digest_66 : decode cX6_digest 66 = .ok (.i2l, 1) := by decide +kernel
theorem dX6_digest_67 : decode cX6_digest 67 = .ok (.ladd, 1) := by decide +kernel
theorem dX6_digest_68 : decode cX6_digest 68 = .ok (.lstore_n 1, 1) := by decide +kernel
theorem dX6_digest_69 : decode cX6_digest 69 = .ok (.iinc 3 1, 3) := by decide +kernel
theorem dX6_digest_72 : decode cX6_digest 72 = .ok (.goto (-34), 3) := by decide +kernel
theorem dX6_digest_75 : decode cX6_digest 75 = .ok (.iconst 0, 1) := by decide +kernel
theorem dX6_digest_76 : decode cX6_digest 76 = .ok (.istore_n 3, 1) := by decide +kernel
theorem dX6_digest_77 : decode cX6_digest 77 = .ok (.iload_n 3, 1) := by decide +kernel
theorem dX6_digest_78 : decode cX6_digest 78 = .ok (.aload_n 0, 1) := by decide +kernel
theorem dX6_digest_79 : decode cX6_digest 79 = .ok (.getfield 60, 3) := by decide +kernel
theorem dX6_digest_82 : decode cX6_digest 82 = .ok (.if_icmp .ge 39, 3) := by decide +kernel
theorem dX6_digest_85 : decode cX6_digest 85 = .ok (.iconst 0, 1) := by decide +kernel
theorem dX6_digest_86 : decode cX6_digest 86 = .ok (.istore 4, 2) := by decide +kernel
theorem dX6_digest_88 : decode cX6_digest 88 = .ok (.iload 4, 2) := by decide +kernel
theorem dX6_digest_90 : decode cX6_digest 90 = .ok (.iconst 5, 1) := by decide +kernel
theorem dX6_digest_91 : decode cX6_digest 91 = .ok (.if_icmp .ge 24, 3) := by decide +kernel
theorem dX6_digest_94 : decode cX6_digest 94 = .ok (.lload_n 1, 1) := by decide +kernel
theorem dX6_digest_95 : decode cX6_digest 95 = .ok (.ldc2_w 137, 3) := by decide +kernel
theorem dX6_digest_98 : decode cX6_digest 98 = .ok (.lmul, 1) := by decide +kernel
theorem dX6_digest_99 : decode cX6_digest 99 = .ok (.aload_n 0, 1) := by decide +kernel
theorem dX6_digest_100 : decode cX6_digest 100 = .ok (.iload_n 3, 1) := by decide +kernel
theorem dX6_digest_101 : decode cX6_digest 101 = .ok (.iload 4, 2) := by decide +kernel
theorem dX6_digest_103 : decode cX6_digest 103 = .ok (.invokevirtual 87, 3) := by decide +kernel
theorem dX6_digest_106 : decode cX6_digest 106 = .ok (.i2l, 1) := by decide +kernel
theorem dX6_digest_107 : decode cX6_digest 107 = .ok (.ladd, 1) := by decide +kernel
theorem dX6_digest_108 : decode cX6_digest 108 = .ok (.lstore_n 1, 1) := by decide +kernel
theorem dX6_digest_109 : decode cX6_digest 109 = .ok (.iinc 4 1, 3) := by decide +kernel
theorem dX6_digest_112 : decode cX6_digest 112 = .ok (.goto (-24), 3) := by decide +kernel
theorem dX6_digest_115 : decode cX6_digest 115 = .ok (.iinc 3 1, 3) := by decide +kernel
theorem dX6_digest_118 : decode cX6_digest 118 = .ok (.goto (-41), 3) := by decide +kernel
theorem dX6_digest_121 : decode cX6_digest 121 = .ok (.iconst 0, 1) := by decide +kernel
theorem dX6_digest_122 : decode cX6_digest 122 = .ok (.istore_n 3, 1) := by decide +kernel
theorem dX6_digest_123 : decode cX6_digest 123 = .ok (.iload_n 3, 1) := by decide +kernel
theorem dX6_digest_124 : decode cX6_digest 124 = .ok (.aload_n 0, 1) := by decide +kernel
theorem dX6_digest_125 : decode cX6_digest 125 = .ok (.getfield 53, 3) := by decide +kernel
theorem dX6_digest_128 : decode cX6_digest 128 = .ok (.if_icmp .ge 40, 3) := by decide +kernel
theorem dX6_digest_131 : decode cX6_digest 131 = .ok (.iconst 0, 1) := by decide +kernel
theorem dX6_digest_132 : decode cX6_digest 132 = .ok (.istore 4, 2) := by decide +kernel
theorem dX6_digest_134 : decode cX6_digest 134 = .ok (.iload 4, 2) := by decide +kernel
theorem dX6_digest_136 : decode cX6_digest 136 = .ok (.bipush 8, 2) := by decide +kernel
theorem dX6_digest_138 : decode cX6_digest 138 = .ok (.if_icmp .ge 24, 3) := by decide +kernel
theorem dX6_digest_141 : decode cX6_digest 141 = .ok (.lload_n 1, 1) := by decide +kernel
theorem dX6_digest_142 : decode cX6_digest 142 = .ok (.ldc2_w 137, 3) := by decide +kernel
theorem dX6_digest_145 : decode cX6_digest 145 = .ok (.lmul, 1) := by decide +kernel
theorem dX6_digest_146 : decode cX6_digest 146 = .ok (.aload_n 0, 1) := by decide +kernel
theorem dX6_digest_147 : decode cX6_digest 147 = .ok (.iload_n 3, 1) := by decide +kernel
theorem dX6_digest_148 : decode cX6_digest 148 = .ok (.iload 4, 2) := by decide +kernel
theorem dX6_digest_150 : decode cX6_digest 150 = .ok (.invokevirtual 97, 3) := by decide +kernel
theorem dX6_digest_153 : decode cX6_digest 153 = .ok (.i2l, 1) := by decide +kernel
theorem dX6_digest_154 : decode cX6_digest 154 = .ok (.ladd, 1) := by decide +kernel
theorem dX6_digest_155 : decode cX6_digest 155 = .ok (.lstore_n 1, 1) := by decide +kernel
theorem dX6_digest_156 : decode cX6_digest 156 = .ok (.iinc 4 1, 3) := by decide +kernel
theorem dX6_digest_159 : decode cX6_digest 159 = .ok (.goto (-25), 3) := by decide +kernel
theorem dX6_digest_162 : decode cX6_digest 162 = .ok (.iinc 3 1, 3) := by decide +kernel
theorem dX6_digest_165 : decode cX6_digest 165 = .ok (.goto (-42), 3) := by decide +kernel
theorem dX6_digest_168 : decode cX6_digest 168 = .ok (.lload_n 1, 1) := by decide +kernel
theorem dX6_digest_169 : decode cX6_digest 169 = .ok (.lreturn, 1) := by decide +kernel
theorem dJ9_abs_0f7a4_0 : decode cJ9_abs_0f7a4 0 = .ok (.iload_n 0, 1) := by decide +kernel
theorem dJ9_abs_0f7a4_1 : decode cJ9_abs_0f7a4 1 = .ok (.ifCond .ge 8, 3) := by decide +kernel
theorem dJ9_abs_0f7a4_4 : decode cJ9_abs_0f7a4 4 = .ok (.iload_n 0, 1) := by decide +kernel
theorem dJ9_abs_0f7a4_5 : decode cJ9_abs_0f7a4 5 = .ok (.ineg, 1) := by decide +kernel
theorem dJ9_abs_0f7a4_6 : decode cJ9_abs_0f7a4 6 = .ok (.goto 4, 3) := by decide +kernel
theorem dJ9_abs_0f7a4_9 : decode cJ9_abs_0f7a4 9 = .ok (.iload_n 0, 1) := by decide +kernel
theorem dJ9_abs_0f7a4_10 : decode cJ9_abs_0f7a4 10 = .ok (.ireturn, 1) := by decide +kernel
theorem dJ9_max_7cf53_0 : decode cJ9_max_7cf53 0 = .ok (.iload_n 0, 1) := by decide +kernel
theorem dJ9_max_7cf53_1 : decode cJ9_max_7cf53 1 = .ok (.iload_n 1, 1) := by decide +kernel
theorem dJ9_max_7cf53_2 : decode cJ9_max_7cf53 2 = .ok (.if_icmp .lt 7, 3) := by decide +kernel
theorem dJ9_max_7cf53_5 : decode cJ9_max_7cf53 5 = .ok (.iload_n 0, 1) := by decide +kernel
theorem dJ9_max_7cf53_6 : decode cJ9_max_7cf53 6 = .ok (.goto 4, 3) := by decide +kernel
theorem dJ9_max_7cf53_9 : decode cJ9_max_7cf53 9 = .ok (.iload_n 1, 1) := by decide +kernel
theorem dJ9_max_7cf53_10 : decode cJ9_max_7cf53 10 = .ok (.ireturn, 1) := by decide +kernel
theorem dJ9_min_7cf53_0 : decode cJ9_min_7cf53 0 = .ok (.iload_n 0, 1) := by decide +kernel
theorem dJ9_min_7cf53_1 : decode cJ9_min_7cf53 1 = .ok (.iload_n 1, 1) := by decide +kernel
theorem dJ9_min_7cf53_2 : decode cJ9_min_7cf53 2 = .ok (.if_icmp .gt 7, 3) := by decide +kernel
theorem dJ9_min_7cf53_5 : decode cJ9_min_7cf53 5 = .ok (.iload_n 0, 1) := by decide +kernel
theorem dJ9_min_7cf53_6 : decode cJ9_min_7cf53 6 = .ok (.goto 4, 3) := by decide +kernel
theorem dJ9_min_7cf53_9 : decode cJ9_min_7cf53 9 = .ok (.iload_n 1, 1) := by decide +kernel
theorem dJ9_min_7cf53_10 : decode cJ9_min_7cf53 10 = .ok (.ireturn, 1) := by decide +kernel
