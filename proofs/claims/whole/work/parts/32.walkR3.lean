theorem dX11_standTold_0 : decode cX11_standTold 0 = .ok (.aload_n 0, 1) := by decide +kernel
theorem dX11_standTold_1 : decode cX11_standTold 1 = .ok (.iload_n 1, 1) := by decide +kernel
theorem dX11_standTold_2 : decode cX11_standTold 2 = .ok (.invokevirtual 118, 3) := by decide +kernel
theorem dX11_standTold_5 : decode cX11_standTold 5 = .ok (.ifCond .ne 6, 3) := by decide +kernel
theorem dX11_standTold_8 : decode cX11_standTold 8 = .ok (.bipush (-3), 2) := by decide +kernel
theorem dX11_standTold_10 : decode cX11_standTold 10 = .ok (.ireturn, 1) := by decide +kernel
theorem dX11_standTold_11 : decode cX11_standTold 11 = .ok (.iload_n 2, 1) := by decide +kernel
theorem dX11_standTold_12 : decode cX11_standTold 12 = .ok (.ifCond .ne 16, 3) := by decide +kernel
theorem dX11_standTold_15 : decode cX11_standTold 15 = .ok (.aload_n 0, 1) := by decide +kernel
theorem dX11_standTold_16 : decode cX11_standTold 16 = .ok (.getfield 7, 3) := by decide +kernel
theorem dX11_standTold_19 : decode cX11_standTold 19 = .ok (.sipush 490, 3) := by decide +kernel
theorem dX11_standTold_22 : decode cX11_standTold 22 = .ok (.iload_n 1, 1) := by decide +kernel
theorem dX11_standTold_23 : decode cX11_standTold 23 = .ok (.iadd, 1) := by decide +kernel
theorem dX11_standTold_24 : decode cX11_standTold 24 = .ok (.iaload, 1) := by decide +kernel
theorem dX11_standTold_25 : decode cX11_standTold 25 = .ok (.goto 23, 3) := by decide +kernel
theorem dX11_standTold_28 : decode cX11_standTold 28 = .ok (.iload_n 2, 1) := by decide +kernel
theorem dX11_standTold_29 : decode cX11_standTold 29 = .ok (.iconst 1, 1) := by decide +kernel
theorem dX11_standTold_30 : decode cX11_standTold 30 = .ok (.if_icmp .ne 16, 3) := by decide +kernel
theorem dX11_standTold_33 : decode cX11_standTold 33 = .ok (.aload_n 0, 1) := by decide +kernel
theorem dX11_standTold_34 : decode cX11_standTold 34 = .ok (.getfield 7, 3) := by decide +kernel
theorem dX11_standTold_37 : decode cX11_standTold 37 = .ok (.sipush 496, 3) := by decide +kernel
theorem dX11_standTold_40 : decode cX11_standTold 40 = .ok (.iload_n 1, 1) := by decide +kernel
theorem dX11_standTold_41 : decode cX11_standTold 41 = .ok (.iadd, 1) := by decide +kernel
theorem dX11_standTold_42 : decode cX11_standTold 42 = .ok (.iaload, 1) := by decide +kernel
theorem dX11_standTold_43 : decode cX11_standTold 43 = .ok (.goto 5, 3) := by decide +kernel
theorem dX11_standTold_46 : decode cX11_standTold 46 = .ok (.bipush (-2), 2) := by decide +kernel
theorem dX11_standTold_48 : decode cX11_standTold 48 = .ok (.ireturn, 1) := by decide +kernel
theorem dX11_runwayTold_0 : decode cX11_runwayTold 0 = .ok (.iload_n 1, 1) := by decide +kernel
theorem dX11_runwayTold_1 : decode cX11_runwayTold 1 = .ok (.iconst 0, 1) := by decide +kernel
theorem dX11_runwayTold_2 : decode cX11_runwayTold 2 = .ok (.iconst 1, 1) := by decide +kernel
theorem dX11_runwayTold_3 : decode cX11_runwayTold 3 = .ok (.invokestatic 99, 3) := by decide +kernel
theorem dX11_runwayTold_6 : decode cX11_runwayTold 6 = .ok (.ifCond .ne 6, 3) := by decide +kernel
theorem dX11_runwayTold_9 : decode cX11_runwayTold 9 = .ok (.bipush (-3), 2) := by decide +kernel
theorem dX11_runwayTold_11 : decode cX11_runwayTold 11 = .ok (.ireturn, 1) := by decide +kernel
theorem dX11_runwayTold_12 : decode cX11_runwayTold 12 = .ok (.iload_n 2, 1) := by decide +kernel
theorem dX11_runwayTold_13 : decode cX11_runwayTold 13 = .ok (.ifCond .ne 16, 3) := by decide +kernel
theorem dX11_runwayTold_16 : decode cX11_runwayTold 16 = .ok (.aload_n 0, 1) := by decide +kernel
theorem dX11_runwayTold_17 : decode cX11_runwayTold 17 = .ok (.getfield 7, 3) := by decide +kernel
theorem dX11_runwayTold_20 : decode cX11_runwayTold 20 = .ok (.sipush 460, 3) := by decide +kernel
theorem dX11_runwayTold_23 : decode cX11_runwayTold 23 = .ok (.iload_n 1, 1) := by decide +kernel
theorem dX11_runwayTold_24 : decode cX11_runwayTold 24 = .ok (.iadd, 1) := by decide +kernel
theorem dX11_runwayTold_25 : decode cX11_runwayTold 25 = .ok (.iaload, 1) := by decide +kernel
theorem dX11_runwayTold_26 : decode cX11_runwayTold 26 = .ok (.goto 23, 3) := by decide +kernel
theorem dX11_runwayTold_29 : decode cX11_runwayTold 29 = .ok (.iload_n 2, 1) := by decide +kernel
theorem dX11_runwayTold_30 : decode cX11_runwayTold 30 = .ok (.iconst 1, 1) := by decide +kernel
theorem dX11_runwayTold_31 : decode cX11_runwayTold 31 = .ok (.if_icmp .ne 16, 3) := by decide +kernel
theorem dX11_runwayTold_34 : decode cX11_runwayTold 34 = .ok (.aload_n 0, 1) := by decide +kernel
theorem dX11_runwayTold_35 : decode cX11_runwayTold 35 = .ok (.getfield 7, 3) := by decide +kernel
theorem dX11_runwayTold_38 : decode cX11_runwayTold 38 = .ok (.sipush 462, 3) := by decide +kernel
theorem dX11_runwayTold_41 : decode cX11_runwayTold 41 = .ok (.iload_n 1, 1) := by decide +kernel
theorem dX11_runwayTold_42 : decode cX11_runwayTold 42 = .ok (.iadd, 1) := by decide +kernel
theorem dX11_runwayTold_43 : decode cX11_runwayTold 43 = .ok (.iaload, 1) := by decide +kernel
theorem dX11_runwayTold_44 : decode cX11_runwayTold 44 = .ok (.goto 5, 3) := by decide +kernel
theorem dX11_runwayTold_47 : decode cX11_runwayTold 47 = .ok (.bipush (-2), 2) := by decide +kernel
theorem dX11_runwayTold_49 : decode cX11_runwayTold 49 = .ok (.ireturn, 1) := by decide +kernel
theorem dX11_ticks__0 : decode cX11_ticks_ 0 = .ok (.iload_n 1, 1) := by decide +kernel
theorem dX11_ticks__1 : decode cX11_ticks_ 1 = .ok (.iconst 0, 1) := by decide +kernel
theorem dX11_ticks__2 : decode cX11_ticks_ 2 = .ok (.iconst 5, 1) := by decide +kernel
theorem dX11_ticks__3 : decode cX11_ticks_ 3 = .ok (.invokestatic 99, 3) := by decide +kernel
theorem dX11_ticks__6 : decode cX11_ticks_ 6 = .ok (.ifCond .eq 27, 3) := by decide +kernel
theorem dX11_ticks__9 : decode cX11_ticks_ 9 = .ok (.iload_n 2, 1) := by decide +kernel
theorem dX11_ticks__10 : decode cX11_ticks_ 10 = .ok (.iconst 0, 1) := by decide +kernel
theorem dX11_ticks__11 : decode cX11_ticks_ 11 = .ok (.bipush 7, 2) := by decide +kernel
theorem dX11_ticks__13 : decode cX11_ticks_ 13 = .ok (.invokestatic 99, 3) := by decide +kernel
theorem dX11_ticks__16 : decode cX11_ticks_ 16 = .ok (.ifCond .eq 17, 3) := by decide +kernel
theorem dX11_ticks__19 : decode cX11_ticks_ 19 = .ok (.aload_n 0, 1) := by decide +kernel
theorem dX11_ticks__20 : decode cX11_ticks_ 20 = .ok (.getfield 50, 3) := by decide +kernel
theorem dX11_ticks__23 : decode cX11_ticks_ 23 = .ok (.bipush 8, 2) := by decide +kernel
theorem dX11_ticks__25 : decode cX11_ticks_ 25 = .ok (.iload_n 1, 1) := by decide +kernel
theorem dX11_ticks__26 : decode cX11_ticks_ 26 = .ok (.imul, 1) := by decide +kernel
theorem dX11_ticks__27 : decode cX11_ticks_ 27 = .ok (.iload_n 2, 1) := by decide +kernel
theorem dX11_ticks__28 : decode cX11_ticks_ 28 = .ok (.iadd, 1) := by decide +kernel
theorem dX11_ticks__29 : decode cX11_ticks_ 29 = .ok (.iaload, 1) := by decide +kernel
theorem dX11_ticks__30 : decode cX11_ticks_ 30 = .ok (.goto 5, 3) := by decide +kernel
theorem dX11_ticks__33 : decode cX11_ticks_ 33 = .ok (.bipush (-2), 2) := by decide +kernel
theorem dX11_ticks__35 : decode cX11_ticks_ 35 = .ok (.ireturn, 1) := by decide +kernel
theorem dX11_kindTold_0 : decode cX11_kindTold 0 = .ok (.iload_n 1, 1) := by decide +kernel
theorem dX11_kindTold_1 : decode cX11_kindTold 1 = .ok (.iconst 0, 1) := by decide +kernel
theorem dX11_kindTold_2 : decode cX11_kindTold 2 = .ok (.iconst 5, 1) := by decide +kernel
theorem dX11_kindTold_3 : decode cX11_kindTold 3 = .ok (.invokestatic 99, 3) := by decide +kernel
theorem dX11_kindTold_6 : decode cX11_kindTold 6 = .ok (.ifCond .eq 12, 3) := by decide +kernel
theorem dX11_kindTold_9 : decode cX11_kindTold 9 = .ok (.iload_n 2, 1) := by decide +kernel
theorem dX11_kindTold_10 : decode cX11_kindTold 10 = .ok (.iconst 0, 1) := by decide +kernel
theorem dX11_kindTold_11 : decode cX11_kindTold 11 = .ok (.iconst 1, 1) := by decide +kernel
theorem dX11_kindTold_12 : decode cX11_kindTold 12 = .ok (.invokestatic 99, 3) := by decide +kernel
theorem dX11_kindTold_15 : decode cX11_kindTold 15 = .ok (.ifCond .ne 6, 3) := by decide +kernel
theorem dX11_kindTold_18 : decode cX11_kindTold 18 = .ok (.bipush (-2), 2) := by decide +kernel
theorem dX11_kindTold_20 : decode cX11_kindTold 20 = .ok (.ireturn, 1) := by decide +kernel
theorem dX11_kindTold_21 : decode cX11_kindTold 21 = .ok (.iload_n 2, 1) := by decide +kernel
theorem dX11_kindTold_22 : decode cX11_kindTold 22 = .ok (.ifCond .ne 12, 3) := by decide +kernel
theorem dX11_kindTold_25 : decode cX11_kindTold 25 = .ok (.aload_n 0, 1) := by decide +kernel
theorem dX11_kindTold_26 : decode cX11_kindTold 26 = .ok (.getfield 53, 3) := by decide +kernel
theorem dX11_kindTold_29 : decode cX11_kindTold 29 = .ok (.iload_n 1, 1) := by decide +kernel
theorem dX11_kindTold_30 : decode cX11_kindTold 30 = .ok (.iaload, 1) := by decide +kernel
theorem dX11_kindTold_31 : decode cX11_kindTold 31 = .ok (.goto 9, 3) := by decide +kernel
theorem dX11_kindTold_34 : decode cX11_kindTold 34 = .ok (.aload_n 0, 1) := by decide +kernel
theorem dX11_kindTold_35 : decode cX11_kindTold 35 = .ok (.getfield 56, 3) := by decide +kernel
theorem dX11_kindTold_38 : decode cX11_kindTold 38 = .ok (.iload_n 1, 1) := by decide +kernel
theorem dX11_kindTold_39 : decode cX11_kindTold 39 = .ok (.iaload, 1) := by decide +kernel
theorem dX11_kindTold_40 : decode cX11_kindTold 40 = .ok (.ireturn, 1) := by decide +kernel
theorem dX11_trucks_0 : decode cX11_trucks 0 = .ok (.iload_n 1, 1) := by decide +kernel
theorem dX11_trucks_1 : decode cX11_trucks 1 = .ok (.iconst 0, 1) := by decide +kernel
theorem dX11_trucks_2 : decode cX11_trucks 2 = .ok (.iconst 4, 1) := by decide +kernel
theorem dX11_trucks_3 : decode cX11_trucks 3 = .ok (.invokestatic 99, 3) := by decide +kernel
theorem dX11_trucks_6 : decode cX11_trucks 6 = .ok (.ifCond .ne 6, 3) := by decide +kernel
theorem dX11_trucks_9 : decode cX11_trucks 9 = .ok (.bipush (-3), 2) := by decide +kernel
theorem dX11_trucks_11 : decode cX11_trucks 11 = .ok (.ireturn, 1) := by decide +kernel
theorem dX11_trucks_12 : decode cX11_trucks 12 = .ok (.iload_n 2, 1) := by decide +kernel
theorem dX11_trucks_13 : decode cX11_trucks 13 = .ok (.ifCond .ne 16, 3) := by decide +kernel
theorem dX11_trucks_16 : decode cX11_trucks 16 = .ok (.aload_n 0, 1) := by decide +kernel
theorem dX11_trucks_17 : decode cX11_trucks 17 = .ok (.getfield 7, 3) := by decide +kernel
theorem dX11_trucks_20 : decode cX11_trucks 20 = .ok (.sipush 470, 3) := by decide +kernel
theorem dX11_trucks_23 : decode cX11_trucks 23 = .ok (.iload_n 1, 1) := by decide +kernel
theorem dX11_trucks_24 : decode cX11_trucks 24 = .ok (.iadd, 1) := by decide +kernel
theorem dX11_trucks_25 : decode cX11_trucks 25 = .ok (.iaload, 1) := by decide +kernel
theorem dX11_trucks_26 : decode cX11_trucks 26 = .ok (.goto 23, 3) := by decide +kernel
theorem dX11_trucks_29 : decode cX11_trucks 29 = .ok (.iload_n 2, 1) := by decide +kernel
theorem dX11_trucks_30 : decode cX11_trucks 30 = .ok (.iconst 1, 1) := by decide +kernel
theorem dX11_trucks_31 : decode cX11_trucks 31 = .ok (.if_icmp .ne 16, 3) := by decide +kernel
theorem dX11_trucks_34 : decode cX11_trucks 34 = .ok (.aload_n 0, 1) := by decide +kernel
theorem dX11_trucks_35 : decode cX11_trucks 35 = .ok (.getfield 7, 3) := by decide +kernel
theorem dX11_trucks_38 : decode cX11_trucks 38 = .ok (.sipush 475, 3) := by decide +kernel
theorem dX11_trucks_41 : decode cX11_trucks 41 = .ok (.iload_n 1, 1) := by decide +kernel
theorem dX11_trucks_42 : decode cX11_trucks 42 = .ok (.iadd, 1) := by decide +kernel
theorem dX11_trucks_43 : decode cX11_trucks 43 = .ok (.iaload, 1) := by decide +kernel
theorem dX11_trucks_44 : decode cX11_trucks 44 = .ok (.goto 5, 3) := by decide +kernel
theorem dX11_trucks_47 : decode cX11_trucks 47 = .ok (.bipush (-2), 2) := by decide +kernel
theorem dX11_trucks_49 : decode cX11_trucks 49 = .ok (.ireturn, 1) := by decide +kernel
theorem dX11_lays_0 : decode cX11_lays 0 = .ok (.iconst 0, 1) := by decide +kernel
theorem dX11_lays_1 : decode cX11_lays 1 = .ok (.istore_n 2, 1) := by decide +kernel
theorem dX11_lays_2 : decode cX11_lays 2 = .ok (.iload_n 2, 1) := by decide +kernel
theorem dX11_lays_3 : decode cX11_lays 3 = .ok (.sipush 510, 3) := by decide +kernel
theorem dX11_lays_6 : decode cX11_lays 6 = .ok (.if_icmp .ge 40, 3) := by decide +kernel
theorem dX11_lays_9 : decode cX11_lays 9 = .ok (.iload_n 1, 1) := by decide +kernel
theorem dX11_lays_10 : decode cX11_lays 10 = .ok (.ifCond .eq 18, 3) := by decide +kernel
theorem dX11_lays_13 : decode cX11_lays 13 = .ok (.aload_n 0, 1) := by decide +kernel
theorem dX11_lays_14 : decode cX11_lays 14 = .ok (.getfield 7, 3) := by decide +kernel
theorem dX11_lays_17 : decode cX11_lays 17 = .ok (.iload_n 2, 1) := by decide +kernel
theorem dX11_lays_18 : decode cX11_lays 18 = .ok (.aload_n 0, 1) := by decide +kernel
theorem dX11_lays_19 : decode cX11_lays 19 = .ok (.getfield 89, 3) := by decide +kernel
theorem dX11_lays_22 : decode cX11_lays 22 = .ok (.iload_n 2, 1) := by decide +kernel
theorem dX11_lays_23 : decode cX11_lays 23 = .ok (.iaload, 1) := by decide +kernel
theorem dX11_lays_24 : decode cX11_lays 24 = .ok (.iastore, 1) := by decide +kernel
theorem dX11_lays_25 : decode cX11_lays 25 = .ok (.goto 15, 3) := by decide +kernel
theorem dX11_lays_28 : decode cX11_lays 28 = .ok (.aload_n 0, 1) := by decide +kernel
theorem dX11_lays_29 : decode cX11_lays 29 = .ok (.getfield 89, 3) := by decide +kernel
theorem dX11_lays_32 : decode cX11_lays 32 = .ok (.iload_n 2, 1) := by decide +kernel
theorem dX11_lays_33 : decode cX11_lays 33 = .ok (.aload_n 0, 1) := by decide +kernel
theorem dX11_lays_34 : decode cX11_lays 34 = .ok (.getfield 7, 3) := by decide +kernel
theorem dX11_lays_37 : decode cX11_lays 37 = .ok (.iload_n 2, 1) := by decide +kernel
theorem dX11_lays_38 : decode cX11_lays 38 = .ok (.iaload, 1) := by decide +kernel
theorem dX11_lays_39 : decode cX11_lays 39 = .ok (.iastore, 1) := by decide +kernel
theorem dX11_lays_40 : decode cX11_lays 40 = .ok (.iinc 2 1, 3) := by decide +kernel
theorem dX11_lays_43 : decode cX11_lays 43 = .ok (.goto (-41), 3) := by decide +kernel
theorem dX11_lays_46 : decode cX11_lays 46 = .ok (.return_, 1) := by decide +kernel
theorem dX11_outcome_0 : decode cX11_outcome 0 = .ok (.iconst 0, 1) := by decide +kernel
theorem dX11_outcome_1 : decode cX11_outcome 1 = .ok (.istore_n 2, 1) := by decide +kernel
theorem dX11_outcome_2 : decode cX11_outcome 2 = .ok (.iload_n 1, 1) := by decide +kernel
theorem dX11_outcome_3 : decode cX11_outcome 3 = .ok (.tableswitch 87 0 3 #[29, 34, 34, 82], 29) := by decide +kernel
theorem dX11_outcome_32 : decode cX11_outcome 32 = .ok (.aload_n 0, 1) := by decide +kernel
theorem dX11_outcome_33 : decode cX11_outcome 33 = .ok (.invokevirtual 266, 3) := by decide +kernel
theorem dX11_outcome_36 : decode cX11_outcome 36 = .ok (.ireturn, 1) := by decide +kernel
theorem dX11_outcome_37 : decode cX11_outcome 37 = .ok (.iconst 0, 1) := by decide +kernel
theorem dX11_outcome_38 : decode cX11_outcome 38 = .ok (.istore_n 3, 1) := by decide +kernel
theorem dX11_outcome_39 : decode cX11_outcome 39 = .ok (.iload_n 3, 1) := by decide +kernel
theorem dX11_outcome_40 : decode cX11_outcome 40 = .ok (.aload_n 0, 1) := by decide +kernel
theorem dX11_outcome_41 : decode cX11_outcome 41 = .ok (.getfield 96, 3) := by decide +kernel
theorem dX11_outcome_44 : decode cX11_outcome 44 = .ok (.if_icmp .ge 39, 3) := by decide +kernel
theorem dX11_outcome_47 : decode cX11_outcome 47 = .ok (.iload_n 2, 1) := by decide +kernel
theorem dX11_outcome_48 : decode cX11_outcome 48 = .ok (.aload_n 0, 1) := by decide +kernel
theorem dX11_outcome_49 : decode cX11_outcome 49 = .ok (.iload_n 3, 1) := by decide +kernel
theorem dX11_outcome_50 : decode cX11_outcome 50 = .ok (.bipush 6, 2) := by decide +kernel
theorem dX11_outcome_52 : decode cX11_outcome 52 = .ok (.invokevirtual 106, 3) := by decide +kernel
theorem dX11_outcome_55 : decode cX11_outcome 55 = .ok (.iload_n 1, 1) := by decide +kernel
theorem dX11_outcome_56 : decode cX11_outcome 56 = .ok (.iconst 1, 1) := by decide +kernel
theorem dX11_outcome_57 : decode cX11_outcome 57 = .ok (.if_icmp .ne 8, 3) := by decide +kernel
theorem dX11_outcome_60 : decode cX11_outcome 60 = .ok (.bipush 7, 2) := by decide +kernel
theorem dX11_outcome_62 : decode cX11_outcome 62 = .ok (.goto 5, 3) := by decide +kernel
theorem dX11_outcome_65 : decode cX11_outcome 65 = .ok (.bipush 8, 2) := by decide +kernel
theorem dX11_outcome_67 : decode cX11_outcome 67 = .ok (.if_icmp .ne 7, 3) := by decide +kernel
theorem dX11_outcome_70 : decode cX11_outcome 70 = .ok (.iconst 1, 1) := by decide +kernel
theorem dX11_outcome_71 : decode cX11_outcome 71 = .ok (.goto 4, 3) := by decide +kernel
theorem dX11_outcome_74 : decode cX11_outcome 74 = .ok (.iconst 0, 1) := by decide +kernel
theorem dX11_outcome_75 : decode cX11_outcome 75 = .ok (.iadd, 1) := by decide +kernel
theorem dX11_outcome_76 : decode cX11_outcome 76 = .ok (.istore_n 2, 1) := by decide +kernel
theorem dX11_outcome_77 : decode cX11_outcome 77 = .ok (.iinc 3 1, 3) := by decide +kernel
theorem dX11_outcome_80 : decode cX11_outcome 80 = .ok (.goto (-41), 3) := by decide +kernel
theorem dX11_outcome_83 : decode cX11_outcome 83 = .ok (.iload_n 2, 1) := by decide +kernel
theorem dX11_outcome_84 : decode cX11_outcome 84 = .ok (.ireturn, 1) := by decide +kernel
theorem dX11_outcome_85 : decode cX11_outcome 85 = .ok (.aload_n 0, 1) := by decide +kernel
theorem dX11_outcome_86 : decode cX11_outcome 86 = .ok (.invokevirtual 269, 3) := by decide +kernel
theorem dX11_outcome_89 : decode cX11_outcome 89 = .ok (.ireturn, 1) := by decide +kernel
theorem dX11_outcome_90 : decode cX11_outcome 90 = .ok (.aload_n 0, 1) := by decide +kernel
theorem dX11_outcome_91 : decode cX11_outcome 91 = .ok (.getfield 7, 3) := by decide +kernel
theorem dX11_outcome_94 : decode cX11_outcome 94 = .ok (.sipush 483, 3) := by decide +kernel
theorem dX11_outcome_97 : decode cX11_outcome 97 = .ok (.iaload, 1) := by decide +kernel
theorem dX11_outcome_98 : decode cX11_outcome 98 = .ok (.ireturn, 1) := by decide +kernel
theorem dX11_beside_0 : decode cX11_beside 0 = .ok (.iload_n 1, 1) := by decide +kernel
theorem dX11_beside_1 : decode cX11_beside 1 = .ok (.iconst 1, 1) := by decide +kernel
theorem dX11_beside_2 : decode cX11_beside 2 = .ok (.sipush 200, 3) := by decide +kernel
theorem dX11_beside_5 : decode cX11_beside 5 = .ok (.invokestatic 99, 3) := by decide +kernel
theorem dX11_beside_8 : decode cX11_beside 8 = .ok (.ifCond .eq 12, 3) := by decide +kernel
theorem dX11_beside_11 : decode cX11_beside 11 = .ok (.iload_n 2, 1) := by decide +kernel
theorem dX11_beside_12 : decode cX11_beside 12 = .ok (.iconst 0, 1) := by decide +kernel
theorem dX11_beside_13 : decode cX11_beside 13 = .ok (.iconst 4, 1) := by decide +kernel
theorem dX11_beside_14 : decode cX11_beside 14 = .ok (.invokestatic 99, 3) := by decide +kernel
theorem dX11_beside_17 : decode cX11_beside 17 = .ok (.ifCond .ne 6, 3) := by decide +kernel
theorem dX11_beside_20 : decode cX11_beside 20 = .ok (.bipush (-2), 2) := by decide +kernel
theorem dX11_beside_22 : decode cX11_beside 22 = .ok (.ireturn, 1) := by decide +kernel
theorem dX11_beside_23 : decode cX11_beside 23 = .ok (.aload_n 0, 1) := by decide +kernel
theorem dX11_beside_24 : decode cX11_beside 24 = .ok (.getfield 7, 3) := by decide +kernel
theorem dX11_beside_27 : decode cX11_beside 27 = .ok (.sipush 480, 3) := by decide +kernel
theorem dX11_beside_30 : decode cX11_beside 30 = .ok (.iaload, 1) := by decide +kernel
theorem dX11_beside_31 : decode cX11_beside 31 = .ok (.iload_n 1, 1) := by decide +kernel
theorem dX11_beside_32 : decode cX11_beside 32 = .ok (.iadd, 1) := by decide +kernel
theorem dX11_beside_33 : decode cX11_beside 33 = .ok (.sipush 9999, 3) := by decide +kernel
theorem dX11_beside_36 : decode cX11_beside 36 = .ok (.if_icmp .le 6, 3) := by decide +kernel
theorem dX11_beside_39 : decode cX11_beside 39 = .ok (.bipush (-4), 2) := by decide +kernel
theorem dX11_beside_41 : decode cX11_beside 41 = .ok (.ireturn, 1) := by decide +kernel
theorem dX11_beside_42 : decode cX11_beside 42 = .ok (.aload_n 0, 1) := by decide +kernel
theorem dX11_beside_43 : decode cX11_beside 43 = .ok (.iconst 0, 1) := by decide +kernel
theorem dX11_beside_44 : decode cX11_beside 44 = .ok (.invokevirtual 272, 3) := by decide +kernel
theorem dX11_beside_47 : decode cX11_beside 47 = .ok (.iconst 0, 1) := by decide +kernel
theorem dX11_beside_48 : decode cX11_beside 48 = .ok (.istore_n 3, 1) := by decide +kernel
theorem dX11_beside_49 : decode cX11_beside 49 = .ok (.iload_n 3, 1) := by decide +kernel
theorem dX11_beside_50 : decode cX11_beside 50 = .ok (.iload_n 1, 1) := by decide +kernel
theorem dX11_beside_51 : decode cX11_beside 51 = .ok (.if_icmp .ge 13, 3) := by decide +kernel
theorem dX11_beside_54 : decode cX11_beside 54 = .ok (.aload_n 0, 1) := by decide +kernel
theorem dX11_beside_55 : decode cX11_beside 55 = .ok (.invokevirtual 260, 3) := by decide +kernel
theorem dX11_beside_58 : decode cX11_beside 58 = .ok (.iinc 3 1, 3) := by decide +kernel
theorem dX11_beside_61 : decode cX11_beside 61 = .ok (.goto (-12), 3) := by decide +kernel
theorem dX11_beside_64 : decode cX11_beside 64 = .ok (.aload_n 0, 1) := by decide +kernel
theorem dX11_beside_65 : decode cX11_beside 65 = .ok (.iload_n 2, 1) := by decide +kernel
theorem dX11_beside_66 : decode cX11_beside 66 = .ok (.invokevirtual 276, 3) := by decide +kernel
theorem dX11_beside_69 : decode cX11_beside 69 = .ok (.istore_n 3, 1) := by decide +kernel
theorem dX11_beside_70 : decode cX11_beside 70 = .ok (.aload_n 0, 1) := by decide +kernel
theorem dX11_beside_71 : decode cX11_beside 71 = .ok (.iconst 1, 1) := by decide +kernel
theorem dX11_beside_72 : decode cX11_beside 72 = .ok (.invokevirtual 272, 3) := by decide +kernel
theorem dX11_beside_75 : decode cX11_beside 75 = .ok (.iload_n 3, 1) := by decide +kernel
theorem dX11_beside_76 : decode cX11_beside 76 = .ok (.ireturn, 1) := by decide +kernel
theorem dX11_maySit_0 : decode cX11_maySit 0 = .ok (.iload_n 2, 1) := by decide +kernel
theorem dX11_maySit_1 : decode cX11_maySit 1 = .ok (.iconst (-1), 1) := by decide +kernel
theorem dX11_maySit_2 : decode cX11_maySit 2 = .ok (.if_icmp .eq 27, 3) := by decide +kernel
theorem dX11_maySit_5 : decode cX11_maySit 5 = .ok (.aload_n 0, 1) := by decide +kernel
theorem dX11_maySit_6 : decode cX11_maySit 6 = .ok (.getfield 7, 3) := by decide +kernel
theorem dX11_maySit_9 : decode cX11_maySit 9 = .ok (.sipush 490, 3) := by decide +kernel
theorem dX11_maySit_12 : decode cX11_maySit 12 = .ok (.iload_n 2, 1) := by decide +kernel
theorem dX11_maySit_13 : decode cX11_maySit 13 = .ok (.iadd, 1) := by decide +kernel
theorem dX11_maySit_14 : decode cX11_maySit 14 = .ok (.iaload, 1) := by decide +kernel
theorem dX11_maySit_15 : decode cX11_maySit 15 = .ok (.aload_n 0, 1) := by decide +kernel
theorem dX11_maySit_16 : decode cX11_maySit 16 = .ok (.getfield 53, 3) := by decide +kernel
theorem dX11_maySit_19 : decode cX11_maySit 19 = .ok (.aload_n 0, 1) := by decide +kernel
theorem dX11_maySit_20 : decode cX11_maySit 20 = .ok (.iload_n 1, 1) := by decide +kernel
theorem dX11_maySit_21 : decode cX11_maySit 21 = .ok (.iconst 0, 1) := by decide +kernel
theorem dX11_maySit_22 : decode cX11_maySit 22 = .ok (.invokevirtual 106, 3) := by decide +kernel
theorem dX11_maySit_25 : decode cX11_maySit 25 = .ok (.iaload, 1) := by decide +kernel
theorem dX11_maySit_26 : decode cX11_maySit 26 = .ok (.if_icmp .lt 7, 3) := by decide +kernel
theorem dX11_maySit_29 : decode cX11_maySit 29 = .ok (.iconst 1, 1) := by decide +kernel
theorem dX11_maySit_30 : decode cX11_maySit 30 = .ok (.goto 4, 3) := by decide +kernel
theorem dX11_maySit_33 : decode cX11_maySit 33 = .ok (.iconst 0, 1) := by decide +kernel
theorem dX11_maySit_34 : decode cX11_maySit 34 = .ok (.ireturn, 1) := by decide +kernel
theorem dX11_plan_0 : decode cX11_plan 0 = .ok (.iload_n 1, 1) := by decide +kernel
theorem dX11_plan_1 : decode cX11_plan 1 = .ok (.ifCond .le 13, 3) := by decide +kernel
theorem dX11_plan_4 : decode cX11_plan 4 = .ok (.iload_n 1, 1) := by decide +kernel
theorem dX11_plan_5 : decode cX11_plan 5 = .ok (.iconst 1, 1) := by decide +kernel
theorem dX11_plan_6 : decode cX11_plan 6 = .ok (.aload_n 0, 1) := by decide +kernel
theorem dX11_plan_7 : decode cX11_plan 7 = .ok (.getfield 96, 3) := by decide +kernel
theorem dX11_plan_10 : decode cX11_plan 10 = .ok (.ishl, 1) := by decide +kernel
theorem dX11_plan_11 : decode cX11_plan 11 = .ok (.if_icmp .lt 5, 3) := by decide +kernel
theorem dX11_plan_14 : decode cX11_plan 14 = .ok (.iconst (-1), 1) := by decide +kernel
theorem dX11_plan_15 : decode cX11_plan 15 = .ok (.ireturn, 1) := by decide +kernel
theorem dX11_plan_16 : decode cX11_plan 16 = .ok (.iconst (-1), 1) := by decide +kernel
theorem dX11_plan_17 : decode cX11_plan 17 = .ok (.istore_n 3, 1) := by decide +kernel
theorem dX11_plan_18 : decode cX11_plan 18 = .ok (.iconst (-1), 1) := by decide +kernel
theorem dX11_plan_19 : decode cX11_plan 19 = .ok (.istore 4, 2) := by decide +kernel
theorem dX11_plan_21 : decode cX11_plan 21 = .ok (.iconst 0, 1) := by decide +kernel
theorem dX11_plan_22 : decode cX11_plan 22 = .ok (.istore 5, 2) := by decide +kernel
theorem dX11_plan_24 : decode cX11_plan 24 = .ok (.iconst 1, 1) := by decide +kernel
theorem dX11_plan_25 : decode cX11_plan 25 = .ok (.istore 6, 2) := by decide +kernel
theorem dX11_plan_27 : decode cX11_plan 27 = .ok (.iconst 0, 1) := by decide +kernel
theorem dX11_plan_28 : decode cX11_plan 28 = .ok (.istore 7, 2) := by decide +kernel
theorem dX11_plan_30 : decode cX11_plan 30 = .ok (.iload 7, 2) := by decide +kernel
theorem dX11_plan_32 : decode cX11_plan 32 = .ok (.aload_n 0, 1) := by decide +kernel
theorem dX11_plan_33 : decode cX11_plan 33 = .ok (.getfield 96, 3) := by decide +kernel
theorem dX11_plan_36 : decode cX11_plan 36 = .ok (.if_icmp .ge 70, 3) := by decide +kernel
theorem dX11_plan_39 : decode cX11_plan 39 = .ok (.iload_n 1, 1) := by decide +kernel
theorem dX11_plan_40 : decode cX11_plan 40 = .ok (.iload 7, 2) := by decide +kernel
theorem dX11_plan_42 : decode cX11_plan 42 = .ok (.ishr, 1) := by decide +kernel
theorem dX11_plan_43 : decode cX11_plan 43 = .ok (.iconst 1, 1) := by decide +kernel
theorem dX11_plan_44 : decode cX11_plan 44 = .ok (.iand, 1) := by decide +kernel
theorem dX11_plan_45 : decode cX11_plan 45 = .ok (.iconst 1, 1) := by decide +kernel
theorem dX11_plan_46 : decode cX11_plan 46 = .ok (.if_icmp .ne 54, 3) := by decide +kernel
theorem dX11_plan_49 : decode cX11_plan 49 = .ok (.iload 5, 2) := by decide +kernel
theorem dX11_plan_51 : decode cX11_plan 51 = .ok (.iconst 1, 1) := by decide +kernel
theorem dX11_plan_52 : decode cX11_plan 52 = .ok (.if_icmp .ne 8, 3) := by decide +kernel
theorem dX11_plan_55 : decode cX11_plan 55 = .ok (.iload 7, 2) := by decide +kernel
theorem dX11_plan_57 : decode cX11_plan 57 = .ok (.goto 5, 3) := by decide +kernel
theorem dX11_plan_60 : decode cX11_plan 60 = .ok (.iload 4, 2) := by decide +kernel
theorem dX11_plan_62 : decode cX11_plan 62 = .ok (.istore 4, 2) := by decide +kernel
theorem dX11_plan_64 : decode cX11_plan 64 = .ok (.iload 5, 2) := by decide +kernel
theorem dX11_plan_66 : decode cX11_plan 66 = .ok (.ifCond .ne 8, 3) := by decide +kernel
theorem dX11_plan_69 : decode cX11_plan 69 = .ok (.iload 7, 2) := by decide +kernel
theorem dX11_plan_71 : decode cX11_plan 71 = .ok (.goto 4, 3) := by decide +kernel
theorem dX11_plan_74 : decode cX11_plan 74 = .ok (.iload_n 3, 1) := by decide +kernel
theorem dX11_plan_75 : decode cX11_plan 75 = .ok (.istore_n 3, 1) := by decide +kernel
theorem dX11_plan_76 : decode cX11_plan 76 = .ok (.iinc 5 1, 3) := by decide +kernel
theorem dX11_plan_79 : decode cX11_plan 79 = .ok (.iload 6, 2) := by decide +kernel
theorem dX11_plan_81 : decode cX11_plan 81 = .ok (.ifCond .eq 16, 3) := by decide +kernel
theorem dX11_plan_84 : decode cX11_plan 84 = .ok (.aload_n 0, 1) := by decide +kernel
theorem dX11_plan_85 : decode cX11_plan 85 = .ok (.iload 7, 2) := by decide +kernel
theorem dX11_plan_87 : decode cX11_plan 87 = .ok (.invokevirtual 121, 3) := by decide +kernel
theorem dX11_plan_90 : decode cX11_plan 90 = .ok (.ifCond .eq 7, 3) := by decide +kernel
theorem dX11_plan_93 : decode cX11_plan 93 = .ok (.iconst 1, 1) := by decide +kernel
theorem dX11_plan_94 : decode cX11_plan 94 = .ok (.goto 4, 3) := by decide +kernel
theorem dX11_plan_97 : decode cX11_plan 97 = .ok (.iconst 0, 1) := by decide +kernel
theorem dX11_plan_98 : decode cX11_plan 98 = .ok (.istore 6, 2) := by decide +kernel
theorem dX11_plan_100 : decode cX11_plan 100 = .ok (.iinc 7 1, 3) := by decide +kernel
theorem dX11_plan_103 : decode cX11_plan 103 = .ok (.goto (-73), 3) := by decide +kernel
theorem dX11_plan_106 : decode cX11_plan 106 = .ok (.iload 5, 2) := by decide +kernel
theorem dX11_plan_108 : decode cX11_plan 108 = .ok (.iconst 2, 1) := by decide +kernel
theorem dX11_plan_109 : decode cX11_plan 109 = .ok (.if_icmp .gt 13, 3) := by decide +kernel
theorem dX11_plan_112 : decode cX11_plan 112 = .ok (.iload_n 2, 1) := by decide +kernel
theorem dX11_plan_113 : decode cX11_plan 113 = .ok (.iconst 1, 1) := by decide +kernel
theorem dX11_plan_114 : decode cX11_plan 114 = .ok (.bipush 40, 2) := by decide +kernel
theorem dX11_plan_116 : decode cX11_plan 116 = .ok (.invokestatic 99, 3) := by decide +kernel
theorem dX11_plan_119 : decode cX11_plan 119 = .ok (.ifCond .ne 6, 3) := by decide +kernel
theorem dX11_plan_122 : decode cX11_plan 122 = .ok (.bipush (-2), 2) := by decide +kernel
theorem dX11_plan_124 : decode cX11_plan 124 = .ok (.ireturn, 1) := by decide +kernel
theorem dX11_plan_125 : decode cX11_plan 125 = .ok (.iload 6, 2) := by decide +kernel
theorem dX11_plan_127 : decode cX11_plan 127 = .ok (.ifCond .ne 6, 3) := by decide +kernel
theorem dX11_plan_130 : decode cX11_plan 130 = .ok (.bipush (-3), 2) := by decide +kernel
theorem dX11_plan_132 : decode cX11_plan 132 = .ok (.ireturn, 1) := by decide +kernel
theorem dX11_plan_133 : decode cX11_plan 133 = .ok (.aload_n 0, 1) := by decide +kernel
theorem dX11_plan_134 : decode cX11_plan 134 = .ok (.getfield 7, 3) := by decide +kernel
theorem dX11_plan_137 : decode cX11_plan 137 = .ok (.sipush 480, 3) := by decide +kernel
theorem dX11_plan_140 : decode cX11_plan 140 = .ok (.iaload, 1) := by decide +kernel
theorem dX11_plan_141 : decode cX11_plan 141 = .ok (.iload_n 2, 1) := by decide +kernel
theorem dX11_plan_142 : decode cX11_plan 142 = .ok (.iadd, 1) := by decide +kernel
theorem dX11_plan_143 : decode cX11_plan 143 = .ok (.sipush 9999, 3) := by decide +kernel
theorem dX11_plan_146 : decode cX11_plan 146 = .ok (.if_icmp .le 6, 3) := by decide +kernel
theorem dX11_plan_149 : decode cX11_plan 149 = .ok (.bipush (-4), 2) := by decide +kernel
theorem dX11_plan_151 : decode cX11_plan 151 = .ok (.ireturn, 1) := by decide +kernel
theorem dX11_plan_152 : decode cX11_plan 152 = .ok (.aload_n 0, 1) := by decide +kernel
theorem dX11_plan_153 : decode cX11_plan 153 = .ok (.iconst 0, 1) := by decide +kernel
theorem dX11_plan_154 : decode cX11_plan 154 = .ok (.invokevirtual 272, 3) := by decide +kernel
theorem dX11_plan_157 : decode cX11_plan 157 = .ok (.iconst (-1), 1) := by decide +kernel
theorem dX11_plan_158 : decode cX11_plan 158 = .ok (.istore 7, 2) := by decide +kernel
theorem dX11_plan_160 : decode cX11_plan 160 = .ok (.iconst (-1), 1) := by decide +kernel
theorem dX11_plan_161 : decode cX11_plan 161 = .ok (.istore 8, 2) := by decide +kernel
theorem dX11_plan_163 : decode cX11_plan 163 = .ok (.iconst (-1), 1) := by decide +kernel
theorem dX11_plan_164 : decode cX11_plan 164 = .ok (.istore 9, 2) := by decide +kernel
theorem dX11_plan_166 : decode cX11_plan 166 = .ok (.iconst (-1), 1) := by decide +kernel
theorem dX11_plan_167 : decode cX11_plan 167 = .ok (.istore 10, 2) := by decide +kernel
theorem dX11_plan_169 : decode cX11_plan 169 = .ok (.iload 10, 2) := by decide +kernel
theorem dX11_plan_171 : decode cX11_plan 171 = .ok (.aload_n 0, 1) := by decide +kernel
theorem dX11_plan_172 : decode cX11_plan 172 = .ok (.getfield 103, 3) := by decide +kernel
theorem dX11_plan_175 : decode cX11_plan 175 = .ok (.if_icmp .ge 152, 3) := by decide +kernel
theorem dX11_plan_178 : decode cX11_plan 178 = .ok (.iconst (-1), 1) := by decide +kernel
theorem dX11_plan_179 : decode cX11_plan 179 = .ok (.istore 11, 2) := by decide +kernel
theorem dX11_plan_181 : decode cX11_plan 181 = .ok (.iload 11, 2) := by decide +kernel
theorem dX11_plan_183 : decode cX11_plan 183 = .ok (.iload 4, 2) := by decide +kernel
theorem dX11_plan_185 : decode cX11_plan 185 = .ok (.iconst (-1), 1) := by decide +kernel
theorem dX11_plan_186 : decode cX11_plan 186 = .ok (.if_icmp .ne 7, 3) := by decide +kernel
theorem dX11_plan_189 : decode cX11_plan 189 = .ok (.iconst 0, 1) := by decide +kernel
theorem dX11_plan_190 : decode cX11_plan 190 = .ok (.goto 7, 3) := by decide +kernel
theorem dX11_plan_193 : decode cX11_plan 193 = .ok (.aload_n 0, 1) := by decide +kernel
theorem dX11_plan_194 : decode cX11_plan 194 = .ok (.getfield 103, 3) := by decide +kernel
theorem dX11_plan_197 : decode cX11_plan 197 = .ok (.if_icmp .ge 124, 3) := by decide +kernel
theorem dX11_plan_200 : decode cX11_plan 200 = .ok (.aload_n 0, 1) := by decide +kernel
theorem dX11_plan_201 : decode cX11_plan 201 = .ok (.iload_n 3, 1) := by decide +kernel
theorem dX11_plan_202 : decode cX11_plan 202 = .ok (.iload 10, 2) := by decide +kernel
theorem dX11_plan_204 : decode cX11_plan 204 = .ok (.invokevirtual 279, 3) := by decide +kernel
theorem dX11_plan_207 : decode cX11_plan 207 = .ok (.ifCond .eq 108, 3) := by decide +kernel
theorem dX11_plan_210 : decode cX11_plan 210 = .ok (.iload 4, 2) := by decide +kernel
theorem dX11_plan_212 : decode cX11_plan 212 = .ok (.iconst (-1), 1) := by decide +kernel
theorem dX11_plan_213 : decode cX11_plan 213 = .ok (.if_icmp .eq 14, 3) := by decide +kernel
theorem dX11_plan_216 : decode cX11_plan 216 = .ok (.aload_n 0, 1) := by decide +kernel
theorem dX11_plan_217 : decode cX11_plan 217 = .ok (.iload 4, 2) := by decide +kernel
theorem dX11_plan_219 : decode cX11_plan 219 = .ok (.iload 11, 2) := by decide +kernel
theorem dX11_plan_221 : decode cX11_plan 221 = .ok (.invokevirtual 279, 3) := by decide +kernel
theorem dX11_plan_224 : decode cX11_plan 224 = .ok (.ifCond .eq 91, 3) := by decide +kernel
theorem dX11_plan_227 : decode cX11_plan 227 = .ok (.aload_n 0, 1) := by decide +kernel
theorem dX11_plan_228 : decode cX11_plan 228 = .ok (.getfield 7, 3) := by decide +kernel
theorem dX11_plan_231 : decode cX11_plan 231 = .ok (.bipush 30, 2) := by decide +kernel
theorem dX11_plan_233 : decode cX11_plan 233 = .ok (.iload_n 3, 1) := by decide +kernel
theorem dX11_plan_234 : decode cX11_plan 234 = .ok (.imul, 1) := by decide +kernel
theorem dX11_plan_235 : decode cX11_plan 235 = .ok (.iconst 4, 1) := by decide +kernel
theorem dX11_plan_236 : decode cX11_plan 236 = .ok (.iadd, 1) := by decide +kernel
theorem dX11_plan_237 : decode cX11_plan 237 = .ok (.iload 10, 2) := by decide +kernel
theorem dX11_plan_239 : decode cX11_plan 239 = .ok (.iastore, 1) := by decide +kernel
theorem dX11_plan_240 : decode cX11_plan 240 = .ok (.iload 4, 2) := by decide +kernel
theorem dX11_plan_242 : decode cX11_plan 242 = .ok (.iconst (-1), 1) := by decide +kernel
theorem dX11_plan_243 : decode cX11_plan 243 = .ok (.if_icmp .eq 17, 3) := by decide +kernel
theorem dX11_plan_246 : decode cX11_plan 246 = .ok (.aload_n 0, 1) := by decide +kernel
theorem dX11_plan_247 : decode cX11_plan 247 = .ok (.getfield 7, 3) := by decide +kernel
theorem dX11_plan_250 : decode cX11_plan 250 = .ok (.bipush 30, 2) := by decide +kernel
theorem dX11_plan_252 : decode cX11_plan 252 = .ok (.iload 4, 2) := by decide +kernel
theorem dX11_plan_254 : decode cX11_plan 254 = .ok (.imul, 1) := by decide +kernel
theorem dX11_plan_255 : decode cX11_plan 255 = .ok (.iconst 4, 1) := by decide +kernel
theorem dX11_plan_256 : decode cX11_plan 256 = .ok (.iadd, 1) := by decide +kernel
theorem dX11_plan_257 : decode cX11_plan 257 = .ok (.iload 11, 2) := by decide +kernel
theorem dX11_plan_259 : decode cX11_plan 259 = .ok (.iastore, 1) := by decide +kernel
theorem dX11_plan_260 : decode cX11_plan 260 = .ok (.iconst 0, 1) := by decide +kernel
theorem dX11_plan_261 : decode cX11_plan 261 = .ok (.istore 12, 2) := by decide +kernel
theorem dX11_plan_263 : decode cX11_plan 263 = .ok (.iload 12, 2) := by decide +kernel
theorem dX11_plan_265 : decode cX11_plan 265 = .ok (.iload_n 2, 1) := by decide +kernel
theorem dX11_plan_266 : decode cX11_plan 266 = .ok (.if_icmp .ge 13, 3) := by decide +kernel
theorem dX11_plan_269 : decode cX11_plan 269 = .ok (.aload_n 0, 1) := by decide +kernel
theorem dX11_plan_270 : decode cX11_plan 270 = .ok (.invokevirtual 260, 3) := by decide +kernel
theorem dX11_plan_273 : decode cX11_plan 273 = .ok (.iinc 12 1, 3) := by decide +kernel
theorem dX11_plan_276 : decode cX11_plan 276 = .ok (.goto (-13), 3) := by decide +kernel
theorem dX11_plan_279 : decode cX11_plan 279 = .ok (.aload_n 0, 1) := by decide +kernel
theorem dX11_plan_280 : decode cX11_plan 280 = .ok (.invokevirtual 266, 3) := by decide +kernel
theorem dX11_plan_283 : decode cX11_plan 283 = .ok (.istore 12, 2) := by decide +kernel
theorem dX11_plan_285 : decode cX11_plan 285 = .ok (.aload_n 0, 1) := by decide +kernel
theorem dX11_plan_286 : decode cX11_plan 286 = .ok (.iconst 1, 1) := by decide +kernel
theorem dX11_plan_287 : decode cX11_plan 287 = .ok (.invokevirtual 272, 3) := by decide +kernel
theorem dX11_plan_290 : decode cX11_plan 290 = .ok (.iload 7, 2) := by decide +kernel
theorem dX11_plan_292 : decode cX11_plan 292 = .ok (.iconst (-1), 1) := by decide +kernel
theorem dX11_plan_293 : decode cX11_plan 293 = .ok (.if_icmp .eq 10, 3) := by decide +kernel
theorem dX11_plan_296 : decode cX11_plan 296 = .ok (.iload 12, 2) := by decide +kernel
theorem dX11_plan_298 : decode cX11_plan 298 = .ok (.iload 7, 2) := by decide +kernel
theorem dX11_plan_300 : decode cX11_plan 300 = .ok (.if_icmp .ge 15, 3) := by decide +kernel
theorem dX11_plan_303 : decode cX11_plan 303 = .ok (.iload 12, 2) := by decide +kernel
theorem dX11_plan_305 : decode cX11_plan 305 = .ok (.istore 7, 2) := by decide +kernel
theorem dX11_plan_307 : decode cX11_plan 307 = .ok (.iload 10, 2) := by decide +kernel
theorem dX11_plan_309 : decode cX11_plan 309 = .ok (.istore 8, 2) := by decide +kernel
theorem dX11_plan_311 : decode cX11_plan 311 = .ok (.iload 11, 2) := by decide +kernel
theorem dX11_plan_313 : decode cX11_plan 313 = .ok (.istore 9, 2) := by decide +kernel
theorem dX11_plan_315 : decode cX11_plan 315 = .ok (.iinc 11 1, 3) := by decide +kernel
theorem dX11_plan_318 : decode cX11_plan 318 = .ok (.goto (-137), 3) := by decide +kernel
theorem dX11_plan_321 : decode cX11_plan 321 = .ok (.iinc 10 1, 3) := by decide +kernel
theorem dX11_plan_324 : decode cX11_plan 324 = .ok (.goto (-155), 3) := by decide +kernel
theorem dX11_plan_327 : decode cX11_plan 327 = .ok (.aload_n 0, 1) := by decide +kernel
theorem dX11_plan_328 : decode cX11_plan 328 = .ok (.iload_n 1, 1) := by decide +kernel
theorem dX11_plan_329 : decode cX11_plan 329 = .ok (.putfield 282, 3) := by decide +kernel
theorem dX11_plan_332 : decode cX11_plan 332 = .ok (.aload_n 0, 1) := by decide +kernel
theorem dX11_plan_333 : decode cX11_plan 333 = .ok (.getfield 22, 3) := by decide +kernel
theorem dX11_plan_336 : decode cX11_plan 336 = .ok (.iload_n 3, 1) := by decide +kernel
theorem dX11_plan_337 : decode cX11_plan 337 = .ok (.iload 8, 2) := by decide +kernel
theorem dX11_plan_339 : decode cX11_plan 339 = .ok (.iastore, 1) := by decide +kernel
theorem dX11_plan_340 : decode cX11_plan 340 = .ok (.iload 4, 2) := by decide +kernel
theorem dX11_plan_342 : decode cX11_plan 342 = .ok (.iconst (-1), 1) := by decide +kernel
theorem dX11_plan_343 : decode cX11_plan 343 = .ok (.if_icmp .eq 12, 3) := by decide +kernel
theorem dX11_plan_346 : decode cX11_plan 346 = .ok (.aload_n 0, 1) := by decide +kernel
theorem dX11_plan_347 : decode cX11_plan 347 = .ok (.getfield 22, 3) := by decide +kernel
theorem dX11_plan_350 : decode cX11_plan 350 = .ok (.iload 4, 2) := by decide +kernel
theorem dX11_plan_352 : decode cX11_plan 352 = .ok (.iload 9, 2) := by decide +kernel
theorem dX11_plan_354 : decode cX11_plan 354 = .ok (.iastore, 1) := by decide +kernel
theorem dX11_plan_355 : decode cX11_plan 355 = .ok (.iload 7, 2) := by decide +kernel
theorem dX11_plan_357 : decode cX11_plan 357 = .ok (.ireturn, 1) := by decide +kernel
theorem dX11_planned_0 : decode cX11_planned 0 = .ok (.iload_n 1, 1) := by decide +kernel
theorem dX11_planned_1 : decode cX11_planned 1 = .ok (.iconst 0, 1) := by decide +kernel
theorem dX11_planned_2 : decode cX11_planned 2 = .ok (.bipush 11, 2) := by decide +kernel
theorem dX11_planned_4 : decode cX11_planned 4 = .ok (.invokestatic 99, 3) := by decide +kernel
theorem dX11_planned_7 : decode cX11_planned 7 = .ok (.ifCond .eq 24, 3) := by decide +kernel
theorem dX11_planned_10 : decode cX11_planned 10 = .ok (.aload_n 0, 1) := by decide +kernel
theorem dX11_planned_11 : decode cX11_planned 11 = .ok (.getfield 282, 3) := by decide +kernel
theorem dX11_planned_14 : decode cX11_planned 14 = .ok (.iload_n 1, 1) := by decide +kernel
theorem dX11_planned_15 : decode cX11_planned 15 = .ok (.ishr, 1) := by decide +kernel
theorem dX11_planned_16 : decode cX11_planned 16 = .ok (.iconst 1, 1) := by decide +kernel
theorem dX11_planned_17 : decode cX11_planned 17 = .ok (.iand, 1) := by decide +kernel
theorem dX11_planned_18 : decode cX11_planned 18 = .ok (.iconst 1, 1) := by decide +kernel
theorem dX11_planned_19 : decode cX11_planned 19 = .ok (.if_icmp .ne 12, 3) := by decide +kernel
theorem dX11_planned_22 : decode cX11_planned 22 = .ok (.aload_n 0, 1) := by decide +kernel
theorem dX11_planned_23 : decode cX11_planned 23 = .ok (.getfield 22, 3) := by decide +kernel
theorem dX11_planned_26 : decode cX11_planned 26 = .ok (.iload_n 1, 1) := by decide +kernel
theorem dX11_planned_27 : decode cX11_planned 27 = .ok (.iaload, 1) := by decide +kernel
theorem dX11_planned_28 : decode cX11_planned 28 = .ok (.goto 5, 3) := by decide +kernel
theorem dX11_planned_31 : decode cX11_planned 31 = .ok (.bipush (-3), 2) := by decide +kernel
theorem dX11_planned_33 : decode cX11_planned 33 = .ok (.ireturn, 1) := by decide +kernel
theorem dX11_settle_0 : decode cX11_settle 0 = .ok (.iconst 0, 1) := by decide +kernel
theorem dX11_settle_1 : decode cX11_settle 1 = .ok (.istore_n 1, 1) := by decide +kernel
theorem dX11_settle_2 : decode cX11_settle 2 = .ok (.iconst 0, 1) := by decide +kernel
theorem dX11_settle_3 : decode cX11_settle 3 = .ok (.istore_n 2, 1) := by decide +kernel
theorem dX11_settle_4 : decode cX11_settle 4 = .ok (.iload_n 2, 1) := by decide +kernel
theorem dX11_settle_5 : decode cX11_settle 5 = .ok (.aload_n 0, 1) := by decide +kernel
theorem dX11_settle_6 : decode cX11_settle 6 = .ok (.getfield 96, 3) := by decide +kernel
theorem dX11_settle_9 : decode cX11_settle 9 = .ok (.if_icmp .ge 35, 3) := by decide +kernel
theorem dX11_settle_12 : decode cX11_settle 12 = .ok (.aload_n 0, 1) := by decide +kernel
theorem dX11_settle_13 : decode cX11_settle 13 = .ok (.getfield 282, 3) := by decide +kernel
theorem dX11_settle_16 : decode cX11_settle 16 = .ok (.iload_n 2, 1) := by decide +kernel
theorem dX11_settle_17 : decode cX11_settle 17 = .ok (.ishr, 1) := by decide +kernel
theorem dX11_settle_18 : decode cX11_settle 18 = .ok (.iconst 1, 1) := by decide +kernel
theorem dX11_settle_19 : decode cX11_settle 19 = .ok (.iand, 1) := by decide +kernel
theorem dX11_settle_20 : decode cX11_settle 20 = .ok (.iconst 1, 1) := by decide +kernel
theorem dX11_settle_21 : decode cX11_settle 21 = .ok (.if_icmp .ne 17, 3) := by decide +kernel
theorem dX11_settle_24 : decode cX11_settle 24 = .ok (.aload_n 0, 1) := by decide +kernel
theorem dX11_settle_25 : decode cX11_settle 25 = .ok (.iload_n 2, 1) := by decide +kernel
theorem dX11_settle_26 : decode cX11_settle 26 = .ok (.invokevirtual 121, 3) := by decide +kernel
theorem dX11_settle_29 : decode cX11_settle 29 = .ok (.ifCond .ne 6, 3) := by decide +kernel
theorem dX11_settle_32 : decode cX11_settle 32 = .ok (.bipush (-3), 2) := by decide +kernel
theorem dX11_settle_34 : decode cX11_settle 34 = .ok (.ireturn, 1) := by decide +kernel
theorem dX11_settle_35 : decode cX11_settle 35 = .ok (.iinc 1 1, 3) := by decide +kernel
theorem dX11_settle_38 : decode cX11_settle 38 = .ok (.iinc 2 1, 3) := by decide +kernel
theorem dX11_settle_41 : decode cX11_settle 41 = .ok (.goto (-37), 3) := by decide +kernel
theorem dX11_settle_44 : decode cX11_settle 44 = .ok (.iconst 0, 1) := by decide +kernel
theorem dX11_settle_45 : decode cX11_settle 45 = .ok (.istore_n 2, 1) := by decide +kernel
theorem dX11_settle_46 : decode cX11_settle 46 = .ok (.iload_n 2, 1) := by decide +kernel
theorem dX11_settle_47 : decode cX11_settle 47 = .ok (.aload_n 0, 1) := by decide +kernel
theorem dX11_settle_48 : decode cX11_settle 48 = .ok (.getfield 96, 3) := by decide +kernel
theorem dX11_settle_51 : decode cX11_settle 51 = .ok (.if_icmp .ge 38, 3) := by decide +kernel
theorem dX11_settle_54 : decode cX11_settle 54 = .ok (.aload_n 0, 1) := by decide +kernel
theorem dX11_settle_55 : decode cX11_settle 55 = .ok (.getfield 282, 3) := by decide +kernel
theorem dX11_settle_58 : decode cX11_settle 58 = .ok (.iload_n 2, 1) := by decide +kernel
theorem dX11_settle_59 : decode cX11_settle 59 = .ok (.ishr, 1) := by decide +kernel
theorem dX11_settle_60 : decode cX11_settle 60 = .ok (.iconst 1, 1) := by decide +kernel
theorem dX11_settle_61 : decode cX11_settle 61 = .ok (.iand, 1) := by decide +kernel
theorem dX11_settle_62 : decode cX11_settle 62 = .ok (.iconst 1, 1) := by decide +kernel
theorem dX11_settle_63 : decode cX11_settle 63 = .ok (.if_icmp .ne 20, 3) := by decide +kernel
theorem dX11_settle_66 : decode cX11_settle 66 = .ok (.aload_n 0, 1) := by decide +kernel
theorem dX11_settle_67 : decode cX11_settle 67 = .ok (.getfield 7, 3) := by decide +kernel
theorem dX11_settle_70 : decode cX11_settle 70 = .ok (.bipush 30, 2) := by decide +kernel
theorem dX11_settle_72 : decode cX11_settle 72 = .ok (.iload_n 2, 1) := by decide +kernel
theorem dX11_settle_73 : decode cX11_settle 73 = .ok (.imul, 1) := by decide +kernel
theorem dX11_settle_74 : decode cX11_settle 74 = .ok (.iconst 4, 1) := by decide +kernel
theorem dX11_settle_75 : decode cX11_settle 75 = .ok (.iadd, 1) := by decide +kernel
theorem dX11_settle_76 : decode cX11_settle 76 = .ok (.aload_n 0, 1) := by decide +kernel
theorem dX11_settle_77 : decode cX11_settle 77 = .ok (.getfield 22, 3) := by decide +kernel
theorem dX11_settle_80 : decode cX11_settle 80 = .ok (.iload_n 2, 1) := by decide +kernel
theorem dX11_settle_81 : decode cX11_settle 81 = .ok (.iaload, 1) := by decide +kernel
theorem dX11_settle_82 : decode cX11_settle 82 = .ok (.iastore, 1) := by decide +kernel
theorem dX11_settle_83 : decode cX11_settle 83 = .ok (.iinc 2 1, 3) := by decide +kernel
theorem dX11_settle_86 : decode cX11_settle 86 = .ok (.goto (-40), 3) := by decide +kernel
theorem dX11_settle_89 : decode cX11_settle 89 = .ok (.iload_n 1, 1) := by decide +kernel
theorem dX11_settle_90 : decode cX11_settle 90 = .ok (.ireturn, 1) := by decide +kernel
theorem dX11_estimate_0 : decode cX11_estimate 0 = .ok (.aload_n 0, 1) := by decide +kernel
theorem dX11_estimate_1 : decode cX11_estimate 1 = .ok (.iload_n 1, 1) := by decide +kernel
theorem dX11_estimate_2 : decode cX11_estimate 2 = .ok (.invokevirtual 114, 3) := by decide +kernel
theorem dX11_estimate_5 : decode cX11_estimate 5 = .ok (.ifCond .ne 5, 3) := by decide +kernel
theorem dX11_estimate_8 : decode cX11_estimate 8 = .ok (.iconst (-1), 1) := by decide +kernel
theorem dX11_estimate_9 : decode cX11_estimate 9 = .ok (.ireturn, 1) := by decide +kernel
theorem dX11_estimate_10 : decode cX11_estimate 10 = .ok (.iload_n 2, 1) := by decide +kernel
theorem dX11_estimate_11 : decode cX11_estimate 11 = .ok (.iconst 0, 1) := by decide +kernel
theorem dX11_estimate_12 : decode cX11_estimate 12 = .ok (.sipush 9999, 3) := by decide +kernel
theorem dX11_estimate_15 : decode cX11_estimate 15 = .ok (.invokestatic 99, 3) := by decide +kernel
theorem dX11_estimate_18 : decode cX11_estimate 18 = .ok (.ifCond .ne 6, 3) := by decide +kernel
theorem dX11_estimate_21 : decode cX11_estimate 21 = .ok (.bipush (-2), 2) := by decide +kernel
theorem dX11_estimate_23 : decode cX11_estimate 23 = .ok (.ireturn, 1) := by decide +kernel
theorem dX11_estimate_24 : decode cX11_estimate 24 = .ok (.aload_n 0, 1) := by decide +kernel
theorem dX11_estimate_25 : decode cX11_estimate 25 = .ok (.getfield 285, 3) := by decide +kernel
theorem dX11_estimate_28 : decode cX11_estimate 28 = .ok (.bipush 40, 2) := by decide +kernel
theorem dX11_estimate_30 : decode cX11_estimate 30 = .ok (.if_icmp .ne 6, 3) := by decide +kernel
theorem dX11_estimate_33 : decode cX11_estimate 33 = .ok (.bipush (-4), 2) := by decide +kernel
theorem dX11_estimate_35 : decode cX11_estimate 35 = .ok (.ireturn, 1) := by decide +kernel
theorem dX11_estimate_36 : decode cX11_estimate 36 = .ok (.aload_n 0, 1) := by decide +kernel
theorem dX11_estimate_37 : decode cX11_estimate 37 = .ok (.getfield 13, 3) := by decide +kernel
theorem dX11_estimate_40 : decode cX11_estimate 40 = .ok (.aload_n 0, 1) := by decide +kernel
theorem dX11_estimate_41 : decode cX11_estimate 41 = .ok (.getfield 285, 3) := by decide +kernel
theorem dX11_estimate_44 : decode cX11_estimate 44 = .ok (.iload_n 1, 1) := by decide +kernel
theorem dX11_estimate_45 : decode cX11_estimate 45 = .ok (.iastore, 1) := by decide +kernel
theorem dX11_estimate_46 : decode cX11_estimate 46 = .ok (.aload_n 0, 1) := by decide +kernel
theorem dX11_estimate_47 : decode cX11_estimate 47 = .ok (.getfield 16, 3) := by decide +kernel
theorem dX11_estimate_50 : decode cX11_estimate 50 = .ok (.aload_n 0, 1) := by decide +kernel
theorem dX11_estimate_51 : decode cX11_estimate 51 = .ok (.getfield 285, 3) := by decide +kernel
theorem dX11_estimate_54 : decode cX11_estimate 54 = .ok (.iload_n 2, 1) := by decide +kernel
theorem dX11_estimate_55 : decode cX11_estimate 55 = .ok (.iastore, 1) := by decide +kernel
theorem dX11_estimate_56 : decode cX11_estimate 56 = .ok (.aload_n 0, 1) := by decide +kernel
theorem dX11_estimate_57 : decode cX11_estimate 57 = .ok (.getfield 19, 3) := by decide +kernel
theorem dX11_estimate_60 : decode cX11_estimate 60 = .ok (.aload_n 0, 1) := by decide +kernel
theorem dX11_estimate_61 : decode cX11_estimate 61 = .ok (.getfield 285, 3) := by decide +kernel
theorem dX11_estimate_64 : decode cX11_estimate 64 = .ok (.aload_n 0, 1) := by decide +kernel
theorem dX11_estimate_65 : decode cX11_estimate 65 = .ok (.getfield 7, 3) := by decide +kernel
theorem dX11_estimate_68 : decode cX11_estimate 68 = .ok (.sipush 480, 3) := by decide +kernel
theorem dX11_estimate_71 : decode cX11_estimate 71 = .ok (.iaload, 1) := by decide +kernel
theorem dX11_estimate_72 : decode cX11_estimate 72 = .ok (.iastore, 1) := by decide +kernel
theorem dX11_estimate_73 : decode cX11_estimate 73 = .ok (.aload_n 0, 1) := by decide +kernel
theorem dX11_estimate_74 : decode cX11_estimate 74 = .ok (.dup, 1) := by decide +kernel
theorem dX11_estimate_75 : decode cX11_estimate 75 = .ok (.getfield 285, 3) := by decide +kernel
theorem dX11_estimate_78 : decode cX11_estimate 78 = .ok (.iconst 1, 1) := by decide +kernel
theorem dX11_estimate_79 : decode cX11_estimate 79 = .ok (.iadd, 1) := by decide +kernel
theorem dX11_estimate_80 : decode cX11_estimate 80 = .ok (.putfield 285, 3) := by decide +kernel
theorem dX11_estimate_83 : decode cX11_estimate 83 = .ok (.aload_n 0, 1) := by decide +kernel
theorem dX11_estimate_84 : decode cX11_estimate 84 = .ok (.getfield 285, 3) := by decide +kernel
theorem dX11_estimate_87 : decode cX11_estimate 87 = .ok (.iconst 1, 1) := by decide +kernel
theorem dX11_estimate_88 : decode cX11_estimate 88 = .ok (.isub, 1) := by decide +kernel
theorem dX11_estimate_89 : decode cX11_estimate 89 = .ok (.ireturn, 1) := by decide +kernel
theorem dX11_there_0 : decode cX11_there 0 = .ok (.aload_n 0, 1) := by decide +kernel
theorem dX11_there_1 : decode cX11_there 1 = .ok (.iload_n 1, 1) := by decide +kernel
theorem dX11_there_2 : decode cX11_there 2 = .ok (.iconst 1, 1) := by decide +kernel
theorem dX11_there_3 : decode cX11_there 3 = .ok (.invokevirtual 106, 3) := by decide +kernel
theorem dX11_there_6 : decode cX11_there 6 = .ok (.istore_n 3, 1) := by decide +kernel
theorem dX11_there_7 : decode cX11_there 7 = .ok (.iconst 0, 1) := by decide +kernel
theorem dX11_there_8 : decode cX11_there 8 = .ok (.istore 4, 2) := by decide +kernel
theorem dX11_there_10 : decode cX11_there 10 = .ok (.iload 4, 2) := by decide +kernel
theorem dX11_there_12 : decode cX11_there 12 = .ok (.aload_n 0, 1) := by decide +kernel
theorem dX11_there_13 : decode cX11_there 13 = .ok (.getfield 285, 3) := by decide +kernel
theorem dX11_there_16 : decode cX11_there 16 = .ok (.if_icmp .ge 43, 3) := by decide +kernel
theorem dX11_there_19 : decode cX11_there 19 = .ok (.aload_n 0, 1) := by decide +kernel
theorem dX11_there_20 : decode cX11_there 20 = .ok (.getfield 13, 3) := by decide +kernel
theorem dX11_there_23 : decode cX11_there 23 = .ok (.iload 4, 2) := by decide +kernel
theorem dX11_there_25 : decode cX11_there 25 = .ok (.iaload, 1) := by decide +kernel
theorem dX11_there_26 : decode cX11_there 26 = .ok (.iload_n 1, 1) := by decide +kernel
theorem dX11_there_27 : decode cX11_there 27 = .ok (.if_icmp .ne 24, 3) := by decide +kernel
theorem dX11_there_30 : decode cX11_there 30 = .ok (.aload_n 0, 1) := by decide +kernel
theorem dX11_there_31 : decode cX11_there 31 = .ok (.getfield 19, 3) := by decide +kernel
theorem dX11_there_34 : decode cX11_there 34 = .ok (.iload 4, 2) := by decide +kernel
theorem dX11_there_36 : decode cX11_there 36 = .ok (.iaload, 1) := by decide +kernel
theorem dX11_there_37 : decode cX11_there 37 = .ok (.iload_n 2, 1) := by decide +kernel
theorem dX11_there_38 : decode cX11_there 38 = .ok (.if_icmp .gt 13, 3) := by decide +kernel
theorem dX11_there_41 : decode cX11_there 41 = .ok (.aload_n 0, 1) := by decide +kernel
theorem dX11_there_42 : decode cX11_there 42 = .ok (.getfield 16, 3) := by decide +kernel
theorem dX11_there_45 : decode cX11_there 45 = .ok (.iload 4, 2) := by decide +kernel
theorem dX11_there_47 : decode cX11_there 47 = .ok (.iaload, 1) := by decide +kernel
theorem dX11_there_48 : decode cX11_there 48 = .ok (.goto 4, 3) := by decide +kernel
theorem dX11_there_51 : decode cX11_there 51 = .ok (.iload_n 3, 1) := by decide +kernel
theorem dX11_there_52 : decode cX11_there 52 = .ok (.istore_n 3, 1) := by decide +kernel
theorem dX11_there_53 : decode cX11_there 53 = .ok (.iinc 4 1, 3) := by decide +kernel
theorem dX11_there_56 : decode cX11_there 56 = .ok (.goto (-46), 3) := by decide +kernel
theorem dX11_there_59 : decode cX11_there 59 = .ok (.iload_n 3, 1) := by decide +kernel
theorem dX11_there_60 : decode cX11_there 60 = .ok (.aload_n 0, 1) := by decide +kernel
theorem dX11_there_61 : decode cX11_there 61 = .ok (.getfield 56, 3) := by decide +kernel
theorem dX11_there_64 : decode cX11_there 64 = .ok (.aload_n 0, 1) := by decide +kernel
theorem dX11_there_65 : decode cX11_there 65 = .ok (.iload_n 1, 1) := by decide +kernel
theorem dX11_there_66 : decode cX11_there 66 = .ok (.iconst 0, 1) := by decide +kernel
theorem dX11_there_67 : decode cX11_there 67 = .ok (.invokevirtual 106, 3) := by decide +kernel
theorem dX11_there_70 : decode cX11_there 70 = .ok (.iaload, 1) := by decide +kernel
theorem dX11_there_71 : decode cX11_there 71 = .ok (.iadd, 1) := by decide +kernel
theorem dX11_there_72 : decode cX11_there 72 = .ok (.iconst 4, 1) := by decide +kernel
theorem dX11_there_73 : decode cX11_there 73 = .ok (.iadd, 1) := by decide +kernel
theorem dX11_there_74 : decode cX11_there 74 = .ok (.ireturn, 1) := by decide +kernel
theorem dX11_toUnload_0 : decode cX11_toUnload 0 = .ok (.aload_n 0, 1) := by decide +kernel
theorem dX11_toUnload_1 : decode cX11_toUnload 1 = .ok (.iload_n 1, 1) := by decide +kernel
theorem dX11_toUnload_2 : decode cX11_toUnload 2 = .ok (.iconst 0, 1) := by decide +kernel
theorem dX11_toUnload_3 : decode cX11_toUnload 3 = .ok (.invokevirtual 221, 3) := by decide +kernel
theorem dX11_toUnload_6 : decode cX11_toUnload 6 = .ok (.aload_n 0, 1) := by decide +kernel
theorem dX11_toUnload_7 : decode cX11_toUnload 7 = .ok (.iload_n 1, 1) := by decide +kernel
theorem dX11_toUnload_8 : decode cX11_toUnload 8 = .ok (.iconst 1, 1) := by decide +kernel
theorem dX11_toUnload_9 : decode cX11_toUnload 9 = .ok (.invokevirtual 221, 3) := by decide +kernel
theorem dX11_toUnload_12 : decode cX11_toUnload 12 = .ok (.iadd, 1) := by decide +kernel
theorem dX11_toUnload_13 : decode cX11_toUnload 13 = .ok (.ireturn, 1) := by decide +kernel
theorem dX11_toLoad_0 : decode cX11_toLoad 0 = .ok (.aload_n 0, 1) := by decide +kernel
theorem dX11_toLoad_1 : decode cX11_toLoad 1 = .ok (.iload_n 1, 1) := by decide +kernel
theorem dX11_toLoad_2 : decode cX11_toLoad 2 = .ok (.iconst 2, 1) := by decide +kernel
theorem dX11_toLoad_3 : decode cX11_toLoad 3 = .ok (.invokevirtual 221, 3) := by decide +kernel
theorem dX11_toLoad_6 : decode cX11_toLoad 6 = .ok (.aload_n 0, 1) := by decide +kernel
theorem dX11_toLoad_7 : decode cX11_toLoad 7 = .ok (.iload_n 1, 1) := by decide +kernel
theorem dX11_toLoad_8 : decode cX11_toLoad 8 = .ok (.iconst 4, 1) := by decide +kernel
theorem dX11_toLoad_9 : decode cX11_toLoad 9 = .ok (.invokevirtual 221, 3) := by decide +kernel
theorem dX11_toLoad_12 : decode cX11_toLoad 12 = .ok (.iadd, 1) := by decide +kernel
theorem dX11_toLoad_13 : decode cX11_toLoad 13 = .ok (.istore_n 2, 1) := by decide +kernel
theorem dX11_toLoad_14 : decode cX11_toLoad 14 = .ok (.aload_n 0, 1) := by decide +kernel
theorem dX11_toLoad_15 : decode cX11_toLoad 15 = .ok (.iload_n 1, 1) := by decide +kernel
theorem dX11_toLoad_16 : decode cX11_toLoad 16 = .ok (.iconst 3, 1) := by decide +kernel
theorem dX11_toLoad_17 : decode cX11_toLoad 17 = .ok (.invokevirtual 221, 3) := by decide +kernel
theorem dX11_toLoad_20 : decode cX11_toLoad 20 = .ok (.istore_n 3, 1) := by decide +kernel
theorem dX11_toLoad_21 : decode cX11_toLoad 21 = .ok (.aload_n 0, 1) := by decide +kernel
theorem dX11_toLoad_22 : decode cX11_toLoad 22 = .ok (.iload_n 1, 1) := by decide +kernel
theorem dX11_toLoad_23 : decode cX11_toLoad 23 = .ok (.invokevirtual 288, 3) := by decide +kernel
theorem dX11_toLoad_26 : decode cX11_toLoad 26 = .ok (.iload_n 2, 1) := by decide +kernel
theorem dX11_toLoad_27 : decode cX11_toLoad 27 = .ok (.iload_n 3, 1) := by decide +kernel
theorem dX11_toLoad_28 : decode cX11_toLoad 28 = .ok (.if_icmp .le 7, 3) := by decide +kernel
theorem dX11_toLoad_31 : decode cX11_toLoad 31 = .ok (.iload_n 2, 1) := by decide +kernel
theorem dX11_toLoad_32 : decode cX11_toLoad 32 = .ok (.goto 4, 3) := by decide +kernel
theorem dX11_toLoad_35 : decode cX11_toLoad 35 = .ok (.iload_n 3, 1) := by decide +kernel
theorem dX11_toLoad_36 : decode cX11_toLoad 36 = .ok (.iadd, 1) := by decide +kernel
theorem dX11_toLoad_37 : decode cX11_toLoad 37 = .ok (.aload_n 0, 1) := by decide +kernel
theorem dX11_toLoad_38 : decode cX11_toLoad 38 = .ok (.iload_n 1, 1) := by decide +kernel
theorem dX11_toLoad_39 : decode cX11_toLoad 39 = .ok (.iconst 5, 1) := by decide +kernel
theorem dX11_toLoad_40 : decode cX11_toLoad 40 = .ok (.invokevirtual 221, 3) := by decide +kernel
theorem dX11_toLoad_43 : decode cX11_toLoad 43 = .ok (.iadd, 1) := by decide +kernel
theorem dX11_toLoad_44 : decode cX11_toLoad 44 = .ok (.ireturn, 1) := by decide +kernel
theorem dX11_expects_0 : decode cX11_expects 0 = .ok (.aload_n 0, 1) := by decide +kernel
theorem dX11_expects_1 : decode cX11_expects 1 = .ok (.iload_n 1, 1) := by decide +kernel
theorem dX11_expects_2 : decode cX11_expects 2 = .ok (.invokevirtual 114, 3) := by decide +kernel
theorem dX11_expects_5 : decode cX11_expects 5 = .ok (.ifCond .ne 5, 3) := by decide +kernel
theorem dX11_expects_8 : decode cX11_expects 8 = .ok (.iconst (-1), 1) := by decide +kernel
theorem dX11_expects_9 : decode cX11_expects 9 = .ok (.ireturn, 1) := by decide +kernel
theorem dX11_expects_10 : decode cX11_expects 10 = .ok (.iload_n 2, 1) := by decide +kernel
theorem dX11_expects_11 : decode cX11_expects 11 = .ok (.iconst 0, 1) := by decide +kernel
theorem dX11_expects_12 : decode cX11_expects 12 = .ok (.aload_n 0, 1) := by decide +kernel
theorem dX11_expects_13 : decode cX11_expects 13 = .ok (.getfield 7, 3) := by decide +kernel
theorem dX11_expects_16 : decode cX11_expects 16 = .ok (.sipush 480, 3) := by decide +kernel
theorem dX11_expects_19 : decode cX11_expects 19 = .ok (.iaload, 1) := by decide +kernel
theorem dX11_expects_20 : decode cX11_expects 20 = .ok (.invokestatic 99, 3) := by decide +kernel
theorem dX11_expects_23 : decode cX11_expects 23 = .ok (.ifCond .ne 6, 3) := by decide +kernel
theorem dX11_expects_26 : decode cX11_expects 26 = .ok (.bipush (-2), 2) := by decide +kernel
theorem dX11_expects_28 : decode cX11_expects 28 = .ok (.ireturn, 1) := by decide +kernel
theorem dX11_expects_29 : decode cX11_expects 29 = .ok (.aload_n 0, 1) := by decide +kernel
theorem dX11_expects_30 : decode cX11_expects 30 = .ok (.iload_n 1, 1) := by decide +kernel
theorem dX11_expects_31 : decode cX11_expects 31 = .ok (.iload_n 2, 1) := by decide +kernel
theorem dX11_expects_32 : decode cX11_expects 32 = .ok (.invokevirtual 291, 3) := by decide +kernel
theorem dX11_expects_35 : decode cX11_expects 35 = .ok (.aload_n 0, 1) := by decide +kernel
theorem dX11_expects_36 : decode cX11_expects 36 = .ok (.iload_n 1, 1) := by decide +kernel
theorem dX11_expects_37 : decode cX11_expects 37 = .ok (.invokevirtual 294, 3) := by decide +kernel
theorem dX11_expects_40 : decode cX11_expects 40 = .ok (.iadd, 1) := by decide +kernel
theorem dX11_expects_41 : decode cX11_expects 41 = .ok (.aload_n 0, 1) := by decide +kernel
theorem dX11_expects_42 : decode cX11_expects 42 = .ok (.getfield 7, 3) := by decide +kernel
theorem dX11_expects_45 : decode cX11_expects 45 = .ok (.sipush 482, 3) := by decide +kernel
theorem dX11_expects_48 : decode cX11_expects 48 = .ok (.iaload, 1) := by decide +kernel
theorem dX11_expects_49 : decode cX11_expects 49 = .ok (.iconst 1, 1) := by decide +kernel
theorem dX11_expects_50 : decode cX11_expects 50 = .ok (.if_icmp .ne 13, 3) := by decide +kernel
theorem dX11_expects_53 : decode cX11_expects 53 = .ok (.aload_n 0, 1) := by decide +kernel
theorem dX11_expects_54 : decode cX11_expects 54 = .ok (.iload_n 1, 1) := by decide +kernel
theorem dX11_expects_55 : decode cX11_expects 55 = .ok (.bipush 6, 2) := by decide +kernel
theorem dX11_expects_57 : decode cX11_expects 57 = .ok (.invokevirtual 221, 3) := by decide +kernel
theorem dX11_expects_60 : decode cX11_expects 60 = .ok (.goto 4, 3) := by decide +kernel
theorem dX11_expects_63 : decode cX11_expects 63 = .ok (.iconst 0, 1) := by decide +kernel
theorem dX11_expects_64 : decode cX11_expects 64 = .ok (.iadd, 1) := by decide +kernel
theorem dX11_expects_65 : decode cX11_expects 65 = .ok (.aload_n 0, 1) := by decide +kernel
theorem dX11_expects_66 : decode cX11_expects 66 = .ok (.iload_n 1, 1) := by decide +kernel
theorem dX11_expects_67 : decode cX11_expects 67 = .ok (.bipush 7, 2) := by decide +kernel
theorem dX11_expects_69 : decode cX11_expects 69 = .ok (.invokevirtual 221, 3) := by decide +kernel
theorem dX11_expects_72 : decode cX11_expects 72 = .ok (.iadd, 1) := by decide +kernel
theorem dX11_expects_73 : decode cX11_expects 73 = .ok (.istore_n 3, 1) := by decide +kernel
theorem dX11_expects_74 : decode cX11_expects 74 = .ok (.iload_n 3, 1) := by decide +kernel
theorem dX11_expects_75 : decode cX11_expects 75 = .ok (.aload_n 0, 1) := by decide +kernel
theorem dX11_expects_76 : decode cX11_expects 76 = .ok (.iload_n 1, 1) := by decide +kernel
theorem dX11_expects_77 : decode cX11_expects 77 = .ok (.iconst 2, 1) := by decide +kernel
theorem dX11_expects_78 : decode cX11_expects 78 = .ok (.invokevirtual 106, 3) := by decide +kernel
theorem dX11_expects_81 : decode cX11_expects 81 = .ok (.if_icmp .le 7, 3) := by decide +kernel
theorem dX11_expects_84 : decode cX11_expects 84 = .ok (.iload_n 3, 1) := by decide +kernel
theorem dX11_expects_85 : decode cX11_expects 85 = .ok (.goto 9, 3) := by decide +kernel
theorem dX11_expects_88 : decode cX11_expects 88 = .ok (.aload_n 0, 1) := by decide +kernel
theorem dX11_expects_89 : decode cX11_expects 89 = .ok (.iload_n 1, 1) := by decide +kernel
theorem dX11_expects_90 : decode cX11_expects 90 = .ok (.iconst 2, 1) := by decide +kernel
theorem dX11_expects_91 : decode cX11_expects 91 = .ok (.invokevirtual 106, 3) := by decide +kernel
theorem dX11_expects_94 : decode cX11_expects 94 = .ok (.ireturn, 1) := by decide +kernel
theorem dX11_misses_0 : decode cX11_misses 0 = .ok (.aload_n 0, 1) := by decide +kernel
theorem dX11_misses_1 : decode cX11_misses 1 = .ok (.iload_n 1, 1) := by decide +kernel
theorem dX11_misses_2 : decode cX11_misses 2 = .ok (.invokevirtual 114, 3) := by decide +kernel
theorem dX11_misses_5 : decode cX11_misses 5 = .ok (.ifCond .ne 5, 3) := by decide +kernel
theorem dX11_misses_8 : decode cX11_misses 8 = .ok (.iconst (-1), 1) := by decide +kernel
theorem dX11_misses_9 : decode cX11_misses 9 = .ok (.ireturn, 1) := by decide +kernel
theorem dX11_misses_10 : decode cX11_misses 10 = .ok (.iload_n 2, 1) := by decide +kernel
theorem dX11_misses_11 : decode cX11_misses 11 = .ok (.iconst 0, 1) := by decide +kernel
theorem dX11_misses_12 : decode cX11_misses 12 = .ok (.aload_n 0, 1) := by decide +kernel
theorem dX11_misses_13 : decode cX11_misses 13 = .ok (.getfield 7, 3) := by decide +kernel
theorem dX11_misses_16 : decode cX11_misses 16 = .ok (.sipush 480, 3) := by decide +kernel
theorem dX11_misses_19 : decode cX11_misses 19 = .ok (.iaload, 1) := by decide +kernel
theorem dX11_misses_20 : decode cX11_misses 20 = .ok (.invokestatic 99, 3) := by decide +kernel
theorem dX11_misses_23 : decode cX11_misses 23 = .ok (.ifCond .ne 6, 3) := by decide +kernel
theorem dX11_misses_26 : decode cX11_misses 26 = .ok (.bipush (-2), 2) := by decide +kernel
theorem dX11_misses_28 : decode cX11_misses 28 = .ok (.ireturn, 1) := by decide +kernel
theorem dX11_misses_29 : decode cX11_misses 29 = .ok (.aload_n 0, 1) := by decide +kernel
theorem dX11_misses_30 : decode cX11_misses 30 = .ok (.iload_n 1, 1) := by decide +kernel
theorem dX11_misses_31 : decode cX11_misses 31 = .ok (.iload_n 2, 1) := by decide +kernel
theorem dX11_misses_32 : decode cX11_misses 32 = .ok (.invokevirtual 291, 3) := by decide +kernel
theorem dX11_misses_35 : decode cX11_misses 35 = .ok (.aload_n 0, 1) := by decide +kernel
theorem dX11_misses_36 : decode cX11_misses 36 = .ok (.iload_n 1, 1) := by decide +kernel
theorem dX11_misses_37 : decode cX11_misses 37 = .ok (.invokevirtual 294, 3) := by decide +kernel
theorem dX11_misses_40 : decode cX11_misses 40 = .ok (.iadd, 1) := by decide +kernel
theorem dX11_misses_41 : decode cX11_misses 41 = .ok (.istore_n 3, 1) := by decide +kernel
theorem dX11_misses_42 : decode cX11_misses 42 = .ok (.aload_n 0, 1) := by decide +kernel
theorem dX11_misses_43 : decode cX11_misses 43 = .ok (.iload_n 1, 1) := by decide +kernel
theorem dX11_misses_44 : decode cX11_misses 44 = .ok (.iconst 2, 1) := by decide +kernel
theorem dX11_misses_45 : decode cX11_misses 45 = .ok (.invokevirtual 106, 3) := by decide +kernel
theorem dX11_misses_48 : decode cX11_misses 48 = .ok (.aload_n 0, 1) := by decide +kernel
theorem dX11_misses_49 : decode cX11_misses 49 = .ok (.iload_n 1, 1) := by decide +kernel
theorem dX11_misses_50 : decode cX11_misses 50 = .ok (.bipush 7, 2) := by decide +kernel
theorem dX11_misses_52 : decode cX11_misses 52 = .ok (.invokevirtual 221, 3) := by decide +kernel
theorem dX11_misses_55 : decode cX11_misses 55 = .ok (.isub, 1) := by decide +kernel
theorem dX11_misses_56 : decode cX11_misses 56 = .ok (.istore 4, 2) := by decide +kernel
theorem dX11_misses_58 : decode cX11_misses 58 = .ok (.iload 4, 2) := by decide +kernel
theorem dX11_misses_60 : decode cX11_misses 60 = .ok (.iload_n 3, 1) := by decide +kernel
theorem dX11_misses_61 : decode cX11_misses 61 = .ok (.if_icmp .le 8, 3) := by decide +kernel
theorem dX11_misses_64 : decode cX11_misses 64 = .ok (.iload 4, 2) := by decide +kernel
theorem dX11_misses_66 : decode cX11_misses 66 = .ok (.goto 4, 3) := by decide +kernel
theorem dX11_misses_69 : decode cX11_misses 69 = .ok (.iload_n 3, 1) := by decide +kernel
theorem dX11_misses_70 : decode cX11_misses 70 = .ok (.istore 5, 2) := by decide +kernel
theorem dX11_misses_72 : decode cX11_misses 72 = .ok (.iconst 0, 1) := by decide +kernel
theorem dX11_misses_73 : decode cX11_misses 73 = .ok (.istore 6, 2) := by decide +kernel
theorem dX11_misses_75 : decode cX11_misses 75 = .ok (.sipush 360, 3) := by decide +kernel
theorem dX11_misses_78 : decode cX11_misses 78 = .ok (.istore 7, 2) := by decide +kernel
theorem dX11_misses_80 : decode cX11_misses 80 = .ok (.iload 7, 2) := by decide +kernel
theorem dX11_misses_82 : decode cX11_misses 82 = .ok (.sipush 360, 3) := by decide +kernel
theorem dX11_misses_85 : decode cX11_misses 85 = .ok (.bipush 6, 2) := by decide +kernel
theorem dX11_misses_87 : decode cX11_misses 87 = .ok (.aload_n 0, 1) := by decide +kernel
theorem dX11_misses_88 : decode cX11_misses 88 = .ok (.getfield 124, 3) := by decide +kernel
theorem dX11_misses_91 : decode cX11_misses 91 = .ok (.imul, 1) := by decide +kernel
theorem dX11_misses_92 : decode cX11_misses 92 = .ok (.iadd, 1) := by decide +kernel
theorem dX11_misses_93 : decode cX11_misses 93 = .ok (.if_icmp .ge 83, 3) := by decide +kernel
theorem dX11_misses_96 : decode cX11_misses 96 = .ok (.aload_n 0, 1) := by decide +kernel
theorem dX11_misses_97 : decode cX11_misses 97 = .ok (.aload_n 0, 1) := by decide +kernel
theorem dX11_misses_98 : decode cX11_misses 98 = .ok (.getfield 7, 3) := by decide +kernel
theorem dX11_misses_101 : decode cX11_misses 101 = .ok (.iload 7, 2) := by decide +kernel
theorem dX11_misses_103 : decode cX11_misses 103 = .ok (.iaload, 1) := by decide +kernel
theorem dX11_misses_104 : decode cX11_misses 104 = .ok (.iload_n 2, 1) := by decide +kernel
theorem dX11_misses_105 : decode cX11_misses 105 = .ok (.invokevirtual 291, 3) := by decide +kernel
theorem dX11_misses_108 : decode cX11_misses 108 = .ok (.aload_n 0, 1) := by decide +kernel
theorem dX11_misses_109 : decode cX11_misses 109 = .ok (.aload_n 0, 1) := by decide +kernel
theorem dX11_misses_110 : decode cX11_misses 110 = .ok (.getfield 7, 3) := by decide +kernel
theorem dX11_misses_113 : decode cX11_misses 113 = .ok (.iload 7, 2) := by decide +kernel
theorem dX11_misses_115 : decode cX11_misses 115 = .ok (.iaload, 1) := by decide +kernel
theorem dX11_misses_116 : decode cX11_misses 116 = .ok (.invokevirtual 288, 3) := by decide +kernel
theorem dX11_misses_119 : decode cX11_misses 119 = .ok (.iadd, 1) := by decide +kernel
theorem dX11_misses_120 : decode cX11_misses 120 = .ok (.aload_n 0, 1) := by decide +kernel
theorem dX11_misses_121 : decode cX11_misses 121 = .ok (.getfield 7, 3) := by decide +kernel
theorem dX11_misses_124 : decode cX11_misses 124 = .ok (.iload 7, 2) := by decide +kernel
theorem dX11_misses_126 : decode cX11_misses 126 = .ok (.iconst 3, 1) := by decide +kernel
theorem dX11_misses_127 : decode cX11_misses 127 = .ok (.iadd, 1) := by decide +kernel
theorem dX11_misses_128 : decode cX11_misses 128 = .ok (.iaload, 1) := by decide +kernel
theorem dX11_misses_129 : decode cX11_misses 129 = .ok (.iadd, 1) := by decide +kernel
theorem dX11_misses_130 : decode cX11_misses 130 = .ok (.istore 8, 2) := by decide +kernel
theorem dX11_misses_132 : decode cX11_misses 132 = .ok (.iload 6, 2) := by decide +kernel
theorem dX11_misses_134 : decode cX11_misses 134 = .ok (.aload_n 0, 1) := by decide +kernel
theorem dX11_misses_135 : decode cX11_misses 135 = .ok (.getfield 7, 3) := by decide +kernel
theorem dX11_misses_138 : decode cX11_misses 138 = .ok (.iload 7, 2) := by decide +kernel
theorem dX11_misses_140 : decode cX11_misses 140 = .ok (.iconst 1, 1) := by decide +kernel
theorem dX11_misses_141 : decode cX11_misses 141 = .ok (.iadd, 1) := by decide +kernel
theorem dX11_misses_142 : decode cX11_misses 142 = .ok (.iaload, 1) := by decide +kernel
theorem dX11_misses_143 : decode cX11_misses 143 = .ok (.iload_n 1, 1) := by decide +kernel
theorem dX11_misses_144 : decode cX11_misses 144 = .ok (.if_icmp .ne 22, 3) := by decide +kernel
theorem dX11_misses_147 : decode cX11_misses 147 = .ok (.iload 8, 2) := by decide +kernel
theorem dX11_misses_149 : decode cX11_misses 149 = .ok (.iload 5, 2) := by decide +kernel
theorem dX11_misses_151 : decode cX11_misses 151 = .ok (.if_icmp .le 15, 3) := by decide +kernel
theorem dX11_misses_154 : decode cX11_misses 154 = .ok (.aload_n 0, 1) := by decide +kernel
theorem dX11_misses_155 : decode cX11_misses 155 = .ok (.getfield 7, 3) := by decide +kernel
theorem dX11_misses_158 : decode cX11_misses 158 = .ok (.iload 7, 2) := by decide +kernel
theorem dX11_misses_160 : decode cX11_misses 160 = .ok (.iconst 2, 1) := by decide +kernel
theorem dX11_misses_161 : decode cX11_misses 161 = .ok (.iadd, 1) := by decide +kernel
theorem dX11_misses_162 : decode cX11_misses 162 = .ok (.iaload, 1) := by decide +kernel
theorem dX11_misses_163 : decode cX11_misses 163 = .ok (.goto 4, 3) := by decide +kernel
theorem dX11_misses_166 : decode cX11_misses 166 = .ok (.iconst 0, 1) := by decide +kernel
theorem dX11_misses_167 : decode cX11_misses 167 = .ok (.iadd, 1) := by decide +kernel
theorem dX11_misses_168 : decode cX11_misses 168 = .ok (.istore 6, 2) := by decide +kernel
theorem dX11_misses_170 : decode cX11_misses 170 = .ok (.iinc 7 6, 3) := by decide +kernel
theorem dX11_misses_173 : decode cX11_misses 173 = .ok (.goto (-93), 3) := by decide +kernel
theorem dX11_misses_176 : decode cX11_misses 176 = .ok (.iload 6, 2) := by decide +kernel
theorem dX11_misses_178 : decode cX11_misses 178 = .ok (.ireturn, 1) := by decide +kernel
theorem dX11_count_0 : decode cX11_count 0 = .ok (.iload_n 1, 1) := by decide +kernel
theorem dX11_count_1 : decode cX11_count 1 = .ok (.tableswitch 161 0 13 #[71, 80, 85, 90, 95, 100, 105, 110, 115, 120, 125, 134, 143, 152], 71) := by decide +kernel
theorem dX11_count_72 : decode cX11_count 72 = .ok (.aload_n 0, 1) := by decide +kernel
theorem dX11_count_73 : decode cX11_count 73 = .ok (.getfield 7, 3) := by decide +kernel
theorem dX11_count_76 : decode cX11_count 76 = .ok (.sipush 480, 3) := by decide +kernel
theorem dX11_count_79 : decode cX11_count 79 = .ok (.iaload, 1) := by decide +kernel
theorem dX11_count_80 : decode cX11_count 80 = .ok (.ireturn, 1) := by decide +kernel
theorem dX11_count_81 : decode cX11_count 81 = .ok (.aload_n 0, 1) := by decide +kernel
theorem dX11_count_82 : decode cX11_count 82 = .ok (.getfield 96, 3) := by decide +kernel
theorem dX11_count_85 : decode cX11_count 85 = .ok (.ireturn, 1) := by decide +kernel
theorem dX11_count_86 : decode cX11_count 86 = .ok (.aload_n 0, 1) := by decide +kernel
theorem dX11_count_87 : decode cX11_count 87 = .ok (.getfield 103, 3) := by decide +kernel
theorem dX11_count_90 : decode cX11_count 90 = .ok (.ireturn, 1) := by decide +kernel
theorem dX11_count_91 : decode cX11_count 91 = .ok (.aload_n 0, 1) := by decide +kernel
theorem dX11_count_92 : decode cX11_count 92 = .ok (.getfield 124, 3) := by decide +kernel
theorem dX11_count_95 : decode cX11_count 95 = .ok (.ireturn, 1) := by decide +kernel
theorem dX11_count_96 : decode cX11_count 96 = .ok (.aload_n 0, 1) := by decide +kernel
theorem dX11_count_97 : decode cX11_count 97 = .ok (.getfield 92, 3) := by decide +kernel
theorem dX11_count_100 : decode cX11_count 100 = .ok (.ireturn, 1) := by decide +kernel
theorem dX11_count_101 : decode cX11_count 101 = .ok (.aload_n 0, 1) := by decide +kernel
theorem dX11_count_102 : decode cX11_count 102 = .ok (.getfield 186, 3) := by decide +kernel
theorem dX11_count_105 : decode cX11_count 105 = .ok (.ireturn, 1) := by decide +kernel
theorem dX11_count_106 : decode cX11_count 106 = .ok (.aload_n 0, 1) := by decide +kernel
theorem dX11_count_107 : decode cX11_count 107 = .ok (.getfield 127, 3) := by decide +kernel
theorem dX11_count_110 : decode cX11_count 110 = .ok (.ireturn, 1) := by decide +kernel
theorem dX11_count_111 : decode cX11_count 111 = .ok (.aload_n 0, 1) := by decide +kernel
theorem dX11_count_112 : decode cX11_count 112 = .ok (.getfield 285, 3) := by decide +kernel
theorem dX11_count_115 : decode cX11_count 115 = .ok (.ireturn, 1) := by decide +kernel
theorem dX11_count_116 : decode cX11_count 116 = .ok (.aload_n 0, 1) := by decide +kernel
theorem dX11_count_117 : decode cX11_count 117 = .ok (.invokevirtual 266, 3) := by decide +kernel
theorem dX11_count_120 : decode cX11_count 120 = .ok (.ireturn, 1) := by decide +kernel
theorem dX11_count_121 : decode cX11_count 121 = .ok (.aload_n 0, 1) := by decide +kernel
theorem dX11_count_122 : decode cX11_count 122 = .ok (.invokevirtual 269, 3) := by decide +kernel
theorem dX11_count_125 : decode cX11_count 125 = .ok (.ireturn, 1) := by decide +kernel
theorem dX11_count_126 : decode cX11_count 126 = .ok (.aload_n 0, 1) := by decide +kernel
theorem dX11_count_127 : decode cX11_count 127 = .ok (.getfield 7, 3) := by decide +kernel
theorem dX11_count_130 : decode cX11_count 130 = .ok (.sipush 483, 3) := by decide +kernel
theorem dX11_count_133 : decode cX11_count 133 = .ok (.iaload, 1) := by decide +kernel
theorem dX11_count_134 : decode cX11_count 134 = .ok (.ireturn, 1) := by decide +kernel
theorem dX11_count_135 : decode cX11_count 135 = .ok (.aload_n 0, 1) := by decide +kernel
theorem dX11_count_136 : decode cX11_count 136 = .ok (.getfield 7, 3) := by decide +kernel
theorem dX11_count_139 : decode cX11_count 139 = .ok (.sipush 481, 3) := by decide +kernel
theorem dX11_count_142 : decode cX11_count 142 = .ok (.iaload, 1) := by decide +kernel
theorem dX11_count_143 : decode cX11_count 143 = .ok (.ireturn, 1) := by decide +kernel
theorem dX11_count_144 : decode cX11_count 144 = .ok (.aload_n 0, 1) := by decide +kernel
theorem dX11_count_145 : decode cX11_count 145 = .ok (.getfield 7, 3) := by decide +kernel
theorem dX11_count_148 : decode cX11_count 148 = .ok (.sipush 482, 3) := by decide +kernel
theorem dX11_count_151 : decode cX11_count 151 = .ok (.iaload, 1) := by decide +kernel
theorem dX11_count_152 : decode cX11_count 152 = .ok (.ireturn, 1) := by decide +kernel
theorem dX11_count_153 : decode cX11_count 153 = .ok (.aload_n 0, 1) := by decide +kernel
theorem dX11_count_154 : decode cX11_count 154 = .ok (.getfield 7, 3) := by decide +kernel
theorem dX11_count_157 : decode cX11_count 157 = .ok (.sipush 484, 3) := by decide +kernel
theorem dX11_count_160 : decode cX11_count 160 = .ok (.iaload, 1) := by decide +kernel
theorem dX11_count_161 : decode cX11_count 161 = .ok (.ireturn, 1) := by decide +kernel
theorem dX11_count_162 : decode cX11_count 162 = .ok (.bipush (-2), 2) := by decide +kernel
theorem dX11_count_164 : decode cX11_count 164 = .ok (.ireturn, 1) := by decide +kernel
theorem dX11_sheet_0 : decode cX11_sheet 0 = .ok (.iload_n 1, 1) := by decide +kernel
theorem dX11_sheet_1 : decode cX11_sheet 1 = .ok (.iconst 0, 1) := by decide +kernel
theorem dX11_sheet_2 : decode cX11_sheet 2 = .ok (.iconst 3, 1) := by decide +kernel
theorem dX11_sheet_3 : decode cX11_sheet 3 = .ok (.invokestatic 99, 3) := by decide +kernel
theorem dX11_sheet_6 : decode cX11_sheet 6 = .ok (.ifCond .eq 23, 3) := by decide +kernel
theorem dX11_sheet_9 : decode cX11_sheet 9 = .ok (.iload_n 2, 1) := by decide +kernel
theorem dX11_sheet_10 : decode cX11_sheet 10 = .ok (.iconst (-1), 1) := by decide +kernel
theorem dX11_sheet_11 : decode cX11_sheet 11 = .ok (.iconst 2, 1) := by decide +kernel
theorem dX11_sheet_12 : decode cX11_sheet 12 = .ok (.invokestatic 99, 3) := by decide +kernel
theorem dX11_sheet_15 : decode cX11_sheet 15 = .ok (.ifCond .eq 14, 3) := by decide +kernel
theorem dX11_sheet_18 : decode cX11_sheet 18 = .ok (.iload_n 2, 1) := by decide +kernel
theorem dX11_sheet_19 : decode cX11_sheet 19 = .ok (.iconst (-1), 1) := by decide +kernel
theorem dX11_sheet_20 : decode cX11_sheet 20 = .ok (.if_icmp .eq 12, 3) := by decide +kernel
theorem dX11_sheet_23 : decode cX11_sheet 23 = .ok (.iload_n 3, 1) := by decide +kernel
theorem dX11_sheet_24 : decode cX11_sheet 24 = .ok (.bipush 40, 2) := by decide +kernel
theorem dX11_sheet_26 : decode cX11_sheet 26 = .ok (.if_icmp .le 6, 3) := by decide +kernel
theorem dX11_sheet_29 : decode cX11_sheet 29 = .ok (.bipush (-2), 2) := by decide +kernel
theorem dX11_sheet_31 : decode cX11_sheet 31 = .ok (.ireturn, 1) := by decide +kernel
theorem dX11_sheet_32 : decode cX11_sheet 32 = .ok (.iload_n 2, 1) := by decide +kernel
theorem dX11_sheet_33 : decode cX11_sheet 33 = .ok (.iconst (-1), 1) := by decide +kernel
theorem dX11_sheet_34 : decode cX11_sheet 34 = .ok (.if_icmp .eq 10, 3) := by decide +kernel
theorem dX11_sheet_37 : decode cX11_sheet 37 = .ok (.iload_n 3, 1) := by decide +kernel
theorem dX11_sheet_38 : decode cX11_sheet 38 = .ok (.ifCond .ge 6, 3) := by decide +kernel
theorem dX11_sheet_41 : decode cX11_sheet 41 = .ok (.bipush (-14), 2) := by decide +kernel
theorem dX11_sheet_43 : decode cX11_sheet 43 = .ok (.ireturn, 1) := by decide +kernel
theorem dX11_sheet_44 : decode cX11_sheet 44 = .ok (.aload_n 0, 1) := by decide +kernel
theorem dX11_sheet_45 : decode cX11_sheet 45 = .ok (.getfield 41, 3) := by decide +kernel
theorem dX11_sheet_48 : decode cX11_sheet 48 = .ok (.iload_n 1, 1) := by decide +kernel
theorem dX11_sheet_49 : decode cX11_sheet 49 = .ok (.iload_n 2, 1) := by decide +kernel
theorem dX11_sheet_50 : decode cX11_sheet 50 = .ok (.iastore, 1) := by decide +kernel
theorem dX11_sheet_51 : decode cX11_sheet 51 = .ok (.aload_n 0, 1) := by decide +kernel
theorem dX11_sheet_52 : decode cX11_sheet 52 = .ok (.getfield 44, 3) := by decide +kernel
theorem dX11_sheet_55 : decode cX11_sheet 55 = .ok (.iload_n 1, 1) := by decide +kernel
theorem dX11_sheet_56 : decode cX11_sheet 56 = .ok (.iload_n 2, 1) := by decide +kernel
theorem dX11_sheet_57 : decode cX11_sheet 57 = .ok (.iconst (-1), 1) := by decide +kernel
theorem dX11_sheet_58 : decode cX11_sheet 58 = .ok (.if_icmp .ne 7, 3) := by decide +kernel
theorem dX11_sheet_61 : decode cX11_sheet 61 = .ok (.iconst 0, 1) := by decide +kernel
theorem dX11_sheet_62 : decode cX11_sheet 62 = .ok (.goto 4, 3) := by decide +kernel
theorem dX11_sheet_65 : decode cX11_sheet 65 = .ok (.iload_n 3, 1) := by decide +kernel
theorem dX11_sheet_66 : decode cX11_sheet 66 = .ok (.iastore, 1) := by decide +kernel
theorem dX11_sheet_67 : decode cX11_sheet 67 = .ok (.iconst 0, 1) := by decide +kernel
theorem dX11_sheet_68 : decode cX11_sheet 68 = .ok (.istore 4, 2) := by decide +kernel
theorem dX11_sheet_70 : decode cX11_sheet 70 = .ok (.iload 4, 2) := by decide +kernel
theorem dX11_sheet_72 : decode cX11_sheet 72 = .ok (.bipush 40, 2) := by decide +kernel
theorem dX11_sheet_74 : decode cX11_sheet 74 = .ok (.if_icmp .ge 22, 3) := by decide +kernel
theorem dX11_sheet_77 : decode cX11_sheet 77 = .ok (.aload_n 0, 1) := by decide +kernel
theorem dX11_sheet_78 : decode cX11_sheet 78 = .ok (.getfield 47, 3) := by decide +kernel
theorem dX11_sheet_81 : decode cX11_sheet 81 = .ok (.bipush 40, 2) := by decide +kernel
theorem dX11_sheet_83 : decode cX11_sheet 83 = .ok (.iload_n 1, 1) := by decide +kernel
theorem dX11_sheet_84 : decode cX11_sheet 84 = .ok (.imul, 1) := by decide +kernel
theorem dX11_sheet_85 : decode cX11_sheet 85 = .ok (.iload 4, 2) := by decide +kernel
theorem dX11_sheet_87 : decode cX11_sheet 87 = .ok (.iadd, 1) := by decide +kernel
theorem dX11_sheet_88 : decode cX11_sheet 88 = .ok (.iconst 0, 1) := by decide +kernel
theorem dX11_sheet_89 : decode cX11_sheet 89 = .ok (.iastore, 1) := by decide +kernel
theorem dX11_sheet_90 : decode cX11_sheet 90 = .ok (.iinc 4 1, 3) := by decide +kernel
theorem dX11_sheet_93 : decode cX11_sheet 93 = .ok (.goto (-23), 3) := by decide +kernel
theorem dX11_sheet_96 : decode cX11_sheet 96 = .ok (.iconst 1, 1) := by decide +kernel
theorem dX11_sheet_97 : decode cX11_sheet 97 = .ok (.ireturn, 1) := by decide +kernel
theorem dX11_cell_0 : decode cX11_cell 0 = .ok (.iload_n 1, 1) := by decide +kernel
theorem dX11_cell_1 : decode cX11_cell 1 = .ok (.iconst 0, 1) := by decide +kernel
theorem dX11_cell_2 : decode cX11_cell 2 = .ok (.iconst 3, 1) := by decide +kernel
theorem dX11_cell_3 : decode cX11_cell 3 = .ok (.invokestatic 99, 3) := by decide +kernel
theorem dX11_cell_6 : decode cX11_cell 6 = .ok (.ifCond .ne 6, 3) := by decide +kernel
theorem dX11_cell_9 : decode cX11_cell 9 = .ok (.bipush (-2), 2) := by decide +kernel
theorem dX11_cell_11 : decode cX11_cell 11 = .ok (.ireturn, 1) := by decide +kernel
theorem dX11_cell_12 : decode cX11_cell 12 = .ok (.aload_n 0, 1) := by decide +kernel
theorem dX11_cell_13 : decode cX11_cell 13 = .ok (.getfield 41, 3) := by decide +kernel
theorem dX11_cell_16 : decode cX11_cell 16 = .ok (.iload_n 1, 1) := by decide +kernel
theorem dX11_cell_17 : decode cX11_cell 17 = .ok (.iaload, 1) := by decide +kernel
theorem dX11_cell_18 : decode cX11_cell 18 = .ok (.iconst (-1), 1) := by decide +kernel
theorem dX11_cell_19 : decode cX11_cell 19 = .ok (.if_icmp .ne 6, 3) := by decide +kernel
theorem dX11_cell_22 : decode cX11_cell 22 = .ok (.bipush (-11), 2) := by decide +kernel
theorem dX11_cell_24 : decode cX11_cell 24 = .ok (.ireturn, 1) := by decide +kernel
theorem dX11_cell_25 : decode cX11_cell 25 = .ok (.iload_n 2, 1) := by decide +kernel
theorem dX11_cell_26 : decode cX11_cell 26 = .ok (.iconst 0, 1) := by decide +kernel
theorem dX11_cell_27 : decode cX11_cell 27 = .ok (.aload_n 0, 1) := by decide +kernel
theorem dX11_cell_28 : decode cX11_cell 28 = .ok (.getfield 44, 3) := by decide +kernel
theorem dX11_cell_31 : decode cX11_cell 31 = .ok (.iload_n 1, 1) := by decide +kernel
theorem dX11_cell_32 : decode cX11_cell 32 = .ok (.iaload, 1) := by decide +kernel
theorem dX11_cell_33 : decode cX11_cell 33 = .ok (.iconst 1, 1) := by decide +kernel
theorem dX11_cell_34 : decode cX11_cell 34 = .ok (.isub, 1) := by decide +kernel
theorem dX11_cell_35 : decode cX11_cell 35 = .ok (.invokestatic 99, 3) := by decide +kernel
theorem dX11_cell_38 : decode cX11_cell 38 = .ok (.ifCond .ne 6, 3) := by decide +kernel
theorem dX11_cell_41 : decode cX11_cell 41 = .ok (.bipush (-12), 2) := by decide +kernel
theorem dX11_cell_43 : decode cX11_cell 43 = .ok (.ireturn, 1) := by decide +kernel
theorem dX11_cell_44 : decode cX11_cell 44 = .ok (.aload_n 0, 1) := by decide +kernel
theorem dX11_cell_45 : decode cX11_cell 45 = .ok (.getfield 47, 3) := by decide +kernel
theorem dX11_cell_48 : decode cX11_cell 48 = .ok (.bipush 40, 2) := by decide +kernel
theorem dX11_cell_50 : decode cX11_cell 50 = .ok (.iload_n 1, 1) := by decide +kernel
theorem dX11_cell_51 : decode cX11_cell 51 = .ok (.imul, 1) := by decide +kernel
theorem dX11_cell_52 : decode cX11_cell 52 = .ok (.iload_n 2, 1) := by decide +kernel
theorem dX11_cell_53 : decode cX11_cell 53 = .ok (.iadd, 1) := by decide +kernel
theorem dX11_cell_54 : decode cX11_cell 54 = .ok (.aload_n 0, 1) := by decide +kernel
theorem dX11_cell_55 : decode cX11_cell 55 = .ok (.getfield 41, 3) := by decide +kernel
theorem dX11_cell_58 : decode cX11_cell 58 = .ok (.iload_n 1, 1) := by decide +kernel
theorem dX11_cell_59 : decode cX11_cell 59 = .ok (.iaload, 1) := by decide +kernel
theorem dX11_cell_60 : decode cX11_cell 60 = .ok (.ifCond .ne 8, 3) := by decide +kernel
theorem dX11_cell_63 : decode cX11_cell 63 = .ok (.iload_n 3, 1) := by decide +kernel
theorem dX11_cell_64 : decode cX11_cell 64 = .ok (.i2b, 1) := by decide +kernel
theorem dX11_cell_65 : decode cX11_cell 65 = .ok (.goto 19, 3) := by decide +kernel
theorem dX11_cell_68 : decode cX11_cell 68 = .ok (.aload_n 0, 1) := by decide +kernel
theorem dX11_cell_69 : decode cX11_cell 69 = .ok (.getfield 41, 3) := by decide +kernel
theorem dX11_cell_72 : decode cX11_cell 72 = .ok (.iload_n 1, 1) := by decide +kernel
theorem dX11_cell_73 : decode cX11_cell 73 = .ok (.iaload, 1) := by decide +kernel
theorem dX11_cell_74 : decode cX11_cell 74 = .ok (.iconst 1, 1) := by decide +kernel
theorem dX11_cell_75 : decode cX11_cell 75 = .ok (.if_icmp .ne 8, 3) := by decide +kernel
theorem dX11_cell_78 : decode cX11_cell 78 = .ok (.iload_n 3, 1) := by decide +kernel
theorem dX11_cell_79 : decode cX11_cell 79 = .ok (.i2s, 1) := by decide +kernel
theorem dX11_cell_80 : decode cX11_cell 80 = .ok (.goto 4, 3) := by decide +kernel
theorem dX11_cell_83 : decode cX11_cell 83 = .ok (.iload_n 3, 1) := by decide +kernel
theorem dX11_cell_84 : decode cX11_cell 84 = .ok (.iastore, 1) := by decide +kernel
theorem dX11_cell_85 : decode cX11_cell 85 = .ok (.iconst 1, 1) := by decide +kernel
theorem dX11_cell_86 : decode cX11_cell 86 = .ok (.ireturn, 1) := by decide +kernel
theorem dX11_copy_0 : decode cX11_copy 0 = .ok (.iload_n 1, 1) := by decide +kernel
theorem dX11_copy_1 : decode cX11_copy 1 = .ok (.iconst 0, 1) := by decide +kernel
theorem dX11_copy_2 : decode cX11_copy 2 = .ok (.iconst 3, 1) := by decide +kernel
theorem dX11_copy_3 : decode cX11_copy 3 = .ok (.invokestatic 99, 3) := by decide +kernel
theorem dX11_copy_6 : decode cX11_copy 6 = .ok (.ifCond .eq 12, 3) := by decide +kernel
theorem dX11_copy_9 : decode cX11_copy 9 = .ok (.iload_n 3, 1) := by decide +kernel
theorem dX11_copy_10 : decode cX11_copy 10 = .ok (.iconst 0, 1) := by decide +kernel
theorem dX11_copy_11 : decode cX11_copy 11 = .ok (.iconst 3, 1) := by decide +kernel
theorem dX11_copy_12 : decode cX11_copy 12 = .ok (.invokestatic 99, 3) := by decide +kernel
theorem dX11_copy_15 : decode cX11_copy 15 = .ok (.ifCond .ne 6, 3) := by decide +kernel
theorem dX11_copy_18 : decode cX11_copy 18 = .ok (.bipush (-2), 2) := by decide +kernel
theorem dX11_copy_20 : decode cX11_copy 20 = .ok (.ireturn, 1) := by decide +kernel
theorem dX11_copy_21 : decode cX11_copy 21 = .ok (.aload_n 0, 1) := by decide +kernel
theorem dX11_copy_22 : decode cX11_copy 22 = .ok (.getfield 41, 3) := by decide +kernel
theorem dX11_copy_25 : decode cX11_copy 25 = .ok (.iload_n 1, 1) := by decide +kernel
theorem dX11_copy_26 : decode cX11_copy 26 = .ok (.iaload, 1) := by decide +kernel
theorem dX11_copy_27 : decode cX11_copy 27 = .ok (.iconst (-1), 1) := by decide +kernel
theorem dX11_copy_28 : decode cX11_copy 28 = .ok (.if_icmp .eq 13, 3) := by decide +kernel
theorem dX11_copy_31 : decode cX11_copy 31 = .ok (.aload_n 0, 1) := by decide +kernel
theorem dX11_copy_32 : decode cX11_copy 32 = .ok (.getfield 41, 3) := by decide +kernel
theorem dX11_copy_35 : decode cX11_copy 35 = .ok (.iload_n 3, 1) := by decide +kernel
theorem dX11_copy_36 : decode cX11_copy 36 = .ok (.iaload, 1) := by decide +kernel
theorem dX11_copy_37 : decode cX11_copy 37 = .ok (.iconst (-1), 1) := by decide +kernel
theorem dX11_copy_38 : decode cX11_copy 38 = .ok (.if_icmp .ne 6, 3) := by decide +kernel
theorem dX11_copy_41 : decode cX11_copy 41 = .ok (.bipush (-11), 2) := by decide +kernel
theorem dX11_copy_43 : decode cX11_copy 43 = .ok (.ireturn, 1) := by decide +kernel
theorem dX11_copy_44 : decode cX11_copy 44 = .ok (.aload_n 0, 1) := by decide +kernel
theorem dX11_copy_45 : decode cX11_copy 45 = .ok (.getfield 41, 3) := by decide +kernel
theorem dX11_copy_48 : decode cX11_copy 48 = .ok (.iload_n 1, 1) := by decide +kernel
theorem dX11_copy_49 : decode cX11_copy 49 = .ok (.iaload, 1) := by decide +kernel
theorem dX11_copy_50 : decode cX11_copy 50 = .ok (.aload_n 0, 1) := by decide +kernel
theorem dX11_copy_51 : decode cX11_copy 51 = .ok (.getfield 41, 3) := by decide +kernel
theorem dX11_copy_54 : decode cX11_copy 54 = .ok (.iload_n 3, 1) := by decide +kernel
theorem dX11_copy_55 : decode cX11_copy 55 = .ok (.iaload, 1) := by decide +kernel
theorem dX11_copy_56 : decode cX11_copy 56 = .ok (.if_icmp .eq 6, 3) := by decide +kernel
theorem dX11_copy_59 : decode cX11_copy 59 = .ok (.bipush (-13), 2) := by decide +kernel
theorem dX11_copy_61 : decode cX11_copy 61 = .ok (.ireturn, 1) := by decide +kernel
theorem dX11_copy_62 : decode cX11_copy 62 = .ok (.iload 5, 2) := by decide +kernel
theorem dX11_copy_64 : decode cX11_copy 64 = .ok (.ifCond .lt 60, 3) := by decide +kernel
theorem dX11_copy_67 : decode cX11_copy 67 = .ok (.iload_n 2, 1) := by decide +kernel
theorem dX11_copy_68 : decode cX11_copy 68 = .ok (.ifCond .lt 56, 3) := by decide +kernel
theorem dX11_copy_71 : decode cX11_copy 71 = .ok (.iload 4, 2) := by decide +kernel
theorem dX11_copy_73 : decode cX11_copy 73 = .ok (.ifCond .lt 51, 3) := by decide +kernel
theorem dX11_copy_76 : decode cX11_copy 76 = .ok (.iload_n 2, 1) := by decide +kernel
theorem dX11_copy_77 : decode cX11_copy 77 = .ok (.aload_n 0, 1) := by decide +kernel
theorem dX11_copy_78 : decode cX11_copy 78 = .ok (.getfield 44, 3) := by decide +kernel
theorem dX11_copy_81 : decode cX11_copy 81 = .ok (.iload_n 1, 1) := by decide +kernel
theorem dX11_copy_82 : decode cX11_copy 82 = .ok (.iaload, 1) := by decide +kernel
theorem dX11_copy_83 : decode cX11_copy 83 = .ok (.if_icmp .gt 41, 3) := by decide +kernel
theorem dX11_copy_86 : decode cX11_copy 86 = .ok (.iload 4, 2) := by decide +kernel
theorem dX11_copy_88 : decode cX11_copy 88 = .ok (.aload_n 0, 1) := by decide +kernel
theorem dX11_copy_89 : decode cX11_copy 89 = .ok (.getfield 44, 3) := by decide +kernel
theorem dX11_copy_92 : decode cX11_copy 92 = .ok (.iload_n 3, 1) := by decide +kernel
theorem dX11_copy_93 : decode cX11_copy 93 = .ok (.iaload, 1) := by decide +kernel
theorem dX11_copy_94 : decode cX11_copy 94 = .ok (.if_icmp .gt 30, 3) := by decide +kernel
theorem dX11_copy_97 : decode cX11_copy 97 = .ok (.iload 5, 2) := by decide +kernel
theorem dX11_copy_99 : decode cX11_copy 99 = .ok (.aload_n 0, 1) := by decide +kernel
theorem dX11_copy_100 : decode cX11_copy 100 = .ok (.getfield 44, 3) := by decide +kernel
theorem dX11_copy_103 : decode cX11_copy 103 = .ok (.iload_n 1, 1) := by decide +kernel
theorem dX11_copy_104 : decode cX11_copy 104 = .ok (.iaload, 1) := by decide +kernel
theorem dX11_copy_105 : decode cX11_copy 105 = .ok (.iload_n 2, 1) := by decide +kernel
theorem dX11_copy_106 : decode cX11_copy 106 = .ok (.isub, 1) := by decide +kernel
theorem dX11_copy_107 : decode cX11_copy 107 = .ok (.if_icmp .gt 17, 3) := by decide +kernel
theorem dX11_copy_110 : decode cX11_copy 110 = .ok (.iload 5, 2) := by decide +kernel
theorem dX11_copy_112 : decode cX11_copy 112 = .ok (.aload_n 0, 1) := by decide +kernel
theorem dX11_copy_113 : decode cX11_copy 113 = .ok (.getfield 44, 3) := by decide +kernel
theorem dX11_copy_116 : decode cX11_copy 116 = .ok (.iload_n 3, 1) := by decide +kernel
theorem dX11_copy_117 : decode cX11_copy 117 = .ok (.iaload, 1) := by decide +kernel
theorem dX11_copy_118 : decode cX11_copy 118 = .ok (.iload 4, 2) := by decide +kernel
theorem dX11_copy_120 : decode cX11_copy 120 = .ok (.isub, 1) := by decide +kernel
theorem dX11_copy_121 : decode cX11_copy 121 = .ok (.if_icmp .le 6, 3) := by decide +kernel
theorem dX11_copy_124 : decode cX11_copy 124 = .ok (.bipush (-12), 2) := by decide +kernel
theorem dX11_copy_126 : decode cX11_copy 126 = .ok (.ireturn, 1) := by decide +kernel
theorem dX11_copy_127 : decode cX11_copy 127 = .ok (.bipush 40, 2) := by decide +kernel
theorem dX11_copy_129 : decode cX11_copy 129 = .ok (.iload_n 1, 1) := by decide +kernel
theorem dX11_copy_130 : decode cX11_copy 130 = .ok (.imul, 1) := by decide +kernel
theorem dX11_copy_131 : decode cX11_copy 131 = .ok (.iload_n 2, 1) := by decide +kernel
theorem dX11_copy_132 : decode cX11_copy 132 = .ok (.iadd, 1) := by decide +kernel
theorem dX11_copy_133 : decode cX11_copy 133 = .ok (.istore 6, 2) := by decide +kernel
theorem dX11_copy_135 : decode cX11_copy 135 = .ok (.bipush 40, 2) := by decide +kernel
theorem dX11_copy_137 : decode cX11_copy 137 = .ok (.iload_n 3, 1) := by decide +kernel
theorem dX11_copy_138 : decode cX11_copy 138 = .ok (.imul, 1) := by decide +kernel
theorem dX11_copy_139 : decode cX11_copy 139 = .ok (.iload 4, 2) := by decide +kernel
theorem dX11_copy_141 : decode cX11_copy 141 = .ok (.iadd, 1) := by decide +kernel
theorem dX11_copy_142 : decode cX11_copy 142 = .ok (.istore 7, 2) := by decide +kernel
theorem dX11_copy_144 : decode cX11_copy 144 = .ok (.iconst 0, 1) := by decide +kernel
theorem dX11_copy_145 : decode cX11_copy 145 = .ok (.istore 8, 2) := by decide +kernel
theorem dX11_copy_147 : decode cX11_copy 147 = .ok (.iload 8, 2) := by decide +kernel
theorem dX11_copy_149 : decode cX11_copy 149 = .ok (.iload 5, 2) := by decide +kernel
theorem dX11_copy_151 : decode cX11_copy 151 = .ok (.if_icmp .ge 50, 3) := by decide +kernel
theorem dX11_copy_154 : decode cX11_copy 154 = .ok (.iload 6, 2) := by decide +kernel
theorem dX11_copy_156 : decode cX11_copy 156 = .ok (.iload 7, 2) := by decide +kernel
theorem dX11_copy_158 : decode cX11_copy 158 = .ok (.if_icmp .ge 13, 3) := by decide +kernel
theorem dX11_copy_161 : decode cX11_copy 161 = .ok (.iload 5, 2) := by decide +kernel
theorem dX11_copy_163 : decode cX11_copy 163 = .ok (.iconst 1, 1) := by decide +kernel
theorem dX11_copy_164 : decode cX11_copy 164 = .ok (.isub, 1) := by decide +kernel
theorem dX11_copy_165 : decode cX11_copy 165 = .ok (.iload 8, 2) := by decide +kernel
theorem dX11_copy_167 : decode cX11_copy 167 = .ok (.isub, 1) := by decide +kernel
theorem dX11_copy_168 : decode cX11_copy 168 = .ok (.goto 5, 3) := by decide +kernel
theorem dX11_copy_171 : decode cX11_copy 171 = .ok (.iload 8, 2) := by decide +kernel
theorem dX11_copy_173 : decode cX11_copy 173 = .ok (.istore 9, 2) := by decide +kernel
theorem dX11_copy_175 : decode cX11_copy 175 = .ok (.aload_n 0, 1) := by decide +kernel
theorem dX11_copy_176 : decode cX11_copy 176 = .ok (.getfield 47, 3) := by decide +kernel
theorem dX11_copy_179 : decode cX11_copy 179 = .ok (.iload 7, 2) := by decide +kernel
theorem dX11_copy_181 : decode cX11_copy 181 = .ok (.iload 9, 2) := by decide +kernel
theorem dX11_copy_183 : decode cX11_copy 183 = .ok (.iadd, 1) := by decide +kernel
theorem dX11_copy_184 : decode cX11_copy 184 = .ok (.aload_n 0, 1) := by decide +kernel
theorem dX11_copy_185 : decode cX11_copy 185 = .ok (.getfield 47, 3) := by decide +kernel
theorem dX11_copy_188 : decode cX11_copy 188 = .ok (.iload 6, 2) := by decide +kernel
theorem dX11_copy_190 : decode cX11_copy 190 = .ok (.iload 9, 2) := by decide +kernel
theorem dX11_copy_192 : decode cX11_copy 192 = .ok (.iadd, 1) := by decide +kernel
theorem dX11_copy_193 : decode cX11_copy 193 = .ok (.iaload, 1) := by decide +kernel
theorem dX11_copy_194 : decode cX11_copy 194 = .ok (.iastore, 1) := by decide +kernel
theorem dX11_copy_195 : decode cX11_copy 195 = .ok (.iinc 8 1, 3) := by decide +kernel
theorem dX11_copy_198 : decode cX11_copy 198 = .ok (.goto (-51), 3) := by decide +kernel
theorem dX11_copy_201 : decode cX11_copy 201 = .ok (.iload 5, 2) := by decide +kernel
theorem dX11_copy_203 : decode cX11_copy 203 = .ok (.ireturn, 1) := by decide +kernel
theorem dX11_visits_0 : decode cX11_visits 0 = .ok (.iload_n 1, 1) := by decide +kernel
theorem dX11_visits_1 : decode cX11_visits 1 = .ok (.iconst 0, 1) := by decide +kernel
theorem dX11_visits_2 : decode cX11_visits 2 = .ok (.iconst 3, 1) := by decide +kernel
theorem dX11_visits_3 : decode cX11_visits 3 = .ok (.invokestatic 99, 3) := by decide +kernel
theorem dX11_visits_6 : decode cX11_visits 6 = .ok (.ifCond .eq 23, 3) := by decide +kernel
theorem dX11_visits_9 : decode cX11_visits 9 = .ok (.iload_n 2, 1) := by decide +kernel
theorem dX11_visits_10 : decode cX11_visits 10 = .ok (.iconst 0, 1) := by decide +kernel
theorem dX11_visits_11 : decode cX11_visits 11 = .ok (.iconst 2, 1) := by decide +kernel
theorem dX11_visits_12 : decode cX11_visits 12 = .ok (.invokestatic 99, 3) := by decide +kernel
theorem dX11_visits_15 : decode cX11_visits 15 = .ok (.ifCond .eq 14, 3) := by decide +kernel
theorem dX11_visits_18 : decode cX11_visits 18 = .ok (.iload 4, 2) := by decide +kernel
theorem dX11_visits_20 : decode cX11_visits 20 = .ok (.iconst 0, 1) := by decide +kernel
theorem dX11_visits_21 : decode cX11_visits 21 = .ok (.bipush 10, 2) := by decide +kernel
theorem dX11_visits_23 : decode cX11_visits 23 = .ok (.invokestatic 99, 3) := by decide +kernel
theorem dX11_visits_26 : decode cX11_visits 26 = .ok (.ifCond .ne 6, 3) := by decide +kernel
theorem dX11_visits_29 : decode cX11_visits 29 = .ok (.bipush (-2), 2) := by decide +kernel
theorem dX11_visits_31 : decode cX11_visits 31 = .ok (.ireturn, 1) := by decide +kernel
theorem dX11_visits_32 : decode cX11_visits 32 = .ok (.aload_n 0, 1) := by decide +kernel
theorem dX11_visits_33 : decode cX11_visits 33 = .ok (.getfield 41, 3) := by decide +kernel
theorem dX11_visits_36 : decode cX11_visits 36 = .ok (.iload_n 1, 1) := by decide +kernel
theorem dX11_visits_37 : decode cX11_visits 37 = .ok (.iaload, 1) := by decide +kernel
theorem dX11_visits_38 : decode cX11_visits 38 = .ok (.iconst (-1), 1) := by decide +kernel
theorem dX11_visits_39 : decode cX11_visits 39 = .ok (.if_icmp .ne 6, 3) := by decide +kernel
theorem dX11_visits_42 : decode cX11_visits 42 = .ok (.bipush (-11), 2) := by decide +kernel
theorem dX11_visits_44 : decode cX11_visits 44 = .ok (.ireturn, 1) := by decide +kernel
theorem dX11_visits_45 : decode cX11_visits 45 = .ok (.aload_n 0, 1) := by decide +kernel
theorem dX11_visits_46 : decode cX11_visits 46 = .ok (.getfield 41, 3) := by decide +kernel
theorem dX11_visits_49 : decode cX11_visits 49 = .ok (.iload_n 1, 1) := by decide +kernel
theorem dX11_visits_50 : decode cX11_visits 50 = .ok (.iaload, 1) := by decide +kernel
theorem dX11_visits_51 : decode cX11_visits 51 = .ok (.iload_n 2, 1) := by decide +kernel
theorem dX11_visits_52 : decode cX11_visits 52 = .ok (.if_icmp .eq 6, 3) := by decide +kernel
theorem dX11_visits_55 : decode cX11_visits 55 = .ok (.bipush (-13), 2) := by decide +kernel
theorem dX11_visits_57 : decode cX11_visits 57 = .ok (.ireturn, 1) := by decide +kernel
theorem dX11_visits_58 : decode cX11_visits 58 = .ok (.iconst 0, 1) := by decide +kernel
theorem dX11_visits_59 : decode cX11_visits 59 = .ok (.istore 5, 2) := by decide +kernel
theorem dX11_visits_61 : decode cX11_visits 61 = .ok (.iconst 0, 1) := by decide +kernel
theorem dX11_visits_62 : decode cX11_visits 62 = .ok (.istore 6, 2) := by decide +kernel
theorem dX11_visits_64 : decode cX11_visits 64 = .ok (.iload 6, 2) := by decide +kernel
theorem dX11_visits_66 : decode cX11_visits 66 = .ok (.iload 4, 2) := by decide +kernel
theorem dX11_visits_68 : decode cX11_visits 68 = .ok (.if_icmp .ge 103, 3) := by decide +kernel
theorem dX11_visits_71 : decode cX11_visits 71 = .ok (.iload_n 3, 1) := by decide +kernel
theorem dX11_visits_72 : decode cX11_visits 72 = .ok (.iconst 4, 1) := by decide +kernel
theorem dX11_visits_73 : decode cX11_visits 73 = .ok (.iload 6, 2) := by decide +kernel
theorem dX11_visits_75 : decode cX11_visits 75 = .ok (.imul, 1) := by decide +kernel
theorem dX11_visits_76 : decode cX11_visits 76 = .ok (.iadd, 1) := by decide +kernel
theorem dX11_visits_77 : decode cX11_visits 77 = .ok (.istore 7, 2) := by decide +kernel
theorem dX11_visits_79 : decode cX11_visits 79 = .ok (.iload_n 3, 1) := by decide +kernel
theorem dX11_visits_80 : decode cX11_visits 80 = .ok (.ifCond .lt 22, 3) := by decide +kernel
theorem dX11_visits_83 : decode cX11_visits 83 = .ok (.iload 7, 2) := by decide +kernel
theorem dX11_visits_85 : decode cX11_visits 85 = .ok (.iload_n 3, 1) := by decide +kernel
theorem dX11_visits_86 : decode cX11_visits 86 = .ok (.if_icmp .lt 16, 3) := by decide +kernel
theorem dX11_visits_89 : decode cX11_visits 89 = .ok (.iload 7, 2) := by decide +kernel
theorem dX11_visits_91 : decode cX11_visits 91 = .ok (.aload_n 0, 1) := by decide +kernel
theorem dX11_visits_92 : decode cX11_visits 92 = .ok (.getfield 44, 3) := by decide +kernel
theorem dX11_visits_95 : decode cX11_visits 95 = .ok (.iload_n 1, 1) := by decide +kernel
theorem dX11_visits_96 : decode cX11_visits 96 = .ok (.iaload, 1) := by decide +kernel
theorem dX11_visits_97 : decode cX11_visits 97 = .ok (.iconst 4, 1) := by decide +kernel
theorem dX11_visits_98 : decode cX11_visits 98 = .ok (.isub, 1) := by decide +kernel
theorem dX11_visits_99 : decode cX11_visits 99 = .ok (.if_icmp .le 6, 3) := by decide +kernel
theorem dX11_visits_102 : decode cX11_visits 102 = .ok (.bipush (-12), 2) := by decide +kernel
theorem dX11_visits_104 : decode cX11_visits 104 = .ok (.ireturn, 1) := by decide +kernel
theorem dX11_visits_105 : decode cX11_visits 105 = .ok (.bipush 40, 2) := by decide +kernel
theorem dX11_visits_107 : decode cX11_visits 107 = .ok (.iload_n 1, 1) := by decide +kernel
theorem dX11_visits_108 : decode cX11_visits 108 = .ok (.imul, 1) := by decide +kernel
theorem dX11_visits_109 : decode cX11_visits 109 = .ok (.iload 7, 2) := by decide +kernel
theorem dX11_visits_111 : decode cX11_visits 111 = .ok (.iadd, 1) := by decide +kernel
theorem dX11_visits_112 : decode cX11_visits 112 = .ok (.istore 8, 2) := by decide +kernel
theorem dX11_visits_114 : decode cX11_visits 114 = .ok (.iload 5, 2) := by decide +kernel
theorem dX11_visits_116 : decode cX11_visits 116 = .ok (.aload_n 0, 1) := by decide +kernel
theorem dX11_visits_117 : decode cX11_visits 117 = .ok (.aload_n 0, 1) := by decide +kernel
theorem dX11_visits_118 : decode cX11_visits 118 = .ok (.getfield 47, 3) := by decide +kernel
theorem dX11_visits_121 : decode cX11_visits 121 = .ok (.iload 8, 2) := by decide +kernel
theorem dX11_visits_123 : decode cX11_visits 123 = .ok (.iaload, 1) := by decide +kernel
theorem dX11_visits_124 : decode cX11_visits 124 = .ok (.aload_n 0, 1) := by decide +kernel
theorem dX11_visits_125 : decode cX11_visits 125 = .ok (.getfield 47, 3) := by decide +kernel
theorem dX11_visits_128 : decode cX11_visits 128 = .ok (.iload 8, 2) := by decide +kernel
theorem dX11_visits_130 : decode cX11_visits 130 = .ok (.iconst 1, 1) := by decide +kernel
theorem dX11_visits_131 : decode cX11_visits 131 = .ok (.iadd, 1) := by decide +kernel
theorem dX11_visits_132 : decode cX11_visits 132 = .ok (.iaload, 1) := by decide +kernel
theorem dX11_visits_133 : decode cX11_visits 133 = .ok (.aload_n 0, 1) := by decide +kernel
theorem dX11_visits_134 : decode cX11_visits 134 = .ok (.getfield 47, 3) := by decide +kernel
theorem dX11_visits_137 : decode cX11_visits 137 = .ok (.iload 8, 2) := by decide +kernel
theorem dX11_visits_139 : decode cX11_visits 139 = .ok (.iconst 2, 1) := by decide +kernel
theorem dX11_visits_140 : decode cX11_visits 140 = .ok (.iadd, 1) := by decide +kernel
theorem dX11_visits_141 : decode cX11_visits 141 = .ok (.iaload, 1) := by decide +kernel
theorem dX11_visits_142 : decode cX11_visits 142 = .ok (.aload_n 0, 1) := by decide +kernel
theorem dX11_visits_143 : decode cX11_visits 143 = .ok (.getfield 47, 3) := by decide +kernel
theorem dX11_visits_146 : decode cX11_visits 146 = .ok (.iload 8, 2) := by decide +kernel
theorem dX11_visits_148 : decode cX11_visits 148 = .ok (.iconst 3, 1) := by decide +kernel
theorem dX11_visits_149 : decode cX11_visits 149 = .ok (.iadd, 1) := by decide +kernel
theorem dX11_visits_150 : decode cX11_visits 150 = .ok (.iaload, 1) := by decide +kernel
theorem dX11_visits_151 : decode cX11_visits 151 = .ok (.invokevirtual 297, 3) := by decide +kernel
theorem dX11_visits_154 : decode cX11_visits 154 = .ok (.ifCond .lt 7, 3) := by decide +kernel
theorem dX11_visits_157 : decode cX11_visits 157 = .ok (.iconst 1, 1) := by decide +kernel
theorem dX11_visits_158 : decode cX11_visits 158 = .ok (.goto 4, 3) := by decide +kernel
theorem dX11_visits_161 : decode cX11_visits 161 = .ok (.iconst 0, 1) := by decide +kernel
theorem dX11_visits_162 : decode cX11_visits 162 = .ok (.iadd, 1) := by decide +kernel
theorem dX11_visits_163 : decode cX11_visits 163 = .ok (.istore 5, 2) := by decide +kernel
theorem dX11_visits_165 : decode cX11_visits 165 = .ok (.iinc 6 1, 3) := by decide +kernel
theorem dX11_visits_168 : decode cX11_visits 168 = .ok (.goto (-104), 3) := by decide +kernel
theorem dX11_visits_171 : decode cX11_visits 171 = .ok (.iload 5, 2) := by decide +kernel
theorem dX11_visits_173 : decode cX11_visits 173 = .ok (.ireturn, 1) := by decide +kernel
theorem dX11_isUnder_0 : decode cX11_isUnder 0 = .ok (.iload_n 1, 1) := by decide +kernel
theorem dX11_isUnder_1 : decode cX11_isUnder 1 = .ok (.ifCond .eq 43, 3) := by decide +kernel
theorem dX11_isUnder_4 : decode cX11_isUnder 4 = .ok (.iload_n 0, 1) := by decide +kernel
theorem dX11_isUnder_5 : decode cX11_isUnder 5 = .ok (.iload_n 1, 1) := by decide +kernel
theorem dX11_isUnder_6 : decode cX11_isUnder 6 = .ok (.if_icmp .eq 38, 3) := by decide +kernel
theorem dX11_isUnder_9 : decode cX11_isUnder 9 = .ok (.iload_n 1, 1) := by decide +kernel
theorem dX11_isUnder_10 : decode cX11_isUnder 10 = .ok (.iconst 1, 1) := by decide +kernel
theorem dX11_isUnder_11 : decode cX11_isUnder 11 = .ok (.if_icmp .ne 13, 3) := by decide +kernel
theorem dX11_isUnder_14 : decode cX11_isUnder 14 = .ok (.iload_n 0, 1) := by decide +kernel
theorem dX11_isUnder_15 : decode cX11_isUnder 15 = .ok (.iconst 3, 1) := by decide +kernel
theorem dX11_isUnder_16 : decode cX11_isUnder 16 = .ok (.if_icmp .eq 28, 3) := by decide +kernel
theorem dX11_isUnder_19 : decode cX11_isUnder 19 = .ok (.iload_n 0, 1) := by decide +kernel
theorem dX11_isUnder_20 : decode cX11_isUnder 20 = .ok (.iconst 5, 1) := by decide +kernel
theorem dX11_isUnder_21 : decode cX11_isUnder 21 = .ok (.if_icmp .eq 23, 3) := by decide +kernel
theorem dX11_isUnder_24 : decode cX11_isUnder 24 = .ok (.iload_n 1, 1) := by decide +kernel
theorem dX11_isUnder_25 : decode cX11_isUnder 25 = .ok (.iconst 2, 1) := by decide +kernel
theorem dX11_isUnder_26 : decode cX11_isUnder 26 = .ok (.if_icmp .ne 8, 3) := by decide +kernel
theorem dX11_isUnder_29 : decode cX11_isUnder 29 = .ok (.iload_n 0, 1) := by decide +kernel
theorem dX11_isUnder_30 : decode cX11_isUnder 30 = .ok (.iconst 4, 1) := by decide +kernel
theorem dX11_isUnder_31 : decode cX11_isUnder 31 = .ok (.if_icmp .eq 13, 3) := by decide +kernel
theorem dX11_isUnder_34 : decode cX11_isUnder 34 = .ok (.iload_n 1, 1) := by decide +kernel
theorem dX11_isUnder_35 : decode cX11_isUnder 35 = .ok (.iconst 3, 1) := by decide +kernel
theorem dX11_isUnder_36 : decode cX11_isUnder 36 = .ok (.if_icmp .ne 12, 3) := by decide +kernel
theorem dX11_isUnder_39 : decode cX11_isUnder 39 = .ok (.iload_n 0, 1) := by decide +kernel
theorem dX11_isUnder_40 : decode cX11_isUnder 40 = .ok (.iconst 5, 1) := by decide +kernel
theorem dX11_isUnder_41 : decode cX11_isUnder 41 = .ok (.if_icmp .ne 7, 3) := by decide +kernel
theorem dX11_isUnder_44 : decode cX11_isUnder 44 = .ok (.iconst 1, 1) := by decide +kernel
theorem dX11_isUnder_45 : decode cX11_isUnder 45 = .ok (.goto 4, 3) := by decide +kernel
theorem dX11_isUnder_48 : decode cX11_isUnder 48 = .ok (.iconst 0, 1) := by decide +kernel
theorem dX11_isUnder_49 : decode cX11_isUnder 49 = .ok (.ireturn, 1) := by decide +kernel
theorem dX11_taken_0 : decode cX11_taken 0 = .ok (.iload_n 2, 1) := by decide +kernel
theorem dX11_taken_1 : decode cX11_taken 1 = .ok (.iconst 0, 1) := by decide +kernel
theorem dX11_taken_2 : decode cX11_taken 2 = .ok (.iconst 5, 1) := by decide +kernel
theorem dX11_taken_3 : decode cX11_taken 3 = .ok (.invokestatic 99, 3) := by decide +kernel
theorem dX11_taken_6 : decode cX11_taken 6 = .ok (.ifCond .ne 6, 3) := by decide +kernel
theorem dX11_taken_9 : decode cX11_taken 9 = .ok (.bipush (-2), 2) := by decide +kernel
theorem dX11_taken_11 : decode cX11_taken 11 = .ok (.ireturn, 1) := by decide +kernel
theorem dX11_taken_12 : decode cX11_taken 12 = .ok (.aload_n 0, 1) := by decide +kernel
theorem dX11_taken_13 : decode cX11_taken 13 = .ok (.iload_n 1, 1) := by decide +kernel
theorem dX11_taken_14 : decode cX11_taken 14 = .ok (.invokevirtual 114, 3) := by decide +kernel
theorem dX11_taken_17 : decode cX11_taken 17 = .ok (.ifCond .ne 6, 3) := by decide +kernel
theorem dX11_taken_20 : decode cX11_taken 20 = .ok (.bipush (-11), 2) := by decide +kernel
theorem dX11_taken_22 : decode cX11_taken 22 = .ok (.ireturn, 1) := by decide +kernel
theorem dX11_taken_23 : decode cX11_taken 23 = .ok (.aload_n 0, 1) := by decide +kernel
theorem dX11_taken_24 : decode cX11_taken 24 = .ok (.iload_n 1, 1) := by decide +kernel
theorem dX11_taken_25 : decode cX11_taken 25 = .ok (.iconst 0, 1) := by decide +kernel
theorem dX11_taken_26 : decode cX11_taken 26 = .ok (.invokevirtual 106, 3) := by decide +kernel
theorem dX11_taken_29 : decode cX11_taken 29 = .ok (.iload_n 2, 1) := by decide +kernel
theorem dX11_taken_30 : decode cX11_taken 30 = .ok (.invokestatic 301, 3) := by decide +kernel
theorem dX11_taken_33 : decode cX11_taken 33 = .ok (.ifCond .eq 17, 3) := by decide +kernel
theorem dX11_taken_36 : decode cX11_taken 36 = .ok (.aload_n 0, 1) := by decide +kernel
theorem dX11_taken_37 : decode cX11_taken 37 = .ok (.getfield 53, 3) := by decide +kernel
theorem dX11_taken_40 : decode cX11_taken 40 = .ok (.aload_n 0, 1) := by decide +kernel
theorem dX11_taken_41 : decode cX11_taken 41 = .ok (.iload_n 1, 1) := by decide +kernel
theorem dX11_taken_42 : decode cX11_taken 42 = .ok (.iconst 0, 1) := by decide +kernel
theorem dX11_taken_43 : decode cX11_taken 43 = .ok (.invokevirtual 106, 3) := by decide +kernel
theorem dX11_taken_46 : decode cX11_taken 46 = .ok (.iaload, 1) := by decide +kernel
theorem dX11_taken_47 : decode cX11_taken 47 = .ok (.goto 5, 3) := by decide +kernel
theorem dX11_taken_50 : decode cX11_taken 50 = .ok (.bipush (-13), 2) := by decide +kernel
theorem dX11_taken_52 : decode cX11_taken 52 = .ok (.ireturn, 1) := by decide +kernel
section WK
variable {p : Program} {l : Launch} {e : Env} {s : State} {m : MethodId} {args : Array Value} {below : List Frame} {meth : Method} {c : Code}
set_option maxHeartbeats 4000000 in
set_option maxRecDepth 20000 in
theorem kX11_standTold (l : Launch) {k : En} {S : Nat → Prop} (hS : ∀ t, S t) {g0 : Mm} {a1 : Int32} {a2 : Int32} {res : Int32} (hf : fX11_standTold g0 a1 a2 = some res) : Mt l yX11_standTold cX11_standTold 3 (some .int) (RmN 2 43) YR S k [.ref (k.1 + adR 0 0 0), .int a1, .int a2] g0 (some (.int res)) g0 := by
  refine Mt.of (by decide) (Nat.le_of_ble_eq_true rfl) ?_
  intro p e s m args below meth c ls X _ h hl
  have X : Cx YR S k p s m args meth c cX11_standTold 3 (some .int) RX11 := X
  have hl : lv_has ls 3 [(0, .ref (k.1 + adR 0 0 0)), (1, .int a1), (2, .int a2)] := hl
  have JR : res = res := rfl
  unfold fX11_standTold at hf
  refine lv_aload_n X.x X.b dX11_standTold_0 rfl (lv_at hl 0 rfl) ?_
  refine lv_iload_n X.x X.b dX11_standTold_1 rfl (lv_at hl 1 rfl) ?_
  obtain ⟨y2, e1, hf⟩ := wBd_s hf
  refine ro_callvI (As := [.int a1]) (g1 := g0) (x := y2) X h (kX11_isStand l hS e1) mv_X11_isStand lk_X11_118 ⟨rfl, rfl⟩ ⟨(Nat.le_of_ble_eq_true rfl), (Nat.le_of_ble_eq_true rfl)⟩ (rR_0 X h (hS 0) Nat.one_pos Nat.one_pos) rfl hl rfl (Nat.le_of_ble_eq_true rfl) ⟨Nat.zero_le _, Nat.zero_le _⟩ dX11_standTold_2 (fun H locs h => ?_)
  refine lv_if_ne (tgt := 11) X.x X.b dX11_standTold_5 (by decide) (fun c3 => ?_) (fun c3 => ?_)
  · have hf := wF c3 hf
    refine lv_iload_n X.x X.b dX11_standTold_11 rfl (lv_at hl 2 rfl) ?_
    refine lv_if_ne (tgt := 28) X.x X.b dX11_standTold_12 (by decide) (fun c4 => ?_) (fun c4 => ?_)
    · have hf := wF c4 hf
      refine lv_iload_n X.x X.b dX11_standTold_28 rfl (lv_at hl 2 rfl) ?_
      refine lv_iconst (v := 1) X.x X.b dX11_standTold_29 (by decide) ?_
      refine lv_icmp_ne (tgt := 46) X.x X.b dX11_standTold_30 (by decide) (fun c5 => ?_) (fun c5 => ?_)
      · have hf := wF c5 hf
        refine lv_bipush (v := (-2)) X.x X.b dX11_standTold_46 (by decide) ?_
        cases (Option.some.inj hf).trans JR
        exact ro_iret X h dX11_standTold_48
      · have hf := wT c5 hf
        refine lv_aload_n X.x X.b dX11_standTold_33 rfl (lv_at hl 0 rfl) ?_
        refine gR_0_0 X h (hS 0) Nat.one_pos Nat.one_pos lk_X11_7 dX11_standTold_34 ?_
        refine lv_sipush (v := 496) X.x X.b dX11_standTold_37 (by decide) ?_
        refine lv_iload_n X.x X.b dX11_standTold_40 rfl (lv_at hl 1 rfl) ?_
        refine lv_iadd X.x X.b dX11_standTold_41 ?_
        obtain ⟨b6, hf⟩ := wGi_s hf
        refine aR_1 X h (hS 1) Nat.one_pos Nat.one_pos b6 dX11_standTold_42 ?_
        refine lv_goto (tgt := 48) X.x X.b dX11_standTold_43 (by decide) ?_
        cases (Option.some.inj hf).trans JR
        exact ro_iret X h dX11_standTold_48
    · have hf := wT c4 hf
      refine lv_aload_n X.x X.b dX11_standTold_15 rfl (lv_at hl 0 rfl) ?_
      refine gR_0_0 X h (hS 0) Nat.one_pos Nat.one_pos lk_X11_7 dX11_standTold_16 ?_
      refine lv_sipush (v := 490) X.x X.b dX11_standTold_19 (by decide) ?_
      refine lv_iload_n X.x X.b dX11_standTold_22 rfl (lv_at hl 1 rfl) ?_
      refine lv_iadd X.x X.b dX11_standTold_23 ?_
      obtain ⟨b7, hf⟩ := wGi_s hf
      refine aR_1 X h (hS 1) Nat.one_pos Nat.one_pos b7 dX11_standTold_24 ?_
      refine lv_goto (tgt := 48) X.x X.b dX11_standTold_25 (by decide) ?_
      cases (Option.some.inj hf).trans JR
      exact ro_iret X h dX11_standTold_48
  · have hf := wT c3 hf
    refine lv_bipush (v := (-3)) X.x X.b dX11_standTold_8 (by decide) ?_
    cases (Option.some.inj hf).trans JR
    exact ro_iret X h dX11_standTold_10
set_option maxHeartbeats 4000000 in
set_option maxRecDepth 20000 in
theorem kX11_runwayTold (l : Launch) {k : En} {S : Nat → Prop} (hS : ∀ t, S t) {g0 : Mm} {a1 : Int32} {a2 : Int32} {res : Int32} (hf : fX11_runwayTold g0 a1 a2 = some res) : Mt l yX11_runwayTold cX11_runwayTold 3 (some .int) (RmN 1 22) YR S k [.ref (k.1 + adR 0 0 0), .int a1, .int a2] g0 (some (.int res)) g0 := by
  refine Mt.of (by decide) (Nat.le_of_ble_eq_true rfl) ?_
  intro p e s m args below meth c ls X _ h hl
  have X : Cx YR S k p s m args meth c cX11_runwayTold 3 (some .int) RX11 := X
  have hl : lv_has ls 3 [(0, .ref (k.1 + adR 0 0 0)), (1, .int a1), (2, .int a2)] := hl
  have JR : res = res := rfl
  unfold fX11_runwayTold at hf
  refine lv_iload_n X.x X.b dX11_runwayTold_0 rfl (lv_at hl 1 rfl) ?_
  refine lv_iconst (v := 0) X.x X.b dX11_runwayTold_1 (by decide) ?_
  refine lv_iconst (v := 1) X.x X.b dX11_runwayTold_2 (by decide) ?_
  obtain ⟨y2, e1, hf⟩ := wBd_s hf
  refine ro_callsI (As := [.int a1, .int (0 : Int32), .int (1 : Int32)]) (g1 := g0) (x := y2) X h (kX11_in l hS e1) mv_X11_in lk_X11_99 ⟨rfl, rfl⟩ ⟨(Nat.le_of_ble_eq_true rfl), (Nat.le_of_ble_eq_true rfl)⟩ rfl hl rfl (Nat.le_of_ble_eq_true rfl) ⟨Nat.zero_le _, Nat.zero_le _⟩ dX11_runwayTold_3 (fun H locs h => ?_)
  refine lv_if_ne (tgt := 12) X.x X.b dX11_runwayTold_6 (by decide) (fun c3 => ?_) (fun c3 => ?_)
  · have hf := wF c3 hf
    refine lv_iload_n X.x X.b dX11_runwayTold_12 rfl (lv_at hl 2 rfl) ?_
    refine lv_if_ne (tgt := 29) X.x X.b dX11_runwayTold_13 (by decide) (fun c4 => ?_) (fun c4 => ?_)
    · have hf := wF c4 hf
      refine lv_iload_n X.x X.b dX11_runwayTold_29 rfl (lv_at hl 2 rfl) ?_
      refine lv_iconst (v := 1) X.x X.b dX11_runwayTold_30 (by decide) ?_
      refine lv_icmp_ne (tgt := 47) X.x X.b dX11_runwayTold_31 (by decide) (fun c5 => ?_) (fun c5 => ?_)
      · have hf := wF c5 hf
        refine lv_bipush (v := (-2)) X.x X.b dX11_runwayTold_47 (by decide) ?_
        cases (Option.some.inj hf).trans JR
        exact ro_iret X h dX11_runwayTold_49
      · have hf := wT c5 hf
        refine lv_aload_n X.x X.b dX11_runwayTold_34 rfl (lv_at hl 0 rfl) ?_
        refine gR_0_0 X h (hS 0) Nat.one_pos Nat.one_pos lk_X11_7 dX11_runwayTold_35 ?_
        refine lv_sipush (v := 462) X.x X.b dX11_runwayTold_38 (by decide) ?_
        refine lv_iload_n X.x X.b dX11_runwayTold_41 rfl (lv_at hl 1 rfl) ?_
        refine lv_iadd X.x X.b dX11_runwayTold_42 ?_
        obtain ⟨b6, hf⟩ := wGi_s hf
        refine aR_1 X h (hS 1) Nat.one_pos Nat.one_pos b6 dX11_runwayTold_43 ?_
        refine lv_goto (tgt := 49) X.x X.b dX11_runwayTold_44 (by decide) ?_
        cases (Option.some.inj hf).trans JR
        exact ro_iret X h dX11_runwayTold_49
    · have hf := wT c4 hf
      refine lv_aload_n X.x X.b dX11_runwayTold_16 rfl (lv_at hl 0 rfl) ?_
      refine gR_0_0 X h (hS 0) Nat.one_pos Nat.one_pos lk_X11_7 dX11_runwayTold_17 ?_
      refine lv_sipush (v := 460) X.x X.b dX11_runwayTold_20 (by decide) ?_
      refine lv_iload_n X.x X.b dX11_runwayTold_23 rfl (lv_at hl 1 rfl) ?_
      refine lv_iadd X.x X.b dX11_runwayTold_24 ?_
      obtain ⟨b7, hf⟩ := wGi_s hf
      refine aR_1 X h (hS 1) Nat.one_pos Nat.one_pos b7 dX11_runwayTold_25 ?_
      refine lv_goto (tgt := 49) X.x X.b dX11_runwayTold_26 (by decide) ?_
      cases (Option.some.inj hf).trans JR
      exact ro_iret X h dX11_runwayTold_49
  · have hf := wT c3 hf
    refine lv_bipush (v := (-3)) X.x X.b dX11_runwayTold_9 (by decide) ?_
    cases (Option.some.inj hf).trans JR
    exact ro_iret X h dX11_runwayTold_11
set_option maxHeartbeats 4000000 in
set_option maxRecDepth 20000 in
theorem kX11_ticks_ (l : Launch) {k : En} {S : Nat → Prop} (hS : ∀ t, S t) {g0 : Mm} {a1 : Int32} {a2 : Int32} {res : Int32} (hf : fX11_ticks_ g0 a1 a2 = some res) : Mt l yX11_ticks_ cX11_ticks_ 3 (some .int) (RmN 1 22) YR S k [.ref (k.1 + adR 0 0 0), .int a1, .int a2] g0 (some (.int res)) g0 := by
  refine Mt.of (by decide) (Nat.le_of_ble_eq_true rfl) ?_
  intro p e s m args below meth c ls X _ h hl
  have X : Cx YR S k p s m args meth c cX11_ticks_ 3 (some .int) RX11 := X
  have hl : lv_has ls 3 [(0, .ref (k.1 + adR 0 0 0)), (1, .int a1), (2, .int a2)] := hl
  have JR : res = res := rfl
  unfold fX11_ticks_ at hf
  refine lv_iload_n X.x X.b dX11_ticks__0 rfl (lv_at hl 1 rfl) ?_
  refine lv_iconst (v := 0) X.x X.b dX11_ticks__1 (by decide) ?_
  refine lv_iconst (v := 5) X.x X.b dX11_ticks__2 (by decide) ?_
  obtain ⟨y2, e1, hf⟩ := wBd_s hf
  refine ro_callsI (As := [.int a1, .int (0 : Int32), .int (5 : Int32)]) (g1 := g0) (x := y2) X h (kX11_in l hS e1) mv_X11_in lk_X11_99 ⟨rfl, rfl⟩ ⟨(Nat.le_of_ble_eq_true rfl), (Nat.le_of_ble_eq_true rfl)⟩ rfl hl rfl (Nat.le_of_ble_eq_true rfl) ⟨Nat.zero_le _, Nat.zero_le _⟩ dX11_ticks__3 (fun H locs h => ?_)
  refine lv_if_eq (tgt := 33) X.x X.b dX11_ticks__6 (by decide) (fun c3 => ?_) (fun c3 => ?_)
  · have hf := wT c3 hf
    refine lv_bipush (v := (-2)) X.x X.b dX11_ticks__33 (by decide) ?_
    cases (Option.some.inj hf).trans JR
    exact ro_iret X h dX11_ticks__35
  · have hf := wF c3 hf
    refine lv_iload_n X.x X.b dX11_ticks__9 rfl (lv_at hl 2 rfl) ?_
    refine lv_iconst (v := 0) X.x X.b dX11_ticks__10 (by decide) ?_
    refine lv_bipush (v := 7) X.x X.b dX11_ticks__11 (by decide) ?_
    obtain ⟨y5, e4, hf⟩ := wBd_s hf
    refine ro_callsI (As := [.int a2, .int (0 : Int32), .int (7 : Int32)]) (g1 := g0) (x := y5) X h (kX11_in l hS e4) mv_X11_in lk_X11_99 ⟨rfl, rfl⟩ ⟨(Nat.le_of_ble_eq_true rfl), (Nat.le_of_ble_eq_true rfl)⟩ rfl hl rfl (Nat.le_of_ble_eq_true rfl) ⟨Nat.zero_le _, Nat.zero_le _⟩ dX11_ticks__13 (fun H locs h => ?_)
    refine lv_if_eq (tgt := 33) X.x X.b dX11_ticks__16 (by decide) (fun c6 => ?_) (fun c6 => ?_)
    · have hf := wT c6 hf
      refine lv_bipush (v := (-2)) X.x X.b dX11_ticks__33 (by decide) ?_
      cases (Option.some.inj hf).trans JR
      exact ro_iret X h dX11_ticks__35
    · have hf := wF c6 hf
      refine lv_aload_n X.x X.b dX11_ticks__19 rfl (lv_at hl 0 rfl) ?_
      refine gR_0_20 X h (hS 0) Nat.one_pos Nat.one_pos lk_X11_50 dX11_ticks__20 ?_
      refine lv_bipush (v := 8) X.x X.b dX11_ticks__23 (by decide) ?_
      refine lv_iload_n X.x X.b dX11_ticks__25 rfl (lv_at hl 1 rfl) ?_
      refine lv_imul X.x X.b dX11_ticks__26 ?_
      refine lv_iload_n X.x X.b dX11_ticks__27 rfl (lv_at hl 2 rfl) ?_
      refine lv_iadd X.x X.b dX11_ticks__28 ?_
      obtain ⟨b7, hf⟩ := wGi_s hf
      refine aR_13 X h (hS 13) Nat.one_pos Nat.one_pos b7 dX11_ticks__29 ?_
      refine lv_goto (tgt := 35) X.x X.b dX11_ticks__30 (by decide) ?_
      cases (Option.some.inj hf).trans JR
      exact ro_iret X h dX11_ticks__35
set_option maxHeartbeats 4000000 in
set_option maxRecDepth 20000 in
theorem kX11_kindTold (l : Launch) {k : En} {S : Nat → Prop} (hS : ∀ t, S t) {g0 : Mm} {a1 : Int32} {a2 : Int32} {res : Int32} (hf : fX11_kindTold g0 a1 a2 = some res) : Mt l yX11_kindTold cX11_kindTold 3 (some .int) (RmN 1 22) YR S k [.ref (k.1 + adR 0 0 0), .int a1, .int a2] g0 (some (.int res)) g0 := by
  refine Mt.of (by decide) (Nat.le_of_ble_eq_true rfl) ?_
  intro p e s m args below meth c ls X _ h hl
  have X : Cx YR S k p s m args meth c cX11_kindTold 3 (some .int) RX11 := X
  have hl : lv_has ls 3 [(0, .ref (k.1 + adR 0 0 0)), (1, .int a1), (2, .int a2)] := hl
  have JR : res = res := rfl
  unfold fX11_kindTold at hf
  refine lv_iload_n X.x X.b dX11_kindTold_0 rfl (lv_at hl 1 rfl) ?_
  refine lv_iconst (v := 0) X.x X.b dX11_kindTold_1 (by decide) ?_
  refine lv_iconst (v := 5) X.x X.b dX11_kindTold_2 (by decide) ?_
  obtain ⟨y2, e1, hf⟩ := wBd_s hf
  refine ro_callsI (As := [.int a1, .int (0 : Int32), .int (5 : Int32)]) (g1 := g0) (x := y2) X h (kX11_in l hS e1) mv_X11_in lk_X11_99 ⟨rfl, rfl⟩ ⟨(Nat.le_of_ble_eq_true rfl), (Nat.le_of_ble_eq_true rfl)⟩ rfl hl rfl (Nat.le_of_ble_eq_true rfl) ⟨Nat.zero_le _, Nat.zero_le _⟩ dX11_kindTold_3 (fun H locs h => ?_)
  refine lv_if_eq (tgt := 18) X.x X.b dX11_kindTold_6 (by decide) (fun c3 => ?_) (fun c3 => ?_)
  · have hf := wT c3 hf
    refine lv_bipush (v := (-2)) X.x X.b dX11_kindTold_18 (by decide) ?_
    cases (Option.some.inj hf).trans JR
    exact ro_iret X h dX11_kindTold_20
  · have hf := wF c3 hf
    refine lv_iload_n X.x X.b dX11_kindTold_9 rfl (lv_at hl 2 rfl) ?_
    refine lv_iconst (v := 0) X.x X.b dX11_kindTold_10 (by decide) ?_
    refine lv_iconst (v := 1) X.x X.b dX11_kindTold_11 (by decide) ?_
    obtain ⟨y5, e4, hf⟩ := wBd_s hf
    refine ro_callsI (As := [.int a2, .int (0 : Int32), .int (1 : Int32)]) (g1 := g0) (x := y5) X h (kX11_in l hS e4) mv_X11_in lk_X11_99 ⟨rfl, rfl⟩ ⟨(Nat.le_of_ble_eq_true rfl), (Nat.le_of_ble_eq_true rfl)⟩ rfl hl rfl (Nat.le_of_ble_eq_true rfl) ⟨Nat.zero_le _, Nat.zero_le _⟩ dX11_kindTold_12 (fun H locs h => ?_)
    refine lv_if_ne (tgt := 21) X.x X.b dX11_kindTold_15 (by decide) (fun c6 => ?_) (fun c6 => ?_)
    · have hf := wF c6 hf
      refine lv_iload_n X.x X.b dX11_kindTold_21 rfl (lv_at hl 2 rfl) ?_
      refine lv_if_ne (tgt := 34) X.x X.b dX11_kindTold_22 (by decide) (fun c7 => ?_) (fun c7 => ?_)
      · have hf := wF c7 hf
        refine lv_aload_n X.x X.b dX11_kindTold_34 rfl (lv_at hl 0 rfl) ?_
        refine gR_0_22 X h (hS 0) Nat.one_pos Nat.one_pos lk_X11_56 dX11_kindTold_35 ?_
        refine lv_iload_n X.x X.b dX11_kindTold_38 rfl (lv_at hl 1 rfl) ?_
        obtain ⟨b8, hf⟩ := wGi_s hf
        refine aR_15 X h (hS 15) Nat.one_pos Nat.one_pos b8 dX11_kindTold_39 ?_
        cases (Option.some.inj hf).trans JR
        exact ro_iret X h dX11_kindTold_40
      · have hf := wT c7 hf
        refine lv_aload_n X.x X.b dX11_kindTold_25 rfl (lv_at hl 0 rfl) ?_
        refine gR_0_21 X h (hS 0) Nat.one_pos Nat.one_pos lk_X11_53 dX11_kindTold_26 ?_
        refine lv_iload_n X.x X.b dX11_kindTold_29 rfl (lv_at hl 1 rfl) ?_
        obtain ⟨b9, hf⟩ := wGi_s hf
        refine aR_14 X h (hS 14) Nat.one_pos Nat.one_pos b9 dX11_kindTold_30 ?_
        refine lv_goto (tgt := 40) X.x X.b dX11_kindTold_31 (by decide) ?_
        cases (Option.some.inj hf).trans JR
        exact ro_iret X h dX11_kindTold_40
    · have hf := wT c6 hf
      refine lv_bipush (v := (-2)) X.x X.b dX11_kindTold_18 (by decide) ?_
      cases (Option.some.inj hf).trans JR
      exact ro_iret X h dX11_kindTold_20
set_option maxHeartbeats 4000000 in
set_option maxRecDepth 20000 in
theorem kX11_trucks (l : Launch) {k : En} {S : Nat → Prop} (hS : ∀ t, S t) {g0 : Mm} {a1 : Int32} {a2 : Int32} {res : Int32} (hf : fX11_trucks g0 a1 a2 = some res) : Mt l yX11_trucks cX11_trucks 3 (some .int) (RmN 1 22) YR S k [.ref (k.1 + adR 0 0 0), .int a1, .int a2] g0 (some (.int res)) g0 := by
  refine Mt.of (by decide) (Nat.le_of_ble_eq_true rfl) ?_
  intro p e s m args below meth c ls X _ h hl
  have X : Cx YR S k p s m args meth c cX11_trucks 3 (some .int) RX11 := X
  have hl : lv_has ls 3 [(0, .ref (k.1 + adR 0 0 0)), (1, .int a1), (2, .int a2)] := hl
  have JR : res = res := rfl
  unfold fX11_trucks at hf
  refine lv_iload_n X.x X.b dX11_trucks_0 rfl (lv_at hl 1 rfl) ?_
  refine lv_iconst (v := 0) X.x X.b dX11_trucks_1 (by decide) ?_
  refine lv_iconst (v := 4) X.x X.b dX11_trucks_2 (by decide) ?_
  obtain ⟨y2, e1, hf⟩ := wBd_s hf
  refine ro_callsI (As := [.int a1, .int (0 : Int32), .int (4 : Int32)]) (g1 := g0) (x := y2) X h (kX11_in l hS e1) mv_X11_in lk_X11_99 ⟨rfl, rfl⟩ ⟨(Nat.le_of_ble_eq_true rfl), (Nat.le_of_ble_eq_true rfl)⟩ rfl hl rfl (Nat.le_of_ble_eq_true rfl) ⟨Nat.zero_le _, Nat.zero_le _⟩ dX11_trucks_3 (fun H locs h => ?_)
  refine lv_if_ne (tgt := 12) X.x X.b dX11_trucks_6 (by decide) (fun c3 => ?_) (fun c3 => ?_)
  · have hf := wF c3 hf
    refine lv_iload_n X.x X.b dX11_trucks_12 rfl (lv_at hl 2 rfl) ?_
    refine lv_if_ne (tgt := 29) X.x X.b dX11_trucks_13 (by decide) (fun c4 => ?_) (fun c4 => ?_)
    · have hf := wF c4 hf
      refine lv_iload_n X.x X.b dX11_trucks_29 rfl (lv_at hl 2 rfl) ?_
      refine lv_iconst (v := 1) X.x X.b dX11_trucks_30 (by decide) ?_
      refine lv_icmp_ne (tgt := 47) X.x X.b dX11_trucks_31 (by decide) (fun c5 => ?_) (fun c5 => ?_)
      · have hf := wF c5 hf
        refine lv_bipush (v := (-2)) X.x X.b dX11_trucks_47 (by decide) ?_
        cases (Option.some.inj hf).trans JR
        exact ro_iret X h dX11_trucks_49
      · have hf := wT c5 hf
        refine lv_aload_n X.x X.b dX11_trucks_34 rfl (lv_at hl 0 rfl) ?_
        refine gR_0_0 X h (hS 0) Nat.one_pos Nat.one_pos lk_X11_7 dX11_trucks_35 ?_
        refine lv_sipush (v := 475) X.x X.b dX11_trucks_38 (by decide) ?_
        refine lv_iload_n X.x X.b dX11_trucks_41 rfl (lv_at hl 1 rfl) ?_
        refine lv_iadd X.x X.b dX11_trucks_42 ?_
        obtain ⟨b6, hf⟩ := wGi_s hf
        refine aR_1 X h (hS 1) Nat.one_pos Nat.one_pos b6 dX11_trucks_43 ?_
        refine lv_goto (tgt := 49) X.x X.b dX11_trucks_44 (by decide) ?_
        cases (Option.some.inj hf).trans JR
        exact ro_iret X h dX11_trucks_49
    · have hf := wT c4 hf
      refine lv_aload_n X.x X.b dX11_trucks_16 rfl (lv_at hl 0 rfl) ?_
      refine gR_0_0 X h (hS 0) Nat.one_pos Nat.one_pos lk_X11_7 dX11_trucks_17 ?_
      refine lv_sipush (v := 470) X.x X.b dX11_trucks_20 (by decide) ?_
      refine lv_iload_n X.x X.b dX11_trucks_23 rfl (lv_at hl 1 rfl) ?_
      refine lv_iadd X.x X.b dX11_trucks_24 ?_
      obtain ⟨b7, hf⟩ := wGi_s hf
      refine aR_1 X h (hS 1) Nat.one_pos Nat.one_pos b7 dX11_trucks_25 ?_
      refine lv_goto (tgt := 49) X.x X.b dX11_trucks_26 (by decide) ?_
      cases (Option.some.inj hf).trans JR
      exact ro_iret X h dX11_trucks_49
  · have hf := wT c3 hf
    refine lv_bipush (v := (-3)) X.x X.b dX11_trucks_9 (by decide) ?_
    cases (Option.some.inj hf).trans JR
    exact ro_iret X h dX11_trucks_11
set_option maxHeartbeats 4000000 in
set_option maxRecDepth 20000 in
theorem wX11_lays_b40 {k : En} {S : Nat → Prop} (hS : ∀ t, S t) {a1 : Int32} {res : Mm} (X : Cx YR S k p s m args meth c cX11_lays 3 none RX11) {g : Mm} {x2 : Int32} {H : Heap} {locs : List Loc} {ls : Array Slot} (h : Hx YR S k s g H locs) (hl : lv_has ls 3 [(0, .ref (k.1 + adR 0 0 0)), (1, .int a1), (2, .int x2)]) {r : (Mm × Int32) ⊕ (Mm)} (hf : fX11_lays_b40 g a1 x2 = some r) (J1 : ∀ (g : Mm) (x2 : Int32), r = .inl (g, x2) → ∀ (H : Heap) (locs : List Loc) (ls : Array Slot), Hx YR S k s g H locs → lv_has ls 3 [(0, .ref (k.1 + adR 0 0 0)), (1, .int a1), (2, .int x2)] → W p l e (RmN 0 0) s m args below meth c H locs 0 0 (Fin YR S k args s below none res) (F0 m 2 ls [])) (JR : ∀ t1, r = .inr t1 → t1 = res) :
    W p l e (RmN 0 0) s m args below meth c H locs 0 0 (Fin YR S k args s below none res) (F0 m 40 ls []) := by
  unfold fX11_lays_b40 at hf
  obtain ⟨y11, e12, hf⟩ := wLe_s hf
  refine lv_iinc (v := y11) (lv' := [(2, .int y11), (0, .ref (k.1 + adR 0 0 0)), (1, .int a1)]) X.x X.b dX11_lays_40 hl (k := 2) rfl (by rw [e12]; rfl) (by decide) rfl (fun ls hl => ?_)
  refine lv_goto (tgt := 2) X.x X.b dX11_lays_43 (by decide) ?_
  exact J1 _ _ (Option.some.inj hf).symm _ _ _ h (lv_sub hl [1, 2, 0] rfl)
set_option maxHeartbeats 4000000 in
set_option maxRecDepth 20000 in
theorem wX11_lays_L2 {k : En} {S : Nat → Prop} (hS : ∀ t, S t) {a1 : Int32} {res : Mm} (X : Cx YR S k p s m args meth c cX11_lays 3 none RX11) {r : Mm} (JR : r = res) :
    ∀ (fu : Nat) (g : Mm) (x2 : Int32) (H : Heap) (locs : List Loc) (ls : Array Slot), Hx YR S k s g H locs → lv_has ls 3 [(0, .ref (k.1 + adR 0 0 0)), (1, .int a1), (2, .int x2)] → wLp (fun q => fX11_lays_B2 q.1 a1 q.2) fu (g, x2) = some r → W p l e (RmN 0 0) s m args below meth c H locs 0 0 (Fin YR S k args s below none res) (F0 m 2 ls []) := by
  intro fu
  induction fu with
  | zero => intro g x2 H locs ls h hl hf; exact (wLp_0 hf).elim
  | succ fu ih1 =>
    intro g x2 H locs ls h hl hf
    obtain ⟨r1, hf, hr⟩ := wLp_s hf
    have J1n : ∀ (g : Mm) (x2 : Int32), r1 = .inl (g, x2) → ∀ (H : Heap) (locs : List Loc) (ls : Array Slot), Hx YR S k s g H locs → lv_has ls 3 [(0, .ref (k.1 + adR 0 0 0)), (1, .int a1), (2, .int x2)] → W p l e (RmN 0 0) s m args below meth c H locs 0 0 (Fin YR S k args s below none res) (F0 m 2 ls []) := fun g x2 q H locs ls h hl => by subst q; exact ih1 _ _ _ _ _ h hl hr
    have JRn : ∀ t1, r1 = .inr t1 → t1 = res := fun t1 q => by subst q; obtain rfl := Option.some.inj hr; exact JR
    have J1 := J1n
    have JR := JRn
    clear J1n JRn
    have hf : fX11_lays_B2 g a1 x2 = some r1 := hf
    unfold fX11_lays_B2 at hf
    refine lv_iload_n X.x X.b dX11_lays_2 rfl (lv_at hl 2 rfl) ?_
    refine lv_sipush (v := 510) X.x X.b dX11_lays_3 (by decide) ?_
    refine lv_icmp_ge (tgt := 46) X.x X.b dX11_lays_6 (by decide) (fun c3 => ?_) (fun c3 => ?_)
    · have hf := wT c3 hf
      obtain ⟨t4, hf, e5⟩ := wEx_s hf
      have JR := JR t4 e5
      cases (Option.some.inj hf).trans JR
      exact ro_vret X h dX11_lays_46
    · have hf := wF c3 hf
      refine lv_iload_n X.x X.b dX11_lays_9 rfl (lv_at hl 1 rfl) ?_
      refine lv_if_eq (tgt := 28) X.x X.b dX11_lays_10 (by decide) (fun c6 => ?_) (fun c6 => ?_)
      · have hf := wT c6 hf
        refine lv_aload_n X.x X.b dX11_lays_28 rfl (lv_at hl 0 rfl) ?_
        refine gR_0_36 X h (hS 0) Nat.one_pos Nat.one_pos lk_X11_89 dX11_lays_29 ?_
        refine lv_iload_n X.x X.b dX11_lays_32 rfl (lv_at hl 2 rfl) ?_
        refine lv_aload_n X.x X.b dX11_lays_33 rfl (lv_at hl 0 rfl) ?_
        refine gR_0_0 X h (hS 0) Nat.one_pos Nat.one_pos lk_X11_7 dX11_lays_34 ?_
        refine lv_iload_n X.x X.b dX11_lays_37 rfl (lv_at hl 2 rfl) ?_
        obtain ⟨b7, hf⟩ := wGi_s hf
        refine aR_1 X h (hS 1) Nat.one_pos Nat.one_pos b7 dX11_lays_38 ?_
        obtain ⟨b8, hf⟩ := wGi_s hf
        obtain ⟨g9, e10, hf⟩ := wLe_s hf
        refine bR_22 X h (hS 22) Nat.one_pos Nat.one_pos e10 b8 dX11_lays_39 (fun H locs h => ?_)
        exact wX11_lays_b40 hS X h (lv_sub hl [0, 1, 2] rfl) hf J1 JR
      · have hf := wF c6 hf
        refine lv_aload_n X.x X.b dX11_lays_13 rfl (lv_at hl 0 rfl) ?_
        refine gR_0_0 X h (hS 0) Nat.one_pos Nat.one_pos lk_X11_7 dX11_lays_14 ?_
        refine lv_iload_n X.x X.b dX11_lays_17 rfl (lv_at hl 2 rfl) ?_
        refine lv_aload_n X.x X.b dX11_lays_18 rfl (lv_at hl 0 rfl) ?_
        refine gR_0_36 X h (hS 0) Nat.one_pos Nat.one_pos lk_X11_89 dX11_lays_19 ?_
        refine lv_iload_n X.x X.b dX11_lays_22 rfl (lv_at hl 2 rfl) ?_
        obtain ⟨b13, hf⟩ := wGi_s hf
        refine aR_22 X h (hS 22) Nat.one_pos Nat.one_pos b13 dX11_lays_23 ?_
        obtain ⟨b14, hf⟩ := wGi_s hf
        obtain ⟨g15, e16, hf⟩ := wLe_s hf
        refine bR_1 X h (hS 1) Nat.one_pos Nat.one_pos e16 b14 dX11_lays_24 (fun H locs h => ?_)
        refine lv_goto (tgt := 40) X.x X.b dX11_lays_25 (by decide) ?_
        exact wX11_lays_b40 hS X h (lv_sub hl [0, 1, 2] rfl) hf J1 JR
set_option maxHeartbeats 4000000 in
set_option maxRecDepth 20000 in
theorem kX11_lays (l : Launch) {k : En} {S : Nat → Prop} (hS : ∀ t, S t) {a1 : Int32} {res : Mm} {g : Mm} (hf : fX11_lays g a1 = some res) : Mt l yX11_lays cX11_lays 3 none (RmN 0 0) YR S k [.ref (k.1 + adR 0 0 0), .int a1] g none res := by
  refine Mt.of (by decide) (Nat.le_of_ble_eq_true rfl) ?_
  intro p e s m args below meth c ls X _ h hl
  have X : Cx YR S k p s m args meth c cX11_lays 3 none RX11 := X
  have hl : lv_has ls 3 [(0, .ref (k.1 + adR 0 0 0)), (1, .int a1)] := hl
  have JR : res = res := rfl
  unfold fX11_lays at hf
  refine lv_iconst (v := 0) X.x X.b dX11_lays_0 (by decide) ?_
  obtain ⟨y1, e2, hf⟩ := wLe_s hf
  refine lv_nmi e2 ?_
  refine lv_istore_n (lv' := [(2, .int y1), (0, .ref (k.1 + adR 0 0 0)), (1, .int a1)]) X.x X.b dX11_lays_1 rfl hl (by decide) rfl (fun ls hl => ?_)
  exact wX11_lays_L2 hS X JR _ _ _ _ _ _ h (lv_sub hl [1, 2, 0] rfl) hf
set_option maxHeartbeats 4000000 in
set_option maxRecDepth 20000 in
theorem wX11_outcome_b75 {k : En} {S : Nat → Prop} (hS : ∀ t, S t) {g0 : Mm} {a1 : Int32} {res : Int32} (X : Cx YR S k p s m args meth c cX11_outcome 4 (some .int) RX11) {x3 : Int32} {z0 : Int32} {z1 : Int32} {H : Heap} {locs : List Loc} {ls : Array Slot} (h : Hx YR S k s g0 H locs) (hl : lv_has ls 4 [(0, .ref (k.1 + adR 0 0 0)), (1, .int a1), (3, .int x3)]) {r : (Int32 × Int32) ⊕ (Int32)} (hf : fX11_outcome_b75 g0 a1 x3 z0 z1 = some r) (J1 : ∀ (x2 : Int32) (x3 : Int32), r = .inl (x2, x3) → ∀ (H : Heap) (locs : List Loc) (ls : Array Slot), Hx YR S k s g0 H locs → lv_has ls 4 [(0, .ref (k.1 + adR 0 0 0)), (1, .int a1), (2, .int x2), (3, .int x3)] → W p l e (RmN 3 67) s m args below meth c H locs 0 0 (Fin YR S k args s below (some (.int res)) g0) (F0 m 39 ls [])) (JR : ∀ t1, r = .inr t1 → t1 = res) :
    W p l e (RmN 3 67) s m args below meth c H locs 0 0 (Fin YR S k args s below (some (.int res)) g0) (F0 m 75 ls [.int z1, .int z0]) := by
  unfold fX11_outcome_b75 at hf
  refine lv_iadd X.x X.b dX11_outcome_75 ?_
  obtain ⟨y16, e17, hf⟩ := wLe_s hf
  refine lv_nmi e17 ?_
  refine lv_istore_n (lv' := [(2, .int y16), (0, .ref (k.1 + adR 0 0 0)), (1, .int a1), (3, .int x3)]) X.x X.b dX11_outcome_76 rfl hl (by decide) rfl (fun ls hl => ?_)
  obtain ⟨y18, e19, hf⟩ := wLe_s hf
  refine lv_iinc (v := y18) (lv' := [(3, .int y18), (2, .int y16), (0, .ref (k.1 + adR 0 0 0)), (1, .int a1)]) X.x X.b dX11_outcome_77 hl (k := 3) rfl (by rw [e19]; rfl) (by decide) rfl (fun ls hl => ?_)
  refine lv_goto (tgt := 39) X.x X.b dX11_outcome_80 (by decide) ?_
  exact J1 _ _ (Option.some.inj hf).symm _ _ _ h (lv_sub hl [2, 3, 1, 0] rfl)
set_option maxHeartbeats 4000000 in
set_option maxRecDepth 20000 in
theorem wX11_outcome_b67 {k : En} {S : Nat → Prop} (hS : ∀ t, S t) {g0 : Mm} {a1 : Int32} {res : Int32} (X : Cx YR S k p s m args meth c cX11_outcome 4 (some .int) RX11) {x3 : Int32} {z0 : Int32} {z1 : Int32} {z2 : Int32} {H : Heap} {locs : List Loc} {ls : Array Slot} (h : Hx YR S k s g0 H locs) (hl : lv_has ls 4 [(0, .ref (k.1 + adR 0 0 0)), (1, .int a1), (3, .int x3)]) {r : (Int32 × Int32) ⊕ (Int32)} (hf : fX11_outcome_b67 g0 a1 x3 z0 z1 z2 = some r) (J1 : ∀ (x2 : Int32) (x3 : Int32), r = .inl (x2, x3) → ∀ (H : Heap) (locs : List Loc) (ls : Array Slot), Hx YR S k s g0 H locs → lv_has ls 4 [(0, .ref (k.1 + adR 0 0 0)), (1, .int a1), (2, .int x2), (3, .int x3)] → W p l e (RmN 3 67) s m args below meth c H locs 0 0 (Fin YR S k args s below (some (.int res)) g0) (F0 m 39 ls [])) (JR : ∀ t1, r = .inr t1 → t1 = res) :
    W p l e (RmN 3 67) s m args below meth c H locs 0 0 (Fin YR S k args s below (some (.int res)) g0) (F0 m 67 ls [.int z2, .int z1, .int z0]) := by
  unfold fX11_outcome_b67 at hf
  refine lv_icmp_ne (tgt := 74) X.x X.b dX11_outcome_67 (by decide) (fun c15 => ?_) (fun c15 => ?_)
  · have hf := wF c15 hf
    refine lv_iconst (v := 0) X.x X.b dX11_outcome_74 (by decide) ?_
    exact wX11_outcome_b75 hS X h (lv_sub hl [0, 1, 2] rfl) hf J1 JR
  · have hf := wT c15 hf
    refine lv_iconst (v := 1) X.x X.b dX11_outcome_70 (by decide) ?_
    refine lv_goto (tgt := 75) X.x X.b dX11_outcome_71 (by decide) ?_
    exact wX11_outcome_b75 hS X h (lv_sub hl [0, 1, 2] rfl) hf J1 JR
set_option maxHeartbeats 4000000 in
set_option maxRecDepth 20000 in
theorem wX11_outcome_L39 {k : En} {S : Nat → Prop} (hS : ∀ t, S t) {g0 : Mm} {a1 : Int32} {res : Int32} (X : Cx YR S k p s m args meth c cX11_outcome 4 (some .int) RX11) {r : Int32} (JR : r = res) :
    ∀ (fu : Nat) (x2 : Int32) (x3 : Int32) (H : Heap) (locs : List Loc) (ls : Array Slot), Hx YR S k s g0 H locs → lv_has ls 4 [(0, .ref (k.1 + adR 0 0 0)), (1, .int a1), (2, .int x2), (3, .int x3)] → wLp (fun q => fX11_outcome_B39 g0 a1 q.1 q.2) fu (x2, x3) = some r → W p l e (RmN 3 67) s m args below meth c H locs 0 0 (Fin YR S k args s below (some (.int res)) g0) (F0 m 39 ls []) := by
  intro fu
  induction fu with
  | zero => intro x2 x3 H locs ls h hl hf; exact (wLp_0 hf).elim
  | succ fu ih1 =>
    intro x2 x3 H locs ls h hl hf
    obtain ⟨r1, hf, hr⟩ := wLp_s hf
    have J1n : ∀ (x2 : Int32) (x3 : Int32), r1 = .inl (x2, x3) → ∀ (H : Heap) (locs : List Loc) (ls : Array Slot), Hx YR S k s g0 H locs → lv_has ls 4 [(0, .ref (k.1 + adR 0 0 0)), (1, .int a1), (2, .int x2), (3, .int x3)] → W p l e (RmN 3 67) s m args below meth c H locs 0 0 (Fin YR S k args s below (some (.int res)) g0) (F0 m 39 ls []) := fun x2 x3 q H locs ls h hl => by subst q; exact ih1 _ _ _ _ _ h hl hr
    have JRn : ∀ t1, r1 = .inr t1 → t1 = res := fun t1 q => by subst q; obtain rfl := Option.some.inj hr; exact JR
    have J1 := J1n
    have JR := JRn
    clear J1n JRn
    have hf : fX11_outcome_B39 g0 a1 x2 x3 = some r1 := hf
    unfold fX11_outcome_B39 at hf
    refine lv_iload_n X.x X.b dX11_outcome_39 rfl (lv_at hl 3 rfl) ?_
    refine lv_aload_n X.x X.b dX11_outcome_40 rfl (lv_at hl 0 rfl) ?_
    refine gR_0_1 X h (hS 0) Nat.one_pos Nat.one_pos lk_X11_96 dX11_outcome_41 ?_
    refine lv_icmp_ge (tgt := 83) X.x X.b dX11_outcome_44 (by decide) (fun c9 => ?_) (fun c9 => ?_)
    · have hf := wT c9 hf
      obtain ⟨t10, hf, e11⟩ := wEx_s hf
      have JR := JR t10 e11
      refine lv_iload_n X.x X.b dX11_outcome_83 rfl (lv_at hl 2 rfl) ?_
      cases (Option.some.inj hf).trans JR
      exact ro_iret X h dX11_outcome_84
    · have hf := wF c9 hf
      refine lv_iload_n X.x X.b dX11_outcome_47 rfl (lv_at hl 2 rfl) ?_
      refine lv_aload_n X.x X.b dX11_outcome_48 rfl (lv_at hl 0 rfl) ?_
      refine lv_iload_n X.x X.b dX11_outcome_49 rfl (lv_at hl 3 rfl) ?_
      refine lv_bipush (v := 6) X.x X.b dX11_outcome_50 (by decide) ?_
      obtain ⟨y13, e12, hf⟩ := wBd_s hf
      refine ro_callvI (As := [.int x3, .int (6 : Int32)]) (g1 := g0) (x := y13) X h (kX11_of l hS e12) mv_X11_of lk_X11_106 ⟨rfl, rfl⟩ ⟨(Nat.le_of_ble_eq_true rfl), (Nat.le_of_ble_eq_true rfl)⟩ (rR_0 X h (hS 0) Nat.one_pos Nat.one_pos) rfl hl rfl (Nat.le_of_ble_eq_true rfl) ⟨Nat.zero_le _, Nat.zero_le _⟩ dX11_outcome_52 (fun H locs h => ?_)
      refine lv_iload_n X.x X.b dX11_outcome_55 rfl (lv_at hl 1 rfl) ?_
      refine lv_iconst (v := 1) X.x X.b dX11_outcome_56 (by decide) ?_
      refine lv_icmp_ne (tgt := 65) X.x X.b dX11_outcome_57 (by decide) (fun c14 => ?_) (fun c14 => ?_)
      · have hf := wF c14 hf
        refine lv_bipush (v := 8) X.x X.b dX11_outcome_65 (by decide) ?_
        exact wX11_outcome_b67 hS X h (lv_sub hl [0, 1, 3] rfl) hf J1 JR
      · have hf := wT c14 hf
        refine lv_bipush (v := 7) X.x X.b dX11_outcome_60 (by decide) ?_
        refine lv_goto (tgt := 67) X.x X.b dX11_outcome_62 (by decide) ?_
        exact wX11_outcome_b67 hS X h (lv_sub hl [0, 1, 3] rfl) hf J1 JR
set_option maxHeartbeats 4000000 in
set_option maxRecDepth 20000 in
theorem kX11_outcome (l : Launch) {k : En} {S : Nat → Prop} (hS : ∀ t, S t) {g0 : Mm} {a1 : Int32} {res : Int32} (hf : fX11_outcome g0 a1 = some res) : Mt l yX11_outcome cX11_outcome 4 (some .int) (RmN 3 67) YR S k [.ref (k.1 + adR 0 0 0), .int a1] g0 (some (.int res)) g0 := by
  refine Mt.of (by decide) (Nat.le_of_ble_eq_true rfl) ?_
  intro p e s m args below meth c ls X _ h hl
  have X : Cx YR S k p s m args meth c cX11_outcome 4 (some .int) RX11 := X
  have hl : lv_has ls 4 [(0, .ref (k.1 + adR 0 0 0)), (1, .int a1)] := hl
  have JR : res = res := rfl
  unfold fX11_outcome at hf
  refine lv_iconst (v := 0) X.x X.b dX11_outcome_0 (by decide) ?_
  obtain ⟨y1, e2, hf⟩ := wLe_s hf
  refine lv_nmi e2 ?_
  refine lv_istore_n (lv' := [(2, .int y1), (0, .ref (k.1 + adR 0 0 0)), (1, .int a1)]) X.x X.b dX11_outcome_1 rfl hl (by decide) rfl (fun ls hl => ?_)
  refine lv_iload_n X.x X.b dX11_outcome_2 rfl (lv_at hl 2 rfl) ?_
  by_cases c3 : a1 = (0 : Int32)
  · have hf := wT c3 hf
    refine lv_tableIn (off := 29) (tgt := 32) X.x X.b dX11_outcome_3 (by rw [c3]; decide) (by rw [c3]; decide) (by rw [c3]; rfl) (by decide) ?_
    refine lv_aload_n X.x X.b dX11_outcome_32 rfl (lv_at hl 1 rfl) ?_
    obtain ⟨y5, e4, hf⟩ := wBd_s hf
    refine ro_callvI (As := []) (g1 := g0) (x := y5) X h (kX11_lateOfAll l hS e4) mv_X11_lateOfAll lk_X11_266 ⟨rfl, rfl⟩ ⟨(Nat.le_of_ble_eq_true rfl), (Nat.le_of_ble_eq_true rfl)⟩ (rR_0 X h (hS 0) Nat.one_pos Nat.one_pos) rfl hl rfl (Nat.le_of_ble_eq_true rfl) ⟨Nat.zero_le _, Nat.zero_le _⟩ dX11_outcome_33 (fun H locs h => ?_)
    cases (Option.some.inj hf).trans JR
    exact ro_iret X h dX11_outcome_36
  · have hf := wF c3 hf
    by_cases c6 : a1 = (1 : Int32)
    · have hf := wT c6 hf
      refine lv_tableIn (off := 34) (tgt := 37) X.x X.b dX11_outcome_3 (by rw [c6]; decide) (by rw [c6]; decide) (by rw [c6]; rfl) (by decide) ?_
      refine lv_iconst (v := 0) X.x X.b dX11_outcome_37 (by decide) ?_
      obtain ⟨y7, e8, hf⟩ := wLe_s hf
      refine lv_nmi e8 ?_
      refine lv_istore_n (lv' := [(3, .int y7), (2, .int y1), (0, .ref (k.1 + adR 0 0 0)), (1, .int a1)]) X.x X.b dX11_outcome_38 rfl hl (by decide) rfl (fun ls hl => ?_)
      exact wX11_outcome_L39 hS X JR _ _ _ _ _ _ h (lv_sub hl [2, 3, 1, 0] rfl) hf
    · have hf := wF c6 hf
      by_cases c20 : a1 = (2 : Int32)
      · have hf := wT c20 hf
        refine lv_tableIn (off := 34) (tgt := 37) X.x X.b dX11_outcome_3 (by rw [c20]; decide) (by rw [c20]; decide) (by rw [c20]; rfl) (by decide) ?_
        refine lv_iconst (v := 0) X.x X.b dX11_outcome_37 (by decide) ?_
        obtain ⟨y21, e22, hf⟩ := wLe_s hf
        refine lv_nmi e22 ?_
        refine lv_istore_n (lv' := [(3, .int y21), (2, .int y1), (0, .ref (k.1 + adR 0 0 0)), (1, .int a1)]) X.x X.b dX11_outcome_38 rfl hl (by decide) rfl (fun ls hl => ?_)
        exact wX11_outcome_L39 hS X JR _ _ _ _ _ _ h (lv_sub hl [2, 3, 1, 0] rfl) hf
      · have hf := wF c20 hf
        by_cases c23 : a1 = (3 : Int32)
        · have hf := wT c23 hf
          refine lv_tableIn (off := 82) (tgt := 85) X.x X.b dX11_outcome_3 (by rw [c23]; decide) (by rw [c23]; decide) (by rw [c23]; rfl) (by decide) ?_
          refine lv_aload_n X.x X.b dX11_outcome_85 rfl (lv_at hl 1 rfl) ?_
          obtain ⟨y25, e24, hf⟩ := wBd_s hf
          refine ro_callvI (As := []) (g1 := g0) (x := y25) X h (kX11_missed l hS e24) mv_X11_missed lk_X11_269 ⟨rfl, rfl⟩ ⟨(Nat.le_of_ble_eq_true rfl), (Nat.le_of_ble_eq_true rfl)⟩ (rR_0 X h (hS 0) Nat.one_pos Nat.one_pos) rfl hl rfl (Nat.le_of_ble_eq_true rfl) ⟨Nat.zero_le _, Nat.zero_le _⟩ dX11_outcome_86 (fun H locs h => ?_)
          cases (Option.some.inj hf).trans JR
          exact ro_iret X h dX11_outcome_89
        · have hf := wF c23 hf
          refine lv_tableOut (tgt := 90) X.x X.b dX11_outcome_3 (by have q0 := lv_neT c3 (a := 0) rfl; have q1 := lv_neT c6 (a := 1) rfl; have q2 := lv_neT c20 (a := 2) rfl; have q3 := lv_neT c23 (a := 3) rfl; omega) (by decide) ?_
          refine lv_aload_n X.x X.b dX11_outcome_90 rfl (lv_at hl 1 rfl) ?_
          refine gR_0_0 X h (hS 0) Nat.one_pos Nat.one_pos lk_X11_7 dX11_outcome_91 ?_
          refine lv_sipush (v := 483) X.x X.b dX11_outcome_94 (by decide) ?_
          obtain ⟨b26, hf⟩ := wGi_s hf
          refine aR_1 X h (hS 1) Nat.one_pos Nat.one_pos b26 dX11_outcome_97 ?_
          cases (Option.some.inj hf).trans JR
          exact ro_iret X h dX11_outcome_98
set_option maxHeartbeats 4000000 in
set_option maxRecDepth 20000 in
theorem wX11_beside_L49 {k : En} {S : Nat → Prop} (hS : ∀ t, S t) {a1 : Int32} {a2 : Int32} {res : Mm × Int32} (X : Cx YR S k p s m args meth c cX11_beside 4 (some .int) RX11) {r : Mm × Int32} (JR : r = res) :
    ∀ (fu : Nat) (g : Mm) (x3 : Int32) (H : Heap) (locs : List Loc) (ls : Array Slot), Hx YR S k s g H locs → lv_has ls 4 [(0, .ref (k.1 + adR 0 0 0)), (1, .int a1), (2, .int a2), (3, .int x3)] → wLp (fun q => fX11_beside_B49 q.1 a1 a2 q.2) fu (g, x3) = some r → W p l e (RmN 9 209) s m args below meth c H locs 0 0 (Fin YR S k args s below (some (.int res.2)) res.1) (F0 m 49 ls []) := by
  intro fu
  induction fu with
  | zero => intro g x3 H locs ls h hl hf; exact (wLp_0 hf).elim
  | succ fu ih1 =>
    intro g x3 H locs ls h hl hf
    obtain ⟨r1, hf, hr⟩ := wLp_s hf
    have J1n : ∀ (g : Mm) (x3 : Int32), r1 = .inl (g, x3) → ∀ (H : Heap) (locs : List Loc) (ls : Array Slot), Hx YR S k s g H locs → lv_has ls 4 [(0, .ref (k.1 + adR 0 0 0)), (1, .int a1), (2, .int a2), (3, .int x3)] → W p l e (RmN 9 209) s m args below meth c H locs 0 0 (Fin YR S k args s below (some (.int res.2)) res.1) (F0 m 49 ls []) := fun g x3 q H locs ls h hl => by subst q; exact ih1 _ _ _ _ _ h hl hr
    have JRn : ∀ t1, r1 = .inr t1 → t1 = res := fun t1 q => by subst q; obtain rfl := Option.some.inj hr; exact JR
    have J1 := J1n
    have JR := JRn
    clear J1n JRn
    have hf : fX11_beside_B49 g a1 a2 x3 = some r1 := hf
    unfold fX11_beside_B49 at hf
    refine lv_iload_n X.x X.b dX11_beside_49 rfl (lv_at hl 3 rfl) ?_
    refine lv_iload_n X.x X.b dX11_beside_50 rfl (lv_at hl 1 rfl) ?_
    refine lv_icmp_ge (tgt := 64) X.x X.b dX11_beside_51 (by decide) (fun c14 => ?_) (fun c14 => ?_)
    · have hf := wT c14 hf
      obtain ⟨t15, hf, e16⟩ := wEx_s hf
      have JR := JR t15 e16
      refine lv_aload_n X.x X.b dX11_beside_64 rfl (lv_at hl 0 rfl) ?_
      refine lv_iload_n X.x X.b dX11_beside_65 rfl (lv_at hl 2 rfl) ?_
      obtain ⟨y18, e17, hf⟩ := wBd_s hf
      refine ro_callvI (As := [.int a2]) (g1 := g) (x := y18) X h (kX11_outcome l hS e17) mv_X11_outcome lk_X11_276 ⟨rfl, rfl⟩ ⟨(Nat.le_of_ble_eq_true rfl), (Nat.le_of_ble_eq_true rfl)⟩ (rR_0 X h (hS 0) Nat.one_pos Nat.one_pos) rfl hl rfl (Nat.le_of_ble_eq_true rfl) ⟨Nat.zero_le _, Nat.zero_le _⟩ dX11_beside_66 (fun H locs h => ?_)
      refine lv_istore_n (lv' := [(3, .int y18), (0, .ref (k.1 + adR 0 0 0)), (1, .int a1), (2, .int a2)]) X.x X.b dX11_beside_69 rfl hl (by decide) rfl (fun ls hl => ?_)
      refine lv_aload_n X.x X.b dX11_beside_70 rfl (lv_at hl 1 rfl) ?_
      refine lv_iconst (v := 1) X.x X.b dX11_beside_71 (by decide) ?_
      obtain ⟨g21, e19, hf⟩ := wBd_s hf
      refine ro_callvV (As := [.int (1 : Int32)]) (g1 := g21) X h (kX11_lays l hS e19) mv_X11_lays lk_X11_272 ⟨rfl, rfl⟩ ⟨(Nat.le_of_ble_eq_true rfl), (Nat.le_of_ble_eq_true rfl)⟩ (rR_0 X h (hS 0) Nat.one_pos Nat.one_pos) rfl hl rfl (Nat.le_of_ble_eq_true rfl) ⟨Nat.zero_le _, Nat.zero_le _⟩ dX11_beside_72 (fun H locs h => ?_)
      refine lv_iload_n X.x X.b dX11_beside_75 rfl (lv_at hl 0 rfl) ?_
      cases (Option.some.inj hf).trans JR
      exact ro_iret X h dX11_beside_76
    · have hf := wF c14 hf
      refine lv_aload_n X.x X.b dX11_beside_54 rfl (lv_at hl 0 rfl) ?_
      obtain ⟨g24, e22, hf⟩ := wBd_s hf
      refine ro_callvV (As := []) (g1 := g24) X h (kX11_ticks l hS e22) mv_X11_ticks lk_X11_260 ⟨rfl, rfl⟩ ⟨(Nat.le_of_ble_eq_true rfl), (Nat.le_of_ble_eq_true rfl)⟩ (rR_0 X h (hS 0) Nat.one_pos Nat.one_pos) rfl hl rfl (Nat.le_of_ble_eq_true rfl) ⟨Nat.zero_le _, Nat.zero_le _⟩ dX11_beside_55 (fun H locs h => ?_)
      obtain ⟨y25, e26, hf⟩ := wLe_s hf
      refine lv_iinc (v := y25) (lv' := [(3, .int y25), (0, .ref (k.1 + adR 0 0 0)), (1, .int a1), (2, .int a2)]) X.x X.b dX11_beside_58 hl (k := 3) rfl (by rw [e26]; rfl) (by decide) rfl (fun ls hl => ?_)
      refine lv_goto (tgt := 49) X.x X.b dX11_beside_61 (by decide) ?_
      exact J1 _ _ (Option.some.inj hf).symm _ _ _ h (lv_sub hl [1, 2, 3, 0] rfl)
set_option maxHeartbeats 4000000 in
set_option maxRecDepth 20000 in
theorem kX11_beside (l : Launch) {k : En} {S : Nat → Prop} (hS : ∀ t, S t) {a1 : Int32} {a2 : Int32} {res : Mm × Int32} {g : Mm} (hf : fX11_beside g a1 a2 = some res) : Mt l yX11_beside cX11_beside 4 (some .int) (RmN 9 209) YR S k [.ref (k.1 + adR 0 0 0), .int a1, .int a2] g (some (.int res.2)) res.1 := by
  refine Mt.of (by decide) (Nat.le_of_ble_eq_true rfl) ?_
  intro p e s m args below meth c ls X _ h hl
  have X : Cx YR S k p s m args meth c cX11_beside 4 (some .int) RX11 := X
  have hl : lv_has ls 4 [(0, .ref (k.1 + adR 0 0 0)), (1, .int a1), (2, .int a2)] := hl
  have JR : res = res := rfl
  unfold fX11_beside at hf
  refine lv_iload_n X.x X.b dX11_beside_0 rfl (lv_at hl 1 rfl) ?_
  refine lv_iconst (v := 1) X.x X.b dX11_beside_1 (by decide) ?_
  refine lv_sipush (v := 200) X.x X.b dX11_beside_2 (by decide) ?_
  obtain ⟨y2, e1, hf⟩ := wBd_s hf
  refine ro_callsI (As := [.int a1, .int (1 : Int32), .int (200 : Int32)]) (g1 := g) (x := y2) X h (kX11_in l hS e1) mv_X11_in lk_X11_99 ⟨rfl, rfl⟩ ⟨(Nat.le_of_ble_eq_true rfl), (Nat.le_of_ble_eq_true rfl)⟩ rfl hl rfl (Nat.le_of_ble_eq_true rfl) ⟨Nat.zero_le _, Nat.zero_le _⟩ dX11_beside_5 (fun H locs h => ?_)
  refine lv_if_eq (tgt := 20) X.x X.b dX11_beside_8 (by decide) (fun c3 => ?_) (fun c3 => ?_)
  · have hf := wT c3 hf
    refine lv_bipush (v := (-2)) X.x X.b dX11_beside_20 (by decide) ?_
    cases (Option.some.inj hf).trans JR
    exact ro_iret X h dX11_beside_22
  · have hf := wF c3 hf
    refine lv_iload_n X.x X.b dX11_beside_11 rfl (lv_at hl 2 rfl) ?_
    refine lv_iconst (v := 0) X.x X.b dX11_beside_12 (by decide) ?_
    refine lv_iconst (v := 4) X.x X.b dX11_beside_13 (by decide) ?_
    obtain ⟨y5, e4, hf⟩ := wBd_s hf
    refine ro_callsI (As := [.int a2, .int (0 : Int32), .int (4 : Int32)]) (g1 := g) (x := y5) X h (kX11_in l hS e4) mv_X11_in lk_X11_99 ⟨rfl, rfl⟩ ⟨(Nat.le_of_ble_eq_true rfl), (Nat.le_of_ble_eq_true rfl)⟩ rfl hl rfl (Nat.le_of_ble_eq_true rfl) ⟨Nat.zero_le _, Nat.zero_le _⟩ dX11_beside_14 (fun H locs h => ?_)
    refine lv_if_ne (tgt := 23) X.x X.b dX11_beside_17 (by decide) (fun c6 => ?_) (fun c6 => ?_)
    · have hf := wF c6 hf
      refine lv_aload_n X.x X.b dX11_beside_23 rfl (lv_at hl 0 rfl) ?_
      refine gR_0_0 X h (hS 0) Nat.one_pos Nat.one_pos lk_X11_7 dX11_beside_24 ?_
      refine lv_sipush (v := 480) X.x X.b dX11_beside_27 (by decide) ?_
      obtain ⟨b7, hf⟩ := wGi_s hf
      refine aR_1 X h (hS 1) Nat.one_pos Nat.one_pos b7 dX11_beside_30 ?_
      refine lv_iload_n X.x X.b dX11_beside_31 rfl (lv_at hl 1 rfl) ?_
      refine lv_iadd X.x X.b dX11_beside_32 ?_
      refine lv_sipush (v := 9999) X.x X.b dX11_beside_33 (by decide) ?_
      refine lv_icmp_le (tgt := 42) X.x X.b dX11_beside_36 (by decide) (fun c8 => ?_) (fun c8 => ?_)
      · have hf := wT c8 hf
        refine lv_aload_n X.x X.b dX11_beside_42 rfl (lv_at hl 0 rfl) ?_
        refine lv_iconst (v := 0) X.x X.b dX11_beside_43 (by decide) ?_
        obtain ⟨g11, e9, hf⟩ := wBd_s hf
        refine ro_callvV (As := [.int (0 : Int32)]) (g1 := g11) X h (kX11_lays l hS e9) mv_X11_lays lk_X11_272 ⟨rfl, rfl⟩ ⟨(Nat.le_of_ble_eq_true rfl), (Nat.le_of_ble_eq_true rfl)⟩ (rR_0 X h (hS 0) Nat.one_pos Nat.one_pos) rfl hl rfl (Nat.le_of_ble_eq_true rfl) ⟨Nat.zero_le _, Nat.zero_le _⟩ dX11_beside_44 (fun H locs h => ?_)
        refine lv_iconst (v := 0) X.x X.b dX11_beside_47 (by decide) ?_
        obtain ⟨y12, e13, hf⟩ := wLe_s hf
        refine lv_nmi e13 ?_
        refine lv_istore_n (lv' := [(3, .int y12), (0, .ref (k.1 + adR 0 0 0)), (1, .int a1), (2, .int a2)]) X.x X.b dX11_beside_48 rfl hl (by decide) rfl (fun ls hl => ?_)
        exact wX11_beside_L49 hS X JR _ _ _ _ _ _ h (lv_sub hl [1, 2, 3, 0] rfl) hf
      · have hf := wF c8 hf
        refine lv_bipush (v := (-4)) X.x X.b dX11_beside_39 (by decide) ?_
        cases (Option.some.inj hf).trans JR
        exact ro_iret X h dX11_beside_41
    · have hf := wT c6 hf
      refine lv_bipush (v := (-2)) X.x X.b dX11_beside_20 (by decide) ?_
      cases (Option.some.inj hf).trans JR
      exact ro_iret X h dX11_beside_22
set_option maxHeartbeats 4000000 in
set_option maxRecDepth 20000 in
theorem kX11_maySit (l : Launch) {k : En} {S : Nat → Prop} (hS : ∀ t, S t) {g0 : Mm} {a1 : Int32} {a2 : Int32} {res : Int32} (hf : fX11_maySit g0 a1 a2 = some res) : Mt l yX11_maySit cX11_maySit 3 (some .boolean) (RmN 1 22) YR S k [.ref (k.1 + adR 0 0 0), .int a1, .int a2] g0 (some (.int res)) g0 := by
  refine Mt.of (by decide) (Nat.le_of_ble_eq_true rfl) ?_
  intro p e s m args below meth c ls X _ h hl
  have X : Cx YR S k p s m args meth c cX11_maySit 3 (some .boolean) RX11 := X
  have hl : lv_has ls 3 [(0, .ref (k.1 + adR 0 0 0)), (1, .int a1), (2, .int a2)] := hl
  have JR : res = res := rfl
  unfold fX11_maySit at hf
  refine lv_iload_n X.x X.b dX11_maySit_0 rfl (lv_at hl 2 rfl) ?_
  refine lv_iconst (v := (-1)) X.x X.b dX11_maySit_1 (by decide) ?_
  refine lv_icmp_eq (tgt := 29) X.x X.b dX11_maySit_2 (by decide) (fun c1 => ?_) (fun c1 => ?_)
  · have hf := wT c1 hf
    refine lv_iconst (v := 1) X.x X.b dX11_maySit_29 (by decide) ?_
    refine lv_goto (tgt := 34) X.x X.b dX11_maySit_30 (by decide) ?_
    cases (Option.some.inj hf).trans JR
    exact ro_zret X h (Or.inr rfl) dX11_maySit_34
  · have hf := wF c1 hf
    refine lv_aload_n X.x X.b dX11_maySit_5 rfl (lv_at hl 0 rfl) ?_
    refine gR_0_0 X h (hS 0) Nat.one_pos Nat.one_pos lk_X11_7 dX11_maySit_6 ?_
    refine lv_sipush (v := 490) X.x X.b dX11_maySit_9 (by decide) ?_
    refine lv_iload_n X.x X.b dX11_maySit_12 rfl (lv_at hl 2 rfl) ?_
    refine lv_iadd X.x X.b dX11_maySit_13 ?_
    obtain ⟨b2, hf⟩ := wGi_s hf
    refine aR_1 X h (hS 1) Nat.one_pos Nat.one_pos b2 dX11_maySit_14 ?_
    refine lv_aload_n X.x X.b dX11_maySit_15 rfl (lv_at hl 0 rfl) ?_
    refine gR_0_21 X h (hS 0) Nat.one_pos Nat.one_pos lk_X11_53 dX11_maySit_16 ?_
    refine lv_aload_n X.x X.b dX11_maySit_19 rfl (lv_at hl 0 rfl) ?_
    refine lv_iload_n X.x X.b dX11_maySit_20 rfl (lv_at hl 1 rfl) ?_
    refine lv_iconst (v := 0) X.x X.b dX11_maySit_21 (by decide) ?_
    obtain ⟨y4, e3, hf⟩ := wBd_s hf
    refine ro_callvI (As := [.int a1, .int (0 : Int32)]) (g1 := g0) (x := y4) X h (kX11_of l hS e3) mv_X11_of lk_X11_106 ⟨rfl, rfl⟩ ⟨(Nat.le_of_ble_eq_true rfl), (Nat.le_of_ble_eq_true rfl)⟩ (rR_0 X h (hS 0) Nat.one_pos Nat.one_pos) rfl hl rfl (Nat.le_of_ble_eq_true rfl) ⟨Nat.zero_le _, Nat.zero_le _⟩ dX11_maySit_22 (fun H locs h => ?_)
    obtain ⟨b5, hf⟩ := wGi_s hf
    refine aR_14 X h (hS 14) Nat.one_pos Nat.one_pos b5 dX11_maySit_25 ?_
    refine lv_icmp_lt (tgt := 33) X.x X.b dX11_maySit_26 (by decide) (fun c6 => ?_) (fun c6 => ?_)
    · have hf := wT c6 hf
      refine lv_iconst (v := 0) X.x X.b dX11_maySit_33 (by decide) ?_
      cases (Option.some.inj hf).trans JR
      exact ro_zret X h (Or.inl rfl) dX11_maySit_34
    · have hf := wF c6 hf
      refine lv_iconst (v := 1) X.x X.b dX11_maySit_29 (by decide) ?_
      refine lv_goto (tgt := 34) X.x X.b dX11_maySit_30 (by decide) ?_
      cases (Option.some.inj hf).trans JR
      exact ro_zret X h (Or.inr rfl) dX11_maySit_34
set_option maxHeartbeats 4000000 in
set_option maxRecDepth 20000 in
theorem wX11_plan_b315 {k : En} {S : Nat → Prop} (hS : ∀ t, S t) {a1 : Int32} {a2 : Int32} {res : Mm × Int32} (X : Cx YR S k p s m args meth c cX11_plan 13 (some .int) RX11) {g : Mm} {x3 : Int32} {x4 : Int32} {x7 : Int32} {x8 : Int32} {x9 : Int32} {x10 : Int32} {x11 : Int32} {H : Heap} {locs : List Loc} {ls : Array Slot} (h : Hx YR S k s g H locs) (hl : lv_has ls 13 [(0, .ref (k.1 + adR 0 0 0)), (1, .int a1), (2, .int a2), (3, .int x3), (4, .int x4), (7, .int x7), (8, .int x8), (9, .int x9), (10, .int x10), (11, .int x11)]) {r : (Mm × Int32 × Int32 × Int32 × Int32) ⊕ ((Mm × Int32 × Int32 × Int32 × Int32) ⊕ (Mm × Int32))} (hf : fX11_plan_b315 g a1 a2 x3 x4 x7 x8 x9 x10 x11 = some r) (J1 : ∀ (g : Mm) (x7 : Int32) (x8 : Int32) (x9 : Int32) (x11 : Int32), r = .inl (g, x7, x8, x9, x11) → ∀ (H : Heap) (locs : List Loc) (ls : Array Slot), Hx YR S k s g H locs → lv_has ls 13 [(0, .ref (k.1 + adR 0 0 0)), (1, .int a1), (2, .int a2), (3, .int x3), (4, .int x4), (7, .int x7), (8, .int x8), (9, .int x9), (10, .int x10), (11, .int x11)] → W p l e (RmN 9 209) s m args below meth c H locs 0 0 (Fin YR S k args s below (some (.int res.2)) res.1) (F0 m 181 ls [])) (J2 : ∀ t1, r = .inr t1 → ∀ (g : Mm) (x7 : Int32) (x8 : Int32) (x9 : Int32) (x10 : Int32), t1 = .inl (g, x7, x8, x9, x10) → ∀ (H : Heap) (locs : List Loc) (ls : Array Slot), Hx YR S k s g H locs → lv_has ls 13 [(0, .ref (k.1 + adR 0 0 0)), (1, .int a1), (2, .int a2), (3, .int x3), (4, .int x4), (7, .int x7), (8, .int x8), (9, .int x9), (10, .int x10)] → W p l e (RmN 9 209) s m args below meth c H locs 0 0 (Fin YR S k args s below (some (.int res.2)) res.1) (F0 m 169 ls [])) (JR : ∀ t1, r = .inr t1 → ∀ t2, t1 = .inr t2 → t2 = res) :
    W p l e (RmN 9 209) s m args below meth c H locs 0 0 (Fin YR S k args s below (some (.int res.2)) res.1) (F0 m 315 ls []) := by
  unfold fX11_plan_b315 at hf
  obtain ⟨y57, e58, hf⟩ := wLe_s hf
  refine lv_iinc (v := y57) (lv' := [(11, .int y57), (0, .ref (k.1 + adR 0 0 0)), (1, .int a1), (2, .int a2), (3, .int x3), (4, .int x4), (7, .int x7), (8, .int x8), (9, .int x9), (10, .int x10)]) X.x X.b dX11_plan_315 hl (k := 9) rfl (by rw [e58]; rfl) (by decide) rfl (fun ls hl => ?_)
  refine lv_goto (tgt := 181) X.x X.b dX11_plan_318 (by decide) ?_
  exact J1 _ _ _ _ _ (Option.some.inj hf).symm _ _ _ h (lv_sub hl [1, 2, 3, 4, 5, 6, 7, 8, 9, 0] rfl)
set_option maxHeartbeats 4000000 in
set_option maxRecDepth 20000 in
theorem wX11_plan_b303 {k : En} {S : Nat → Prop} (hS : ∀ t, S t) {a1 : Int32} {a2 : Int32} {res : Mm × Int32} (X : Cx YR S k p s m args meth c cX11_plan 13 (some .int) RX11) {g : Mm} {x3 : Int32} {x4 : Int32} {x10 : Int32} {x11 : Int32} {x12 : Int32} {H : Heap} {locs : List Loc} {ls : Array Slot} (h : Hx YR S k s g H locs) (hl : lv_has ls 13 [(0, .ref (k.1 + adR 0 0 0)), (1, .int a1), (2, .int a2), (3, .int x3), (4, .int x4), (10, .int x10), (11, .int x11), (12, .int x12)]) {r : (Mm × Int32 × Int32 × Int32 × Int32) ⊕ ((Mm × Int32 × Int32 × Int32 × Int32) ⊕ (Mm × Int32))} (hf : fX11_plan_b303 g a1 a2 x3 x4 x10 x11 x12 = some r) (J1 : ∀ (g : Mm) (x7 : Int32) (x8 : Int32) (x9 : Int32) (x11 : Int32), r = .inl (g, x7, x8, x9, x11) → ∀ (H : Heap) (locs : List Loc) (ls : Array Slot), Hx YR S k s g H locs → lv_has ls 13 [(0, .ref (k.1 + adR 0 0 0)), (1, .int a1), (2, .int a2), (3, .int x3), (4, .int x4), (7, .int x7), (8, .int x8), (9, .int x9), (10, .int x10), (11, .int x11)] → W p l e (RmN 9 209) s m args below meth c H locs 0 0 (Fin YR S k args s below (some (.int res.2)) res.1) (F0 m 181 ls [])) (J2 : ∀ t1, r = .inr t1 → ∀ (g : Mm) (x7 : Int32) (x8 : Int32) (x9 : Int32) (x10 : Int32), t1 = .inl (g, x7, x8, x9, x10) → ∀ (H : Heap) (locs : List Loc) (ls : Array Slot), Hx YR S k s g H locs → lv_has ls 13 [(0, .ref (k.1 + adR 0 0 0)), (1, .int a1), (2, .int a2), (3, .int x3), (4, .int x4), (7, .int x7), (8, .int x8), (9, .int x9), (10, .int x10)] → W p l e (RmN 9 209) s m args below meth c H locs 0 0 (Fin YR S k args s below (some (.int res.2)) res.1) (F0 m 169 ls [])) (JR : ∀ t1, r = .inr t1 → ∀ t2, t1 = .inr t2 → t2 = res) :
    W p l e (RmN 9 209) s m args below meth c H locs 0 0 (Fin YR S k args s below (some (.int res.2)) res.1) (F0 m 303 ls []) := by
  unfold fX11_plan_b303 at hf
  refine lv_iload X.x X.b dX11_plan_303 (lv_at hl 7 rfl) ?_
  refine lv_istore (lv' := [(7, .int x12), (0, .ref (k.1 + adR 0 0 0)), (1, .int a1), (2, .int a2), (3, .int x3), (4, .int x4), (10, .int x10), (11, .int x11), (12, .int x12)]) X.x X.b dX11_plan_305 hl (by decide) rfl (fun ls hl => ?_)
  refine lv_iload X.x X.b dX11_plan_307 (lv_at hl 6 rfl) ?_
  refine lv_istore (lv' := [(8, .int x10), (7, .int x12), (0, .ref (k.1 + adR 0 0 0)), (1, .int a1), (2, .int a2), (3, .int x3), (4, .int x4), (10, .int x10), (11, .int x11), (12, .int x12)]) X.x X.b dX11_plan_309 hl (by decide) rfl (fun ls hl => ?_)
  refine lv_iload X.x X.b dX11_plan_311 (lv_at hl 8 rfl) ?_
  refine lv_istore (lv' := [(9, .int x11), (8, .int x10), (7, .int x12), (0, .ref (k.1 + adR 0 0 0)), (1, .int a1), (2, .int a2), (3, .int x3), (4, .int x4), (10, .int x10), (11, .int x11), (12, .int x12)]) X.x X.b dX11_plan_313 hl (by decide) rfl (fun ls hl => ?_)
  exact wX11_plan_b315 hS X h (lv_sub hl [3, 4, 5, 6, 7, 2, 1, 0, 8, 9] rfl) hf J1 J2 JR
set_option maxHeartbeats 4000000 in
set_option maxRecDepth 20000 in
theorem wX11_plan_L263 {k : En} {S : Nat → Prop} (hS : ∀ t, S t) {a1 : Int32} {a2 : Int32} {res : Mm × Int32} (X : Cx YR S k p s m args meth c cX11_plan 13 (some .int) RX11) {x3 : Int32} {x4 : Int32} {x7 : Int32} {x8 : Int32} {x9 : Int32} {x10 : Int32} {x11 : Int32} {r : (Mm × Int32 × Int32 × Int32 × Int32) ⊕ ((Mm × Int32 × Int32 × Int32 × Int32) ⊕ (Mm × Int32))} (J1 : ∀ (g : Mm) (x7 : Int32) (x8 : Int32) (x9 : Int32) (x11 : Int32), r = .inl (g, x7, x8, x9, x11) → ∀ (H : Heap) (locs : List Loc) (ls : Array Slot), Hx YR S k s g H locs → lv_has ls 13 [(0, .ref (k.1 + adR 0 0 0)), (1, .int a1), (2, .int a2), (3, .int x3), (4, .int x4), (7, .int x7), (8, .int x8), (9, .int x9), (10, .int x10), (11, .int x11)] → W p l e (RmN 9 209) s m args below meth c H locs 0 0 (Fin YR S k args s below (some (.int res.2)) res.1) (F0 m 181 ls [])) (J2 : ∀ t1, r = .inr t1 → ∀ (g : Mm) (x7 : Int32) (x8 : Int32) (x9 : Int32) (x10 : Int32), t1 = .inl (g, x7, x8, x9, x10) → ∀ (H : Heap) (locs : List Loc) (ls : Array Slot), Hx YR S k s g H locs → lv_has ls 13 [(0, .ref (k.1 + adR 0 0 0)), (1, .int a1), (2, .int a2), (3, .int x3), (4, .int x4), (7, .int x7), (8, .int x8), (9, .int x9), (10, .int x10)] → W p l e (RmN 9 209) s m args below meth c H locs 0 0 (Fin YR S k args s below (some (.int res.2)) res.1) (F0 m 169 ls [])) (JR : ∀ t1, r = .inr t1 → ∀ t2, t1 = .inr t2 → t2 = res) :
    ∀ (fu : Nat) (g : Mm) (x12 : Int32) (H : Heap) (locs : List Loc) (ls : Array Slot), Hx YR S k s g H locs → lv_has ls 13 [(0, .ref (k.1 + adR 0 0 0)), (1, .int a1), (2, .int a2), (3, .int x3), (4, .int x4), (7, .int x7), (8, .int x8), (9, .int x9), (10, .int x10), (11, .int x11), (12, .int x12)] → wLp (fun q => fX11_plan_B263 q.1 a1 a2 x3 x4 x7 x8 x9 x10 x11 q.2) fu (g, x12) = some r → W p l e (RmN 9 209) s m args below meth c H locs 0 0 (Fin YR S k args s below (some (.int res.2)) res.1) (F0 m 263 ls []) := by
  intro fu
  induction fu with
  | zero => intro g x12 H locs ls h hl hf; exact (wLp_0 hf).elim
  | succ fu ih1 =>
    intro g x12 H locs ls h hl hf
    obtain ⟨r1, hf, hr⟩ := wLp_s hf
    have J1n : ∀ (g : Mm) (x12 : Int32), r1 = .inl (g, x12) → ∀ (H : Heap) (locs : List Loc) (ls : Array Slot), Hx YR S k s g H locs → lv_has ls 13 [(0, .ref (k.1 + adR 0 0 0)), (1, .int a1), (2, .int a2), (3, .int x3), (4, .int x4), (7, .int x7), (8, .int x8), (9, .int x9), (10, .int x10), (11, .int x11), (12, .int x12)] → W p l e (RmN 9 209) s m args below meth c H locs 0 0 (Fin YR S k args s below (some (.int res.2)) res.1) (F0 m 263 ls []) := fun g x12 q H locs ls h hl => by subst q; exact ih1 _ _ _ _ _ h hl hr
    have J2n : ∀ t1, r1 = .inr t1 → ∀ (g : Mm) (x7 : Int32) (x8 : Int32) (x9 : Int32) (x11 : Int32), t1 = .inl (g, x7, x8, x9, x11) → ∀ (H : Heap) (locs : List Loc) (ls : Array Slot), Hx YR S k s g H locs → lv_has ls 13 [(0, .ref (k.1 + adR 0 0 0)), (1, .int a1), (2, .int a2), (3, .int x3), (4, .int x4), (7, .int x7), (8, .int x8), (9, .int x9), (10, .int x10), (11, .int x11)] → W p l e (RmN 9 209) s m args below meth c H locs 0 0 (Fin YR S k args s below (some (.int res.2)) res.1) (F0 m 181 ls []) := fun t1 q => by subst q; obtain rfl := Option.some.inj hr; exact J1
    have J3n : ∀ t1, r1 = .inr t1 → ∀ t2, t1 = .inr t2 → ∀ (g : Mm) (x7 : Int32) (x8 : Int32) (x9 : Int32) (x10 : Int32), t2 = .inl (g, x7, x8, x9, x10) → ∀ (H : Heap) (locs : List Loc) (ls : Array Slot), Hx YR S k s g H locs → lv_has ls 13 [(0, .ref (k.1 + adR 0 0 0)), (1, .int a1), (2, .int a2), (3, .int x3), (4, .int x4), (7, .int x7), (8, .int x8), (9, .int x9), (10, .int x10)] → W p l e (RmN 9 209) s m args below meth c H locs 0 0 (Fin YR S k args s below (some (.int res.2)) res.1) (F0 m 169 ls []) := fun t1 q => by subst q; obtain rfl := Option.some.inj hr; exact J2
    have JRn : ∀ t1, r1 = .inr t1 → ∀ t2, t1 = .inr t2 → ∀ t3, t2 = .inr t3 → t3 = res := fun t1 q => by subst q; obtain rfl := Option.some.inj hr; exact JR
    have J1 := J1n
    have J2 := J2n
    have J3 := J3n
    have JR := JRn
    clear J1n J2n J3n JRn
    have hf : fX11_plan_B263 g a1 a2 x3 x4 x7 x8 x9 x10 x11 x12 = some r1 := hf
    unfold fX11_plan_B263 at hf
    refine lv_iload X.x X.b dX11_plan_263 (lv_at hl 10 rfl) ?_
    refine lv_iload_n X.x X.b dX11_plan_265 rfl (lv_at hl 2 rfl) ?_
    refine lv_icmp_ge (tgt := 279) X.x X.b dX11_plan_266 (by decide) (fun c66 => ?_) (fun c66 => ?_)
    · have hf := wT c66 hf
      obtain ⟨t67, hf, e68⟩ := wEx_s hf
      have J1 := J2 t67 e68
      have J2 := J3 t67 e68
      have JR := JR t67 e68
      refine lv_aload_n X.x X.b dX11_plan_279 rfl (lv_at hl 0 rfl) ?_
      obtain ⟨y70, e69, hf⟩ := wBd_s hf
      refine ro_callvI (As := []) (g1 := g) (x := y70) X h (kX11_lateOfAll l hS e69) mv_X11_lateOfAll lk_X11_266 ⟨rfl, rfl⟩ ⟨(Nat.le_of_ble_eq_true rfl), (Nat.le_of_ble_eq_true rfl)⟩ (rR_0 X h (hS 0) Nat.one_pos Nat.one_pos) rfl hl rfl (Nat.le_of_ble_eq_true rfl) ⟨Nat.zero_le _, Nat.zero_le _⟩ dX11_plan_280 (fun H locs h => ?_)
      refine lv_istore (lv' := [(12, .int y70), (0, .ref (k.1 + adR 0 0 0)), (1, .int a1), (2, .int a2), (3, .int x3), (4, .int x4), (7, .int x7), (8, .int x8), (9, .int x9), (10, .int x10), (11, .int x11)]) X.x X.b dX11_plan_283 hl (by decide) rfl (fun ls hl => ?_)
      refine lv_aload_n X.x X.b dX11_plan_285 rfl (lv_at hl 1 rfl) ?_
      refine lv_iconst (v := 1) X.x X.b dX11_plan_286 (by decide) ?_
      obtain ⟨g73, e71, hf⟩ := wBd_s hf
      refine ro_callvV (As := [.int (1 : Int32)]) (g1 := g73) X h (kX11_lays l hS e71) mv_X11_lays lk_X11_272 ⟨rfl, rfl⟩ ⟨(Nat.le_of_ble_eq_true rfl), (Nat.le_of_ble_eq_true rfl)⟩ (rR_0 X h (hS 0) Nat.one_pos Nat.one_pos) rfl hl rfl (Nat.le_of_ble_eq_true rfl) ⟨Nat.zero_le _, Nat.zero_le _⟩ dX11_plan_287 (fun H locs h => ?_)
      refine lv_iload X.x X.b dX11_plan_290 (lv_at hl 6 rfl) ?_
      refine lv_iconst (v := (-1)) X.x X.b dX11_plan_292 (by decide) ?_
      refine lv_icmp_eq (tgt := 303) X.x X.b dX11_plan_293 (by decide) (fun c74 => ?_) (fun c74 => ?_)
      · have hf := wT c74 hf
        exact wX11_plan_b303 hS X h (lv_sub hl [1, 2, 3, 4, 5, 9, 10, 0] rfl) hf J1 J2 JR
      · have hf := wF c74 hf
        refine lv_iload X.x X.b dX11_plan_296 (lv_at hl 0 rfl) ?_
        refine lv_iload X.x X.b dX11_plan_298 (lv_at hl 6 rfl) ?_
        refine lv_icmp_ge (tgt := 315) X.x X.b dX11_plan_300 (by decide) (fun c75 => ?_) (fun c75 => ?_)
        · have hf := wT c75 hf
          exact wX11_plan_b315 hS X h (lv_sub hl [1, 2, 3, 4, 5, 6, 7, 8, 9, 10] rfl) hf J1 J2 JR
        · have hf := wF c75 hf
          exact wX11_plan_b303 hS X h (lv_sub hl [1, 2, 3, 4, 5, 9, 10, 0] rfl) hf J1 J2 JR
    · have hf := wF c66 hf
      refine lv_aload_n X.x X.b dX11_plan_269 rfl (lv_at hl 0 rfl) ?_
      obtain ⟨g78, e76, hf⟩ := wBd_s hf
      refine ro_callvV (As := []) (g1 := g78) X h (kX11_ticks l hS e76) mv_X11_ticks lk_X11_260 ⟨rfl, rfl⟩ ⟨(Nat.le_of_ble_eq_true rfl), (Nat.le_of_ble_eq_true rfl)⟩ (rR_0 X h (hS 0) Nat.one_pos Nat.one_pos) rfl hl rfl (Nat.le_of_ble_eq_true rfl) ⟨Nat.zero_le _, Nat.zero_le _⟩ dX11_plan_270 (fun H locs h => ?_)
      obtain ⟨y79, e80, hf⟩ := wLe_s hf
      refine lv_iinc (v := y79) (lv' := [(12, .int y79), (0, .ref (k.1 + adR 0 0 0)), (1, .int a1), (2, .int a2), (3, .int x3), (4, .int x4), (7, .int x7), (8, .int x8), (9, .int x9), (10, .int x10), (11, .int x11)]) X.x X.b dX11_plan_273 hl (k := 10) rfl (by rw [e80]; rfl) (by decide) rfl (fun ls hl => ?_)
      refine lv_goto (tgt := 263) X.x X.b dX11_plan_276 (by decide) ?_
      exact J1 _ _ (Option.some.inj hf).symm _ _ _ h (lv_sub hl [1, 2, 3, 4, 5, 6, 7, 8, 9, 10, 0] rfl)
set_option maxHeartbeats 4000000 in
set_option maxRecDepth 20000 in
theorem wX11_plan_b260 {k : En} {S : Nat → Prop} (hS : ∀ t, S t) {a1 : Int32} {a2 : Int32} {res : Mm × Int32} (X : Cx YR S k p s m args meth c cX11_plan 13 (some .int) RX11) {g : Mm} {x3 : Int32} {x4 : Int32} {x7 : Int32} {x8 : Int32} {x9 : Int32} {x10 : Int32} {x11 : Int32} {H : Heap} {locs : List Loc} {ls : Array Slot} (h : Hx YR S k s g H locs) (hl : lv_has ls 13 [(0, .ref (k.1 + adR 0 0 0)), (1, .int a1), (2, .int a2), (3, .int x3), (4, .int x4), (7, .int x7), (8, .int x8), (9, .int x9), (10, .int x10), (11, .int x11)]) {r : (Mm × Int32 × Int32 × Int32 × Int32) ⊕ ((Mm × Int32 × Int32 × Int32 × Int32) ⊕ (Mm × Int32))} (hf : fX11_plan_b260 g a1 a2 x3 x4 x7 x8 x9 x10 x11 = some r) (J1 : ∀ (g : Mm) (x7 : Int32) (x8 : Int32) (x9 : Int32) (x11 : Int32), r = .inl (g, x7, x8, x9, x11) → ∀ (H : Heap) (locs : List Loc) (ls : Array Slot), Hx YR S k s g H locs → lv_has ls 13 [(0, .ref (k.1 + adR 0 0 0)), (1, .int a1), (2, .int a2), (3, .int x3), (4, .int x4), (7, .int x7), (8, .int x8), (9, .int x9), (10, .int x10), (11, .int x11)] → W p l e (RmN 9 209) s m args below meth c H locs 0 0 (Fin YR S k args s below (some (.int res.2)) res.1) (F0 m 181 ls [])) (J2 : ∀ t1, r = .inr t1 → ∀ (g : Mm) (x7 : Int32) (x8 : Int32) (x9 : Int32) (x10 : Int32), t1 = .inl (g, x7, x8, x9, x10) → ∀ (H : Heap) (locs : List Loc) (ls : Array Slot), Hx YR S k s g H locs → lv_has ls 13 [(0, .ref (k.1 + adR 0 0 0)), (1, .int a1), (2, .int a2), (3, .int x3), (4, .int x4), (7, .int x7), (8, .int x8), (9, .int x9), (10, .int x10)] → W p l e (RmN 9 209) s m args below meth c H locs 0 0 (Fin YR S k args s below (some (.int res.2)) res.1) (F0 m 169 ls [])) (JR : ∀ t1, r = .inr t1 → ∀ t2, t1 = .inr t2 → t2 = res) :
    W p l e (RmN 9 209) s m args below meth c H locs 0 0 (Fin YR S k args s below (some (.int res.2)) res.1) (F0 m 260 ls []) := by
  unfold fX11_plan_b260 at hf
  refine lv_iconst (v := 0) X.x X.b dX11_plan_260 (by decide) ?_
  obtain ⟨y64, e65, hf⟩ := wLe_s hf
  refine lv_nmi e65 ?_
  refine lv_istore (lv' := [(12, .int y64), (0, .ref (k.1 + adR 0 0 0)), (1, .int a1), (2, .int a2), (3, .int x3), (4, .int x4), (7, .int x7), (8, .int x8), (9, .int x9), (10, .int x10), (11, .int x11)]) X.x X.b dX11_plan_261 hl (by decide) rfl (fun ls hl => ?_)
  exact wX11_plan_L263 hS X J1 J2 JR _ _ _ _ _ _ h (lv_sub hl [1, 2, 3, 4, 5, 6, 7, 8, 9, 10, 0] rfl) hf
set_option maxHeartbeats 4000000 in
set_option maxRecDepth 20000 in
theorem wX11_plan_b227 {k : En} {S : Nat → Prop} (hS : ∀ t, S t) {a1 : Int32} {a2 : Int32} {res : Mm × Int32} (X : Cx YR S k p s m args meth c cX11_plan 13 (some .int) RX11) {g : Mm} {x3 : Int32} {x4 : Int32} {x7 : Int32} {x8 : Int32} {x9 : Int32} {x10 : Int32} {x11 : Int32} {H : Heap} {locs : List Loc} {ls : Array Slot} (h : Hx YR S k s g H locs) (hl : lv_has ls 13 [(0, .ref (k.1 + adR 0 0 0)), (1, .int a1), (2, .int a2), (3, .int x3), (4, .int x4), (7, .int x7), (8, .int x8), (9, .int x9), (10, .int x10), (11, .int x11)]) {r : (Mm × Int32 × Int32 × Int32 × Int32) ⊕ ((Mm × Int32 × Int32 × Int32 × Int32) ⊕ (Mm × Int32))} (hf : fX11_plan_b227 g a1 a2 x3 x4 x7 x8 x9 x10 x11 = some r) (J1 : ∀ (g : Mm) (x7 : Int32) (x8 : Int32) (x9 : Int32) (x11 : Int32), r = .inl (g, x7, x8, x9, x11) → ∀ (H : Heap) (locs : List Loc) (ls : Array Slot), Hx YR S k s g H locs → lv_has ls 13 [(0, .ref (k.1 + adR 0 0 0)), (1, .int a1), (2, .int a2), (3, .int x3), (4, .int x4), (7, .int x7), (8, .int x8), (9, .int x9), (10, .int x10), (11, .int x11)] → W p l e (RmN 9 209) s m args below meth c H locs 0 0 (Fin YR S k args s below (some (.int res.2)) res.1) (F0 m 181 ls [])) (J2 : ∀ t1, r = .inr t1 → ∀ (g : Mm) (x7 : Int32) (x8 : Int32) (x9 : Int32) (x10 : Int32), t1 = .inl (g, x7, x8, x9, x10) → ∀ (H : Heap) (locs : List Loc) (ls : Array Slot), Hx YR S k s g H locs → lv_has ls 13 [(0, .ref (k.1 + adR 0 0 0)), (1, .int a1), (2, .int a2), (3, .int x3), (4, .int x4), (7, .int x7), (8, .int x8), (9, .int x9), (10, .int x10)] → W p l e (RmN 9 209) s m args below meth c H locs 0 0 (Fin YR S k args s below (some (.int res.2)) res.1) (F0 m 169 ls [])) (JR : ∀ t1, r = .inr t1 → ∀ t2, t1 = .inr t2 → t2 = res) :
    W p l e (RmN 9 209) s m args below meth c H locs 0 0 (Fin YR S k args s below (some (.int res.2)) res.1) (F0 m 227 ls []) := by
  unfold fX11_plan_b227 at hf
  refine lv_aload_n X.x X.b dX11_plan_227 rfl (lv_at hl 0 rfl) ?_
  refine gR_0_0 X h (hS 0) Nat.one_pos Nat.one_pos lk_X11_7 dX11_plan_228 ?_
  refine lv_bipush (v := 30) X.x X.b dX11_plan_231 (by decide) ?_
  refine lv_iload_n X.x X.b dX11_plan_233 rfl (lv_at hl 3 rfl) ?_
  refine lv_imul X.x X.b dX11_plan_234 ?_
  refine lv_iconst (v := 4) X.x X.b dX11_plan_235 (by decide) ?_
  refine lv_iadd X.x X.b dX11_plan_236 ?_
  refine lv_iload X.x X.b dX11_plan_237 (lv_at hl 8 rfl) ?_
  obtain ⟨b60, hf⟩ := wGi_s hf
  obtain ⟨g61, e62, hf⟩ := wLe_s hf
  refine bR_1 X h (hS 1) Nat.one_pos Nat.one_pos e62 b60 dX11_plan_239 (fun H locs h => ?_)
  refine lv_iload X.x X.b dX11_plan_240 (lv_at hl 4 rfl) ?_
  refine lv_iconst (v := (-1)) X.x X.b dX11_plan_242 (by decide) ?_
  refine lv_icmp_eq (tgt := 260) X.x X.b dX11_plan_243 (by decide) (fun c63 => ?_) (fun c63 => ?_)
  · have hf := wT c63 hf
    exact wX11_plan_b260 hS X h (lv_sub hl [0, 1, 2, 3, 4, 5, 6, 7, 8, 9] rfl) hf J1 J2 JR
  · have hf := wF c63 hf
    refine lv_aload_n X.x X.b dX11_plan_246 rfl (lv_at hl 0 rfl) ?_
    refine gR_0_0 X h (hS 0) Nat.one_pos Nat.one_pos lk_X11_7 dX11_plan_247 ?_
    refine lv_bipush (v := 30) X.x X.b dX11_plan_250 (by decide) ?_
    refine lv_iload X.x X.b dX11_plan_252 (lv_at hl 4 rfl) ?_
    refine lv_imul X.x X.b dX11_plan_254 ?_
    refine lv_iconst (v := 4) X.x X.b dX11_plan_255 (by decide) ?_
    refine lv_iadd X.x X.b dX11_plan_256 ?_
    refine lv_iload X.x X.b dX11_plan_257 (lv_at hl 9 rfl) ?_
    obtain ⟨b81, hf⟩ := wGi_s hf
    obtain ⟨g82, e83, hf⟩ := wLe_s hf
    refine bR_1 X h (hS 1) Nat.one_pos Nat.one_pos e83 b81 dX11_plan_259 (fun H locs h => ?_)
    exact wX11_plan_b260 hS X h (lv_sub hl [0, 1, 2, 3, 4, 5, 6, 7, 8, 9] rfl) hf J1 J2 JR
set_option maxHeartbeats 4000000 in
set_option maxRecDepth 20000 in
theorem wX11_plan_b197 {k : En} {S : Nat → Prop} (hS : ∀ t, S t) {a1 : Int32} {a2 : Int32} {res : Mm × Int32} (X : Cx YR S k p s m args meth c cX11_plan 13 (some .int) RX11) {g : Mm} {x3 : Int32} {x4 : Int32} {x7 : Int32} {x8 : Int32} {x9 : Int32} {x10 : Int32} {x11 : Int32} {z0 : Int32} {z1 : Int32} {H : Heap} {locs : List Loc} {ls : Array Slot} (h : Hx YR S k s g H locs) (hl : lv_has ls 13 [(0, .ref (k.1 + adR 0 0 0)), (1, .int a1), (2, .int a2), (3, .int x3), (4, .int x4), (7, .int x7), (8, .int x8), (9, .int x9), (10, .int x10), (11, .int x11)]) {r : (Mm × Int32 × Int32 × Int32 × Int32) ⊕ ((Mm × Int32 × Int32 × Int32 × Int32) ⊕ (Mm × Int32))} (hf : fX11_plan_b197 g a1 a2 x3 x4 x7 x8 x9 x10 x11 z0 z1 = some r) (J1 : ∀ (g : Mm) (x7 : Int32) (x8 : Int32) (x9 : Int32) (x11 : Int32), r = .inl (g, x7, x8, x9, x11) → ∀ (H : Heap) (locs : List Loc) (ls : Array Slot), Hx YR S k s g H locs → lv_has ls 13 [(0, .ref (k.1 + adR 0 0 0)), (1, .int a1), (2, .int a2), (3, .int x3), (4, .int x4), (7, .int x7), (8, .int x8), (9, .int x9), (10, .int x10), (11, .int x11)] → W p l e (RmN 9 209) s m args below meth c H locs 0 0 (Fin YR S k args s below (some (.int res.2)) res.1) (F0 m 181 ls [])) (J2 : ∀ t1, r = .inr t1 → ∀ (g : Mm) (x7 : Int32) (x8 : Int32) (x9 : Int32) (x10 : Int32), t1 = .inl (g, x7, x8, x9, x10) → ∀ (H : Heap) (locs : List Loc) (ls : Array Slot), Hx YR S k s g H locs → lv_has ls 13 [(0, .ref (k.1 + adR 0 0 0)), (1, .int a1), (2, .int a2), (3, .int x3), (4, .int x4), (7, .int x7), (8, .int x8), (9, .int x9), (10, .int x10)] → W p l e (RmN 9 209) s m args below meth c H locs 0 0 (Fin YR S k args s below (some (.int res.2)) res.1) (F0 m 169 ls [])) (JR : ∀ t1, r = .inr t1 → ∀ t2, t1 = .inr t2 → t2 = res) :
    W p l e (RmN 9 209) s m args below meth c H locs 0 0 (Fin YR S k args s below (some (.int res.2)) res.1) (F0 m 197 ls [.int z1, .int z0]) := by
  unfold fX11_plan_b197 at hf
  refine lv_icmp_ge (tgt := 321) X.x X.b dX11_plan_197 (by decide) (fun c49 => ?_) (fun c49 => ?_)
  · have hf := wT c49 hf
    obtain ⟨t50, hf, e51⟩ := wEx_s hf
    have J1 := J2 t50 e51
    have JR := JR t50 e51
    obtain ⟨y52, e53, hf⟩ := wLe_s hf
    refine lv_iinc (v := y52) (lv' := [(10, .int y52), (0, .ref (k.1 + adR 0 0 0)), (1, .int a1), (2, .int a2), (3, .int x3), (4, .int x4), (7, .int x7), (8, .int x8), (9, .int x9), (11, .int x11)]) X.x X.b dX11_plan_321 hl (k := 8) rfl (by rw [e53]; rfl) (by decide) rfl (fun ls hl => ?_)
    refine lv_goto (tgt := 169) X.x X.b dX11_plan_324 (by decide) ?_
    exact J1 _ _ _ _ _ (Option.some.inj hf).symm _ _ _ h (lv_sub hl [1, 2, 3, 4, 5, 6, 7, 8, 0] rfl)
  · have hf := wF c49 hf
    refine lv_aload_n X.x X.b dX11_plan_200 rfl (lv_at hl 0 rfl) ?_
    refine lv_iload_n X.x X.b dX11_plan_201 rfl (lv_at hl 3 rfl) ?_
    refine lv_iload X.x X.b dX11_plan_202 (lv_at hl 8 rfl) ?_
    obtain ⟨y55, e54, hf⟩ := wBd_s hf
    refine ro_callvI (As := [.int x3, .int x10]) (g1 := g) (x := y55) X h (kX11_maySit l hS e54) mv_X11_maySit lk_X11_279 ⟨rfl, rfl⟩ ⟨(Nat.le_of_ble_eq_true rfl), (Nat.le_of_ble_eq_true rfl)⟩ (rR_0 X h (hS 0) Nat.one_pos Nat.one_pos) rfl hl rfl (Nat.le_of_ble_eq_true rfl) ⟨Nat.zero_le _, Nat.zero_le _⟩ dX11_plan_204 (fun H locs h => ?_)
    refine lv_if_eq (tgt := 315) X.x X.b dX11_plan_207 (by decide) (fun c56 => ?_) (fun c56 => ?_)
    · have hf := wT c56 hf
      exact wX11_plan_b315 hS X h (lv_sub hl [0, 1, 2, 3, 4, 5, 6, 7, 8, 9] rfl) hf J1 J2 JR
    · have hf := wF c56 hf
      refine lv_iload X.x X.b dX11_plan_210 (lv_at hl 4 rfl) ?_
      refine lv_iconst (v := (-1)) X.x X.b dX11_plan_212 (by decide) ?_
      refine lv_icmp_eq (tgt := 227) X.x X.b dX11_plan_213 (by decide) (fun c59 => ?_) (fun c59 => ?_)
      · have hf := wT c59 hf
        exact wX11_plan_b227 hS X h (lv_sub hl [0, 1, 2, 3, 4, 5, 6, 7, 8, 9] rfl) hf J1 J2 JR
      · have hf := wF c59 hf
        refine lv_aload_n X.x X.b dX11_plan_216 rfl (lv_at hl 0 rfl) ?_
        refine lv_iload X.x X.b dX11_plan_217 (lv_at hl 4 rfl) ?_
        refine lv_iload X.x X.b dX11_plan_219 (lv_at hl 9 rfl) ?_
        obtain ⟨y85, e84, hf⟩ := wBd_s hf
        refine ro_callvI (As := [.int x4, .int x11]) (g1 := g) (x := y85) X h (kX11_maySit l hS e84) mv_X11_maySit lk_X11_279 ⟨rfl, rfl⟩ ⟨(Nat.le_of_ble_eq_true rfl), (Nat.le_of_ble_eq_true rfl)⟩ (rR_0 X h (hS 0) Nat.one_pos Nat.one_pos) rfl hl rfl (Nat.le_of_ble_eq_true rfl) ⟨Nat.zero_le _, Nat.zero_le _⟩ dX11_plan_221 (fun H locs h => ?_)
        refine lv_if_eq (tgt := 315) X.x X.b dX11_plan_224 (by decide) (fun c86 => ?_) (fun c86 => ?_)
        · have hf := wT c86 hf
          exact wX11_plan_b315 hS X h (lv_sub hl [0, 1, 2, 3, 4, 5, 6, 7, 8, 9] rfl) hf J1 J2 JR
        · have hf := wF c86 hf
          exact wX11_plan_b227 hS X h (lv_sub hl [0, 1, 2, 3, 4, 5, 6, 7, 8, 9] rfl) hf J1 J2 JR
set_option maxHeartbeats 4000000 in
set_option maxRecDepth 20000 in
theorem wX11_plan_L181 {k : En} {S : Nat → Prop} (hS : ∀ t, S t) {a1 : Int32} {a2 : Int32} {res : Mm × Int32} (X : Cx YR S k p s m args meth c cX11_plan 13 (some .int) RX11) {x3 : Int32} {x4 : Int32} {x10 : Int32} {r : (Mm × Int32 × Int32 × Int32 × Int32) ⊕ (Mm × Int32)} (J1 : ∀ (g : Mm) (x7 : Int32) (x8 : Int32) (x9 : Int32) (x10 : Int32), r = .inl (g, x7, x8, x9, x10) → ∀ (H : Heap) (locs : List Loc) (ls : Array Slot), Hx YR S k s g H locs → lv_has ls 13 [(0, .ref (k.1 + adR 0 0 0)), (1, .int a1), (2, .int a2), (3, .int x3), (4, .int x4), (7, .int x7), (8, .int x8), (9, .int x9), (10, .int x10)] → W p l e (RmN 9 209) s m args below meth c H locs 0 0 (Fin YR S k args s below (some (.int res.2)) res.1) (F0 m 169 ls [])) (JR : ∀ t1, r = .inr t1 → t1 = res) :
    ∀ (fu : Nat) (g : Mm) (x7 : Int32) (x8 : Int32) (x9 : Int32) (x11 : Int32) (H : Heap) (locs : List Loc) (ls : Array Slot), Hx YR S k s g H locs → lv_has ls 13 [(0, .ref (k.1 + adR 0 0 0)), (1, .int a1), (2, .int a2), (3, .int x3), (4, .int x4), (7, .int x7), (8, .int x8), (9, .int x9), (10, .int x10), (11, .int x11)] → wLp (fun q => fX11_plan_B181 q.1 a1 a2 x3 x4 q.2.1 q.2.2.1 q.2.2.2.1 x10 q.2.2.2.2) fu (g, x7, x8, x9, x11) = some r → W p l e (RmN 9 209) s m args below meth c H locs 0 0 (Fin YR S k args s below (some (.int res.2)) res.1) (F0 m 181 ls []) := by
  intro fu
  induction fu with
  | zero => intro g x7 x8 x9 x11 H locs ls h hl hf; exact (wLp_0 hf).elim
  | succ fu ih1 =>
    intro g x7 x8 x9 x11 H locs ls h hl hf
    obtain ⟨r1, hf, hr⟩ := wLp_s hf
    have J1n : ∀ (g : Mm) (x7 : Int32) (x8 : Int32) (x9 : Int32) (x11 : Int32), r1 = .inl (g, x7, x8, x9, x11) → ∀ (H : Heap) (locs : List Loc) (ls : Array Slot), Hx YR S k s g H locs → lv_has ls 13 [(0, .ref (k.1 + adR 0 0 0)), (1, .int a1), (2, .int a2), (3, .int x3), (4, .int x4), (7, .int x7), (8, .int x8), (9, .int x9), (10, .int x10), (11, .int x11)] → W p l e (RmN 9 209) s m args below meth c H locs 0 0 (Fin YR S k args s below (some (.int res.2)) res.1) (F0 m 181 ls []) := fun g x7 x8 x9 x11 q H locs ls h hl => by subst q; exact ih1 _ _ _ _ _ _ _ _ h hl hr
    have J2n : ∀ t1, r1 = .inr t1 → ∀ (g : Mm) (x7 : Int32) (x8 : Int32) (x9 : Int32) (x10 : Int32), t1 = .inl (g, x7, x8, x9, x10) → ∀ (H : Heap) (locs : List Loc) (ls : Array Slot), Hx YR S k s g H locs → lv_has ls 13 [(0, .ref (k.1 + adR 0 0 0)), (1, .int a1), (2, .int a2), (3, .int x3), (4, .int x4), (7, .int x7), (8, .int x8), (9, .int x9), (10, .int x10)] → W p l e (RmN 9 209) s m args below meth c H locs 0 0 (Fin YR S k args s below (some (.int res.2)) res.1) (F0 m 169 ls []) := fun t1 q => by subst q; obtain rfl := Option.some.inj hr; exact J1
    have JRn : ∀ t1, r1 = .inr t1 → ∀ t2, t1 = .inr t2 → t2 = res := fun t1 q => by subst q; obtain rfl := Option.some.inj hr; exact JR
    have J1 := J1n
    have J2 := J2n
    have JR := JRn
    clear J1n J2n JRn
    have hf : fX11_plan_B181 g a1 a2 x3 x4 x7 x8 x9 x10 x11 = some r1 := hf
    unfold fX11_plan_B181 at hf
    refine lv_iload X.x X.b dX11_plan_181 (lv_at hl 9 rfl) ?_
    refine lv_iload X.x X.b dX11_plan_183 (lv_at hl 4 rfl) ?_
    refine lv_iconst (v := (-1)) X.x X.b dX11_plan_185 (by decide) ?_
    refine lv_icmp_ne (tgt := 193) X.x X.b dX11_plan_186 (by decide) (fun c48 => ?_) (fun c48 => ?_)
    · have hf := wF c48 hf
      refine lv_aload_n X.x X.b dX11_plan_193 rfl (lv_at hl 0 rfl) ?_
      refine gR_0_3 X h (hS 0) Nat.one_pos Nat.one_pos lk_X11_103 dX11_plan_194 ?_
      exact wX11_plan_b197 hS X h (lv_sub hl [0, 1, 2, 3, 4, 5, 6, 7, 8, 9] rfl) hf J1 J2 JR
    · have hf := wT c48 hf
      refine lv_iconst (v := 0) X.x X.b dX11_plan_189 (by decide) ?_
      refine lv_goto (tgt := 197) X.x X.b dX11_plan_190 (by decide) ?_
      exact wX11_plan_b197 hS X h (lv_sub hl [0, 1, 2, 3, 4, 5, 6, 7, 8, 9] rfl) hf J1 J2 JR
set_option maxHeartbeats 4000000 in
set_option maxRecDepth 20000 in
theorem wX11_plan_L169 {k : En} {S : Nat → Prop} (hS : ∀ t, S t) {a1 : Int32} {a2 : Int32} {res : Mm × Int32} (X : Cx YR S k p s m args meth c cX11_plan 13 (some .int) RX11) {x3 : Int32} {x4 : Int32} {r : Mm × Int32} (JR : r = res) :
    ∀ (fu : Nat) (g : Mm) (x7 : Int32) (x8 : Int32) (x9 : Int32) (x10 : Int32) (H : Heap) (locs : List Loc) (ls : Array Slot), Hx YR S k s g H locs → lv_has ls 13 [(0, .ref (k.1 + adR 0 0 0)), (1, .int a1), (2, .int a2), (3, .int x3), (4, .int x4), (7, .int x7), (8, .int x8), (9, .int x9), (10, .int x10)] → wLp (fun q => fX11_plan_B169 q.1 a1 a2 x3 x4 q.2.1 q.2.2.1 q.2.2.2.1 q.2.2.2.2) fu (g, x7, x8, x9, x10) = some r → W p l e (RmN 9 209) s m args below meth c H locs 0 0 (Fin YR S k args s below (some (.int res.2)) res.1) (F0 m 169 ls []) := by
  intro fu
  induction fu with
  | zero => intro g x7 x8 x9 x10 H locs ls h hl hf; exact (wLp_0 hf).elim
  | succ fu ih1 =>
    intro g x7 x8 x9 x10 H locs ls h hl hf
    obtain ⟨r1, hf, hr⟩ := wLp_s hf
    have J1n : ∀ (g : Mm) (x7 : Int32) (x8 : Int32) (x9 : Int32) (x10 : Int32), r1 = .inl (g, x7, x8, x9, x10) → ∀ (H : Heap) (locs : List Loc) (ls : Array Slot), Hx YR S k s g H locs → lv_has ls 13 [(0, .ref (k.1 + adR 0 0 0)), (1, .int a1), (2, .int a2), (3, .int x3), (4, .int x4), (7, .int x7), (8, .int x8), (9, .int x9), (10, .int x10)] → W p l e (RmN 9 209) s m args below meth c H locs 0 0 (Fin YR S k args s below (some (.int res.2)) res.1) (F0 m 169 ls []) := fun g x7 x8 x9 x10 q H locs ls h hl => by subst q; exact ih1 _ _ _ _ _ _ _ _ h hl hr
    have JRn : ∀ t1, r1 = .inr t1 → t1 = res := fun t1 q => by subst q; obtain rfl := Option.some.inj hr; exact JR
    have J1 := J1n
    have JR := JRn
    clear J1n JRn
    have hf : fX11_plan_B169 g a1 a2 x3 x4 x7 x8 x9 x10 = some r1 := hf
    unfold fX11_plan_B169 at hf
    refine lv_iload X.x X.b dX11_plan_169 (lv_at hl 8 rfl) ?_
    refine lv_aload_n X.x X.b dX11_plan_171 rfl (lv_at hl 0 rfl) ?_
    refine gR_0_3 X h (hS 0) Nat.one_pos Nat.one_pos lk_X11_103 dX11_plan_172 ?_
    refine lv_icmp_ge (tgt := 327) X.x X.b dX11_plan_175 (by decide) (fun c34 => ?_) (fun c34 => ?_)
    · have hf := wT c34 hf
      obtain ⟨t35, hf, e36⟩ := wEx_s hf
      have JR := JR t35 e36
      refine lv_aload_n X.x X.b dX11_plan_327 rfl (lv_at hl 0 rfl) ?_
      refine lv_iload_n X.x X.b dX11_plan_328 rfl (lv_at hl 1 rfl) ?_
      obtain ⟨g37, e38, hf⟩ := wLe_s hf
      refine pR_0_8 X h (hS 0) Nat.one_pos Nat.one_pos lk_X11_282 e38 dX11_plan_329 (fun H locs h => ?_)
      refine lv_aload_n X.x X.b dX11_plan_332 rfl (lv_at hl 0 rfl) ?_
      refine gR_0_9 X h (hS 0) Nat.one_pos Nat.one_pos lk_X11_22 dX11_plan_333 ?_
      refine lv_iload_n X.x X.b dX11_plan_336 rfl (lv_at hl 3 rfl) ?_
      refine lv_iload X.x X.b dX11_plan_337 (lv_at hl 6 rfl) ?_
      obtain ⟨b39, hf⟩ := wGi_s hf
      obtain ⟨g40, e41, hf⟩ := wLe_s hf
      refine bR_5 X h (hS 5) Nat.one_pos Nat.one_pos e41 b39 dX11_plan_339 (fun H locs h => ?_)
      refine lv_iload X.x X.b dX11_plan_340 (lv_at hl 4 rfl) ?_
      refine lv_iconst (v := (-1)) X.x X.b dX11_plan_342 (by decide) ?_
      refine lv_icmp_eq (tgt := 355) X.x X.b dX11_plan_343 (by decide) (fun c42 => ?_) (fun c42 => ?_)
      · have hf := wT c42 hf
        refine lv_iload X.x X.b dX11_plan_355 (lv_at hl 5 rfl) ?_
        cases (Option.some.inj hf).trans JR
        exact ro_iret X h dX11_plan_357
      · have hf := wF c42 hf
        refine lv_aload_n X.x X.b dX11_plan_346 rfl (lv_at hl 0 rfl) ?_
        refine gR_0_9 X h (hS 0) Nat.one_pos Nat.one_pos lk_X11_22 dX11_plan_347 ?_
        refine lv_iload X.x X.b dX11_plan_350 (lv_at hl 4 rfl) ?_
        refine lv_iload X.x X.b dX11_plan_352 (lv_at hl 7 rfl) ?_
        obtain ⟨b43, hf⟩ := wGi_s hf
        obtain ⟨g44, e45, hf⟩ := wLe_s hf
        refine bR_5 X h (hS 5) Nat.one_pos Nat.one_pos e45 b43 dX11_plan_354 (fun H locs h => ?_)
        refine lv_iload X.x X.b dX11_plan_355 (lv_at hl 5 rfl) ?_
        cases (Option.some.inj hf).trans JR
        exact ro_iret X h dX11_plan_357
    · have hf := wF c34 hf
      refine lv_iconst (v := (-1)) X.x X.b dX11_plan_178 (by decide) ?_
      obtain ⟨y46, e47, hf⟩ := wLe_s hf
      refine lv_nmi e47 ?_
      refine lv_istore (lv' := [(11, .int y46), (0, .ref (k.1 + adR 0 0 0)), (1, .int a1), (2, .int a2), (3, .int x3), (4, .int x4), (7, .int x7), (8, .int x8), (9, .int x9), (10, .int x10)]) X.x X.b dX11_plan_179 hl (by decide) rfl (fun ls hl => ?_)
      exact wX11_plan_L181 hS X J1 JR _ _ _ _ _ _ _ _ _ h (lv_sub hl [1, 2, 3, 4, 5, 6, 7, 8, 9, 0] rfl) hf
set_option maxHeartbeats 4000000 in
set_option maxRecDepth 20000 in
theorem wX11_plan_b100 {k : En} {S : Nat → Prop} (hS : ∀ t, S t) {a1 : Int32} {a2 : Int32} {res : Mm × Int32} (X : Cx YR S k p s m args meth c cX11_plan 13 (some .int) RX11) {g : Mm} {x3 : Int32} {x4 : Int32} {x5 : Int32} {x6 : Int32} {x7 : Int32} {H : Heap} {locs : List Loc} {ls : Array Slot} (h : Hx YR S k s g H locs) (hl : lv_has ls 13 [(0, .ref (k.1 + adR 0 0 0)), (1, .int a1), (2, .int a2), (3, .int x3), (4, .int x4), (5, .int x5), (6, .int x6), (7, .int x7)]) {r : (Mm × Int32 × Int32 × Int32 × Int32 × Int32) ⊕ (Mm × Int32)} (hf : fX11_plan_b100 g a1 a2 x3 x4 x5 x6 x7 = some r) (J1 : ∀ (g : Mm) (x3 : Int32) (x4 : Int32) (x5 : Int32) (x6 : Int32) (x7 : Int32), r = .inl (g, x3, x4, x5, x6, x7) → ∀ (H : Heap) (locs : List Loc) (ls : Array Slot), Hx YR S k s g H locs → lv_has ls 13 [(0, .ref (k.1 + adR 0 0 0)), (1, .int a1), (2, .int a2), (3, .int x3), (4, .int x4), (5, .int x5), (6, .int x6), (7, .int x7)] → W p l e (RmN 9 209) s m args below meth c H locs 0 0 (Fin YR S k args s below (some (.int res.2)) res.1) (F0 m 30 ls [])) (JR : ∀ t1, r = .inr t1 → t1 = res) :
    W p l e (RmN 9 209) s m args below meth c H locs 0 0 (Fin YR S k args s below (some (.int res.2)) res.1) (F0 m 100 ls []) := by
  unfold fX11_plan_b100 at hf
  obtain ⟨y88, e89, hf⟩ := wLe_s hf
  refine lv_iinc (v := y88) (lv' := [(7, .int y88), (0, .ref (k.1 + adR 0 0 0)), (1, .int a1), (2, .int a2), (3, .int x3), (4, .int x4), (5, .int x5), (6, .int x6)]) X.x X.b dX11_plan_100 hl (k := 7) rfl (by rw [e89]; rfl) (by decide) rfl (fun ls hl => ?_)
  refine lv_goto (tgt := 30) X.x X.b dX11_plan_103 (by decide) ?_
  exact J1 _ _ _ _ _ _ (Option.some.inj hf).symm _ _ _ h (lv_sub hl [1, 2, 3, 4, 5, 6, 7, 0] rfl)
set_option maxHeartbeats 4000000 in
set_option maxRecDepth 20000 in
theorem wX11_plan_b98 {k : En} {S : Nat → Prop} (hS : ∀ t, S t) {a1 : Int32} {a2 : Int32} {res : Mm × Int32} (X : Cx YR S k p s m args meth c cX11_plan 13 (some .int) RX11) {g : Mm} {x3 : Int32} {x4 : Int32} {x5 : Int32} {x7 : Int32} {z0 : Int32} {H : Heap} {locs : List Loc} {ls : Array Slot} (h : Hx YR S k s g H locs) (hl : lv_has ls 13 [(0, .ref (k.1 + adR 0 0 0)), (1, .int a1), (2, .int a2), (3, .int x3), (4, .int x4), (5, .int x5), (7, .int x7)]) {r : (Mm × Int32 × Int32 × Int32 × Int32 × Int32) ⊕ (Mm × Int32)} (hf : fX11_plan_b98 g a1 a2 x3 x4 x5 x7 z0 = some r) (J1 : ∀ (g : Mm) (x3 : Int32) (x4 : Int32) (x5 : Int32) (x6 : Int32) (x7 : Int32), r = .inl (g, x3, x4, x5, x6, x7) → ∀ (H : Heap) (locs : List Loc) (ls : Array Slot), Hx YR S k s g H locs → lv_has ls 13 [(0, .ref (k.1 + adR 0 0 0)), (1, .int a1), (2, .int a2), (3, .int x3), (4, .int x4), (5, .int x5), (6, .int x6), (7, .int x7)] → W p l e (RmN 9 209) s m args below meth c H locs 0 0 (Fin YR S k args s below (some (.int res.2)) res.1) (F0 m 30 ls [])) (JR : ∀ t1, r = .inr t1 → t1 = res) :
    W p l e (RmN 9 209) s m args below meth c H locs 0 0 (Fin YR S k args s below (some (.int res.2)) res.1) (F0 m 98 ls [.int z0]) := by
  unfold fX11_plan_b98 at hf
  refine lv_istore (lv' := [(6, .int z0), (0, .ref (k.1 + adR 0 0 0)), (1, .int a1), (2, .int a2), (3, .int x3), (4, .int x4), (5, .int x5), (7, .int x7)]) X.x X.b dX11_plan_98 hl (by decide) rfl (fun ls hl => ?_)
  exact wX11_plan_b100 hS X h (lv_sub hl [1, 2, 3, 4, 5, 6, 0, 7] rfl) hf J1 JR
set_option maxHeartbeats 4000000 in
set_option maxRecDepth 20000 in
theorem wX11_plan_b97 {k : En} {S : Nat → Prop} (hS : ∀ t, S t) {a1 : Int32} {a2 : Int32} {res : Mm × Int32} (X : Cx YR S k p s m args meth c cX11_plan 13 (some .int) RX11) {g : Mm} {x3 : Int32} {x4 : Int32} {x5 : Int32} {x7 : Int32} {H : Heap} {locs : List Loc} {ls : Array Slot} (h : Hx YR S k s g H locs) (hl : lv_has ls 13 [(0, .ref (k.1 + adR 0 0 0)), (1, .int a1), (2, .int a2), (3, .int x3), (4, .int x4), (5, .int x5), (7, .int x7)]) {r : (Mm × Int32 × Int32 × Int32 × Int32 × Int32) ⊕ (Mm × Int32)} (hf : fX11_plan_b97 g a1 a2 x3 x4 x5 x7 = some r) (J1 : ∀ (g : Mm) (x3 : Int32) (x4 : Int32) (x5 : Int32) (x6 : Int32) (x7 : Int32), r = .inl (g, x3, x4, x5, x6, x7) → ∀ (H : Heap) (locs : List Loc) (ls : Array Slot), Hx YR S k s g H locs → lv_has ls 13 [(0, .ref (k.1 + adR 0 0 0)), (1, .int a1), (2, .int a2), (3, .int x3), (4, .int x4), (5, .int x5), (6, .int x6), (7, .int x7)] → W p l e (RmN 9 209) s m args below meth c H locs 0 0 (Fin YR S k args s below (some (.int res.2)) res.1) (F0 m 30 ls [])) (JR : ∀ t1, r = .inr t1 → t1 = res) :
    W p l e (RmN 9 209) s m args below meth c H locs 0 0 (Fin YR S k args s below (some (.int res.2)) res.1) (F0 m 97 ls []) := by
  unfold fX11_plan_b97 at hf
  refine lv_iconst (v := 0) X.x X.b dX11_plan_97 (by decide) ?_
  exact wX11_plan_b98 hS X h (lv_sub hl [0, 1, 2, 3, 4, 5, 6] rfl) hf J1 JR
set_option maxHeartbeats 4000000 in
set_option maxRecDepth 20000 in
theorem wX11_plan_b75 {k : En} {S : Nat → Prop} (hS : ∀ t, S t) {a1 : Int32} {a2 : Int32} {res : Mm × Int32} (X : Cx YR S k p s m args meth c cX11_plan 13 (some .int) RX11) {g : Mm} {x4 : Int32} {x5 : Int32} {x6 : Int32} {x7 : Int32} {z0 : Int32} {H : Heap} {locs : List Loc} {ls : Array Slot} (h : Hx YR S k s g H locs) (hl : lv_has ls 13 [(0, .ref (k.1 + adR 0 0 0)), (1, .int a1), (2, .int a2), (4, .int x4), (5, .int x5), (6, .int x6), (7, .int x7)]) {r : (Mm × Int32 × Int32 × Int32 × Int32 × Int32) ⊕ (Mm × Int32)} (hf : fX11_plan_b75 g a1 a2 x4 x5 x6 x7 z0 = some r) (J1 : ∀ (g : Mm) (x3 : Int32) (x4 : Int32) (x5 : Int32) (x6 : Int32) (x7 : Int32), r = .inl (g, x3, x4, x5, x6, x7) → ∀ (H : Heap) (locs : List Loc) (ls : Array Slot), Hx YR S k s g H locs → lv_has ls 13 [(0, .ref (k.1 + adR 0 0 0)), (1, .int a1), (2, .int a2), (3, .int x3), (4, .int x4), (5, .int x5), (6, .int x6), (7, .int x7)] → W p l e (RmN 9 209) s m args below meth c H locs 0 0 (Fin YR S k args s below (some (.int res.2)) res.1) (F0 m 30 ls [])) (JR : ∀ t1, r = .inr t1 → t1 = res) :
    W p l e (RmN 9 209) s m args below meth c H locs 0 0 (Fin YR S k args s below (some (.int res.2)) res.1) (F0 m 75 ls [.int z0]) := by
  unfold fX11_plan_b75 at hf
  refine lv_istore_n (lv' := [(3, .int z0), (0, .ref (k.1 + adR 0 0 0)), (1, .int a1), (2, .int a2), (4, .int x4), (5, .int x5), (6, .int x6), (7, .int x7)]) X.x X.b dX11_plan_75 rfl hl (by decide) rfl (fun ls hl => ?_)
  obtain ⟨y92, e93, hf⟩ := wLe_s hf
  refine lv_iinc (v := y92) (lv' := [(5, .int y92), (3, .int z0), (0, .ref (k.1 + adR 0 0 0)), (1, .int a1), (2, .int a2), (4, .int x4), (6, .int x6), (7, .int x7)]) X.x X.b dX11_plan_76 hl (k := 5) rfl (by rw [e93]; rfl) (by decide) rfl (fun ls hl => ?_)
  refine lv_iload X.x X.b dX11_plan_79 (lv_at hl 6 rfl) ?_
  refine lv_if_eq (tgt := 97) X.x X.b dX11_plan_81 (by decide) (fun c94 => ?_) (fun c94 => ?_)
  · have hf := wT c94 hf
    exact wX11_plan_b97 hS X h (lv_sub hl [2, 3, 4, 1, 5, 0, 7] rfl) hf J1 JR
  · have hf := wF c94 hf
    refine lv_aload_n X.x X.b dX11_plan_84 rfl (lv_at hl 2 rfl) ?_
    refine lv_iload X.x X.b dX11_plan_85 (lv_at hl 7 rfl) ?_
    obtain ⟨y96, e95, hf⟩ := wBd_s hf
    refine ro_callvI (As := [.int x7]) (g1 := g) (x := y96) X h (kX11_isAhead l hS e95) mv_X11_isAhead lk_X11_121 ⟨rfl, rfl⟩ ⟨(Nat.le_of_ble_eq_true rfl), (Nat.le_of_ble_eq_true rfl)⟩ (rR_0 X h (hS 0) Nat.one_pos Nat.one_pos) rfl hl rfl (Nat.le_of_ble_eq_true rfl) ⟨Nat.zero_le _, Nat.zero_le _⟩ dX11_plan_87 (fun H locs h => ?_)
    refine lv_if_eq (tgt := 97) X.x X.b dX11_plan_90 (by decide) (fun c97 => ?_) (fun c97 => ?_)
    · have hf := wT c97 hf
      exact wX11_plan_b97 hS X h (lv_sub hl [2, 3, 4, 1, 5, 0, 7] rfl) hf J1 JR
    · have hf := wF c97 hf
      refine lv_iconst (v := 1) X.x X.b dX11_plan_93 (by decide) ?_
      refine lv_goto (tgt := 98) X.x X.b dX11_plan_94 (by decide) ?_
      exact wX11_plan_b98 hS X h (lv_sub hl [2, 3, 4, 1, 5, 0, 7] rfl) hf J1 JR
set_option maxHeartbeats 4000000 in
set_option maxRecDepth 20000 in
theorem wX11_plan_b62 {k : En} {S : Nat → Prop} (hS : ∀ t, S t) {a1 : Int32} {a2 : Int32} {res : Mm × Int32} (X : Cx YR S k p s m args meth c cX11_plan 13 (some .int) RX11) {g : Mm} {x3 : Int32} {x5 : Int32} {x6 : Int32} {x7 : Int32} {z0 : Int32} {H : Heap} {locs : List Loc} {ls : Array Slot} (h : Hx YR S k s g H locs) (hl : lv_has ls 13 [(0, .ref (k.1 + adR 0 0 0)), (1, .int a1), (2, .int a2), (3, .int x3), (5, .int x5), (6, .int x6), (7, .int x7)]) {r : (Mm × Int32 × Int32 × Int32 × Int32 × Int32) ⊕ (Mm × Int32)} (hf : fX11_plan_b62 g a1 a2 x3 x5 x6 x7 z0 = some r) (J1 : ∀ (g : Mm) (x3 : Int32) (x4 : Int32) (x5 : Int32) (x6 : Int32) (x7 : Int32), r = .inl (g, x3, x4, x5, x6, x7) → ∀ (H : Heap) (locs : List Loc) (ls : Array Slot), Hx YR S k s g H locs → lv_has ls 13 [(0, .ref (k.1 + adR 0 0 0)), (1, .int a1), (2, .int a2), (3, .int x3), (4, .int x4), (5, .int x5), (6, .int x6), (7, .int x7)] → W p l e (RmN 9 209) s m args below meth c H locs 0 0 (Fin YR S k args s below (some (.int res.2)) res.1) (F0 m 30 ls [])) (JR : ∀ t1, r = .inr t1 → t1 = res) :
    W p l e (RmN 9 209) s m args below meth c H locs 0 0 (Fin YR S k args s below (some (.int res.2)) res.1) (F0 m 62 ls [.int z0]) := by
  unfold fX11_plan_b62 at hf
  refine lv_istore (lv' := [(4, .int z0), (0, .ref (k.1 + adR 0 0 0)), (1, .int a1), (2, .int a2), (3, .int x3), (5, .int x5), (6, .int x6), (7, .int x7)]) X.x X.b dX11_plan_62 hl (by decide) rfl (fun ls hl => ?_)
  refine lv_iload X.x X.b dX11_plan_64 (lv_at hl 5 rfl) ?_
  refine lv_if_ne (tgt := 74) X.x X.b dX11_plan_66 (by decide) (fun c91 => ?_) (fun c91 => ?_)
  · have hf := wF c91 hf
    refine lv_iload_n X.x X.b dX11_plan_74 rfl (lv_at hl 4 rfl) ?_
    exact wX11_plan_b75 hS X h (lv_sub hl [1, 2, 3, 0, 5, 6, 7] rfl) hf J1 JR
  · have hf := wT c91 hf
    refine lv_iload X.x X.b dX11_plan_69 (lv_at hl 7 rfl) ?_
    refine lv_goto (tgt := 75) X.x X.b dX11_plan_71 (by decide) ?_
    exact wX11_plan_b75 hS X h (lv_sub hl [1, 2, 3, 0, 5, 6, 7] rfl) hf J1 JR
set_option maxHeartbeats 4000000 in
set_option maxRecDepth 20000 in
theorem wX11_plan_L30 {k : En} {S : Nat → Prop} (hS : ∀ t, S t) {a1 : Int32} {a2 : Int32} {res : Mm × Int32} (X : Cx YR S k p s m args meth c cX11_plan 13 (some .int) RX11) {r : Mm × Int32} (JR : r = res) :
    ∀ (fu : Nat) (g : Mm) (x3 : Int32) (x4 : Int32) (x5 : Int32) (x6 : Int32) (x7 : Int32) (H : Heap) (locs : List Loc) (ls : Array Slot), Hx YR S k s g H locs → lv_has ls 13 [(0, .ref (k.1 + adR 0 0 0)), (1, .int a1), (2, .int a2), (3, .int x3), (4, .int x4), (5, .int x5), (6, .int x6), (7, .int x7)] → wLp (fun q => fX11_plan_B30 q.1 a1 a2 q.2.1 q.2.2.1 q.2.2.2.1 q.2.2.2.2.1 q.2.2.2.2.2) fu (g, x3, x4, x5, x6, x7) = some r → W p l e (RmN 9 209) s m args below meth c H locs 0 0 (Fin YR S k args s below (some (.int res.2)) res.1) (F0 m 30 ls []) := by
  intro fu
  induction fu with
  | zero => intro g x3 x4 x5 x6 x7 H locs ls h hl hf; exact (wLp_0 hf).elim
  | succ fu ih1 =>
    intro g x3 x4 x5 x6 x7 H locs ls h hl hf
    obtain ⟨r1, hf, hr⟩ := wLp_s hf
    have J1n : ∀ (g : Mm) (x3 : Int32) (x4 : Int32) (x5 : Int32) (x6 : Int32) (x7 : Int32), r1 = .inl (g, x3, x4, x5, x6, x7) → ∀ (H : Heap) (locs : List Loc) (ls : Array Slot), Hx YR S k s g H locs → lv_has ls 13 [(0, .ref (k.1 + adR 0 0 0)), (1, .int a1), (2, .int a2), (3, .int x3), (4, .int x4), (5, .int x5), (6, .int x6), (7, .int x7)] → W p l e (RmN 9 209) s m args below meth c H locs 0 0 (Fin YR S k args s below (some (.int res.2)) res.1) (F0 m 30 ls []) := fun g x3 x4 x5 x6 x7 q H locs ls h hl => by subst q; exact ih1 _ _ _ _ _ _ _ _ _ h hl hr
    have JRn : ∀ t1, r1 = .inr t1 → t1 = res := fun t1 q => by subst q; obtain rfl := Option.some.inj hr; exact JR
    have J1 := J1n
    have JR := JRn
    clear J1n JRn
    have hf : fX11_plan_B30 g a1 a2 x3 x4 x5 x6 x7 = some r1 := hf
    unfold fX11_plan_B30 at hf
    refine lv_iload X.x X.b dX11_plan_30 (lv_at hl 7 rfl) ?_
    refine lv_aload_n X.x X.b dX11_plan_32 rfl (lv_at hl 0 rfl) ?_
    refine gR_0_1 X h (hS 0) Nat.one_pos Nat.one_pos lk_X11_96 dX11_plan_33 ?_
    refine lv_icmp_ge (tgt := 106) X.x X.b dX11_plan_36 (by decide) (fun c13 => ?_) (fun c13 => ?_)
    · have hf := wT c13 hf
      obtain ⟨t14, hf, e15⟩ := wEx_s hf
      have JR := JR t14 e15
      refine lv_iload X.x X.b dX11_plan_106 (lv_at hl 5 rfl) ?_
      refine lv_iconst (v := 2) X.x X.b dX11_plan_108 (by decide) ?_
      refine lv_icmp_gt (tgt := 122) X.x X.b dX11_plan_109 (by decide) (fun c16 => ?_) (fun c16 => ?_)
      · have hf := wT c16 hf
        refine lv_bipush (v := (-2)) X.x X.b dX11_plan_122 (by decide) ?_
        cases (Option.some.inj hf).trans JR
        exact ro_iret X h dX11_plan_124
      · have hf := wF c16 hf
        refine lv_iload_n X.x X.b dX11_plan_112 rfl (lv_at hl 2 rfl) ?_
        refine lv_iconst (v := 1) X.x X.b dX11_plan_113 (by decide) ?_
        refine lv_bipush (v := 40) X.x X.b dX11_plan_114 (by decide) ?_
        obtain ⟨y18, e17, hf⟩ := wBd_s hf
        refine ro_callsI (As := [.int a2, .int (1 : Int32), .int (40 : Int32)]) (g1 := g) (x := y18) X h (kX11_in l hS e17) mv_X11_in lk_X11_99 ⟨rfl, rfl⟩ ⟨(Nat.le_of_ble_eq_true rfl), (Nat.le_of_ble_eq_true rfl)⟩ rfl hl rfl (Nat.le_of_ble_eq_true rfl) ⟨Nat.zero_le _, Nat.zero_le _⟩ dX11_plan_116 (fun H locs h => ?_)
        refine lv_if_ne (tgt := 125) X.x X.b dX11_plan_119 (by decide) (fun c19 => ?_) (fun c19 => ?_)
        · have hf := wF c19 hf
          refine lv_iload X.x X.b dX11_plan_125 (lv_at hl 6 rfl) ?_
          refine lv_if_ne (tgt := 133) X.x X.b dX11_plan_127 (by decide) (fun c20 => ?_) (fun c20 => ?_)
          · have hf := wF c20 hf
            refine lv_aload_n X.x X.b dX11_plan_133 rfl (lv_at hl 0 rfl) ?_
            refine gR_0_0 X h (hS 0) Nat.one_pos Nat.one_pos lk_X11_7 dX11_plan_134 ?_
            refine lv_sipush (v := 480) X.x X.b dX11_plan_137 (by decide) ?_
            obtain ⟨b21, hf⟩ := wGi_s hf
            refine aR_1 X h (hS 1) Nat.one_pos Nat.one_pos b21 dX11_plan_140 ?_
            refine lv_iload_n X.x X.b dX11_plan_141 rfl (lv_at hl 2 rfl) ?_
            refine lv_iadd X.x X.b dX11_plan_142 ?_
            refine lv_sipush (v := 9999) X.x X.b dX11_plan_143 (by decide) ?_
            refine lv_icmp_le (tgt := 152) X.x X.b dX11_plan_146 (by decide) (fun c22 => ?_) (fun c22 => ?_)
            · have hf := wT c22 hf
              refine lv_aload_n X.x X.b dX11_plan_152 rfl (lv_at hl 0 rfl) ?_
              refine lv_iconst (v := 0) X.x X.b dX11_plan_153 (by decide) ?_
              obtain ⟨g25, e23, hf⟩ := wBd_s hf
              refine ro_callvV (As := [.int (0 : Int32)]) (g1 := g25) X h (kX11_lays l hS e23) mv_X11_lays lk_X11_272 ⟨rfl, rfl⟩ ⟨(Nat.le_of_ble_eq_true rfl), (Nat.le_of_ble_eq_true rfl)⟩ (rR_0 X h (hS 0) Nat.one_pos Nat.one_pos) rfl hl rfl (Nat.le_of_ble_eq_true rfl) ⟨Nat.zero_le _, Nat.zero_le _⟩ dX11_plan_154 (fun H locs h => ?_)
              refine lv_iconst (v := (-1)) X.x X.b dX11_plan_157 (by decide) ?_
              obtain ⟨y26, e27, hf⟩ := wLe_s hf
              refine lv_nmi e27 ?_
              refine lv_istore (lv' := [(7, .int y26), (0, .ref (k.1 + adR 0 0 0)), (1, .int a1), (2, .int a2), (3, .int x3), (4, .int x4), (5, .int x5), (6, .int x6)]) X.x X.b dX11_plan_158 hl (by decide) rfl (fun ls hl => ?_)
              refine lv_iconst (v := (-1)) X.x X.b dX11_plan_160 (by decide) ?_
              obtain ⟨y28, e29, hf⟩ := wLe_s hf
              refine lv_nmi e29 ?_
              refine lv_istore (lv' := [(8, .int y28), (7, .int y26), (0, .ref (k.1 + adR 0 0 0)), (1, .int a1), (2, .int a2), (3, .int x3), (4, .int x4), (5, .int x5), (6, .int x6)]) X.x X.b dX11_plan_161 hl (by decide) rfl (fun ls hl => ?_)
              refine lv_iconst (v := (-1)) X.x X.b dX11_plan_163 (by decide) ?_
              obtain ⟨y30, e31, hf⟩ := wLe_s hf
              refine lv_nmi e31 ?_
              refine lv_istore (lv' := [(9, .int y30), (8, .int y28), (7, .int y26), (0, .ref (k.1 + adR 0 0 0)), (1, .int a1), (2, .int a2), (3, .int x3), (4, .int x4), (5, .int x5), (6, .int x6)]) X.x X.b dX11_plan_164 hl (by decide) rfl (fun ls hl => ?_)
              refine lv_iconst (v := (-1)) X.x X.b dX11_plan_166 (by decide) ?_
              obtain ⟨y32, e33, hf⟩ := wLe_s hf
              refine lv_nmi e33 ?_
              refine lv_istore (lv' := [(10, .int y32), (9, .int y30), (8, .int y28), (7, .int y26), (0, .ref (k.1 + adR 0 0 0)), (1, .int a1), (2, .int a2), (3, .int x3), (4, .int x4), (5, .int x5), (6, .int x6)]) X.x X.b dX11_plan_167 hl (by decide) rfl (fun ls hl => ?_)
              exact wX11_plan_L169 hS X JR _ _ _ _ _ _ _ _ _ h (lv_sub hl [4, 5, 6, 7, 8, 3, 2, 1, 0] rfl) hf
            · have hf := wF c22 hf
              refine lv_bipush (v := (-4)) X.x X.b dX11_plan_149 (by decide) ?_
              cases (Option.some.inj hf).trans JR
              exact ro_iret X h dX11_plan_151
          · have hf := wT c20 hf
            refine lv_bipush (v := (-3)) X.x X.b dX11_plan_130 (by decide) ?_
            cases (Option.some.inj hf).trans JR
            exact ro_iret X h dX11_plan_132
        · have hf := wT c19 hf
          refine lv_bipush (v := (-2)) X.x X.b dX11_plan_122 (by decide) ?_
          cases (Option.some.inj hf).trans JR
          exact ro_iret X h dX11_plan_124
    · have hf := wF c13 hf
      refine lv_iload_n X.x X.b dX11_plan_39 rfl (lv_at hl 1 rfl) ?_
      refine lv_iload X.x X.b dX11_plan_40 (lv_at hl 7 rfl) ?_
      refine lv_ishr X.x X.b dX11_plan_42 ?_
      refine lv_iconst (v := 1) X.x X.b dX11_plan_43 (by decide) ?_
      refine lv_iand X.x X.b dX11_plan_44 ?_
      refine lv_iconst (v := 1) X.x X.b dX11_plan_45 (by decide) ?_
      refine lv_icmp_ne (tgt := 100) X.x X.b dX11_plan_46 (by decide) (fun c87 => ?_) (fun c87 => ?_)
      · have hf := wF c87 hf
        exact wX11_plan_b100 hS X h (lv_sub hl [0, 1, 2, 3, 4, 5, 6, 7] rfl) hf J1 JR
      · have hf := wT c87 hf
        refine lv_iload X.x X.b dX11_plan_49 (lv_at hl 5 rfl) ?_
        refine lv_iconst (v := 1) X.x X.b dX11_plan_51 (by decide) ?_
        refine lv_icmp_ne (tgt := 60) X.x X.b dX11_plan_52 (by decide) (fun c90 => ?_) (fun c90 => ?_)
        · have hf := wF c90 hf
          refine lv_iload X.x X.b dX11_plan_60 (lv_at hl 4 rfl) ?_
          exact wX11_plan_b62 hS X h (lv_sub hl [0, 1, 2, 3, 5, 6, 7] rfl) hf J1 JR
        · have hf := wT c90 hf
          refine lv_iload X.x X.b dX11_plan_55 (lv_at hl 7 rfl) ?_
          refine lv_goto (tgt := 62) X.x X.b dX11_plan_57 (by decide) ?_
          exact wX11_plan_b62 hS X h (lv_sub hl [0, 1, 2, 3, 5, 6, 7] rfl) hf J1 JR
set_option maxHeartbeats 4000000 in
set_option maxRecDepth 20000 in
theorem kX11_plan (l : Launch) {k : En} {S : Nat → Prop} (hS : ∀ t, S t) {a1 : Int32} {a2 : Int32} {res : Mm × Int32} {g : Mm} (hf : fX11_plan g a1 a2 = some res) : Mt l yX11_plan cX11_plan 13 (some .int) (RmN 9 209) YR S k [.ref (k.1 + adR 0 0 0), .int a1, .int a2] g (some (.int res.2)) res.1 := by
  refine Mt.of (by decide) (Nat.le_of_ble_eq_true rfl) ?_
  intro p e s m args below meth c ls X _ h hl
  have X : Cx YR S k p s m args meth c cX11_plan 13 (some .int) RX11 := X
  have hl : lv_has ls 13 [(0, .ref (k.1 + adR 0 0 0)), (1, .int a1), (2, .int a2)] := hl
  have JR : res = res := rfl
  unfold fX11_plan at hf
  refine lv_iload_n X.x X.b dX11_plan_0 rfl (lv_at hl 1 rfl) ?_
  refine lv_if_le (tgt := 14) X.x X.b dX11_plan_1 (by decide) (fun c1 => ?_) (fun c1 => ?_)
  · have hf := wT c1 hf
    refine lv_iconst (v := (-1)) X.x X.b dX11_plan_14 (by decide) ?_
    cases (Option.some.inj hf).trans JR
    exact ro_iret X h dX11_plan_15
  · have hf := wF c1 hf
    refine lv_iload_n X.x X.b dX11_plan_4 rfl (lv_at hl 1 rfl) ?_
    refine lv_iconst (v := 1) X.x X.b dX11_plan_5 (by decide) ?_
    refine lv_aload_n X.x X.b dX11_plan_6 rfl (lv_at hl 0 rfl) ?_
    refine gR_0_1 X h (hS 0) Nat.one_pos Nat.one_pos lk_X11_96 dX11_plan_7 ?_
    refine lv_ishl X.x X.b dX11_plan_10 ?_
    refine lv_icmp_lt (tgt := 16) X.x X.b dX11_plan_11 (by decide) (fun c2 => ?_) (fun c2 => ?_)
    · have hf := wT c2 hf
      refine lv_iconst (v := (-1)) X.x X.b dX11_plan_16 (by decide) ?_
      obtain ⟨y3, e4, hf⟩ := wLe_s hf
      refine lv_nmi e4 ?_
      refine lv_istore_n (lv' := [(3, .int y3), (0, .ref (k.1 + adR 0 0 0)), (1, .int a1), (2, .int a2)]) X.x X.b dX11_plan_17 rfl hl (by decide) rfl (fun ls hl => ?_)
      refine lv_iconst (v := (-1)) X.x X.b dX11_plan_18 (by decide) ?_
      obtain ⟨y5, e6, hf⟩ := wLe_s hf
      refine lv_nmi e6 ?_
      refine lv_istore (lv' := [(4, .int y5), (3, .int y3), (0, .ref (k.1 + adR 0 0 0)), (1, .int a1), (2, .int a2)]) X.x X.b dX11_plan_19 hl (by decide) rfl (fun ls hl => ?_)
      refine lv_iconst (v := 0) X.x X.b dX11_plan_21 (by decide) ?_
      obtain ⟨y7, e8, hf⟩ := wLe_s hf
      refine lv_nmi e8 ?_
      refine lv_istore (lv' := [(5, .int y7), (4, .int y5), (3, .int y3), (0, .ref (k.1 + adR 0 0 0)), (1, .int a1), (2, .int a2)]) X.x X.b dX11_plan_22 hl (by decide) rfl (fun ls hl => ?_)
      refine lv_iconst (v := 1) X.x X.b dX11_plan_24 (by decide) ?_
      obtain ⟨y9, e10, hf⟩ := wLe_s hf
      refine lv_nmi e10 ?_
      refine lv_istore (lv' := [(6, .int y9), (5, .int y7), (4, .int y5), (3, .int y3), (0, .ref (k.1 + adR 0 0 0)), (1, .int a1), (2, .int a2)]) X.x X.b dX11_plan_25 hl (by decide) rfl (fun ls hl => ?_)
      refine lv_iconst (v := 0) X.x X.b dX11_plan_27 (by decide) ?_
      obtain ⟨y11, e12, hf⟩ := wLe_s hf
      refine lv_nmi e12 ?_
      refine lv_istore (lv' := [(7, .int y11), (6, .int y9), (5, .int y7), (4, .int y5), (3, .int y3), (0, .ref (k.1 + adR 0 0 0)), (1, .int a1), (2, .int a2)]) X.x X.b dX11_plan_28 hl (by decide) rfl (fun ls hl => ?_)
      exact wX11_plan_L30 hS X JR _ _ _ _ _ _ _ _ _ _ h (lv_sub hl [5, 6, 7, 4, 3, 2, 1, 0] rfl) hf
    · have hf := wF c2 hf
      refine lv_iconst (v := (-1)) X.x X.b dX11_plan_14 (by decide) ?_
      cases (Option.some.inj hf).trans JR
      exact ro_iret X h dX11_plan_15
set_option maxHeartbeats 4000000 in
set_option maxRecDepth 20000 in
theorem kX11_planned (l : Launch) {k : En} {S : Nat → Prop} (hS : ∀ t, S t) {g0 : Mm} {a1 : Int32} {res : Int32} (hf : fX11_planned g0 a1 = some res) : Mt l yX11_planned cX11_planned 2 (some .int) (RmN 1 22) YR S k [.ref (k.1 + adR 0 0 0), .int a1] g0 (some (.int res)) g0 := by
  refine Mt.of (by decide) (Nat.le_of_ble_eq_true rfl) ?_
  intro p e s m args below meth c ls X _ h hl
  have X : Cx YR S k p s m args meth c cX11_planned 2 (some .int) RX11 := X
  have hl : lv_has ls 2 [(0, .ref (k.1 + adR 0 0 0)), (1, .int a1)] := hl
  have JR : res = res := rfl
  unfold fX11_planned at hf
  refine lv_iload_n X.x X.b dX11_planned_0 rfl (lv_at hl 1 rfl) ?_
  refine lv_iconst (v := 0) X.x X.b dX11_planned_1 (by decide) ?_
  refine lv_bipush (v := 11) X.x X.b dX11_planned_2 (by decide) ?_
  obtain ⟨y2, e1, hf⟩ := wBd_s hf
  refine ro_callsI (As := [.int a1, .int (0 : Int32), .int (11 : Int32)]) (g1 := g0) (x := y2) X h (kX11_in l hS e1) mv_X11_in lk_X11_99 ⟨rfl, rfl⟩ ⟨(Nat.le_of_ble_eq_true rfl), (Nat.le_of_ble_eq_true rfl)⟩ rfl hl rfl (Nat.le_of_ble_eq_true rfl) ⟨Nat.zero_le _, Nat.zero_le _⟩ dX11_planned_4 (fun H locs h => ?_)
  refine lv_if_eq (tgt := 31) X.x X.b dX11_planned_7 (by decide) (fun c3 => ?_) (fun c3 => ?_)
  · have hf := wT c3 hf
    refine lv_bipush (v := (-3)) X.x X.b dX11_planned_31 (by decide) ?_
    cases (Option.some.inj hf).trans JR
    exact ro_iret X h dX11_planned_33
  · have hf := wF c3 hf
    refine lv_aload_n X.x X.b dX11_planned_10 rfl (lv_at hl 0 rfl) ?_
    refine gR_0_8 X h (hS 0) Nat.one_pos Nat.one_pos lk_X11_282 dX11_planned_11 ?_
    refine lv_iload_n X.x X.b dX11_planned_14 rfl (lv_at hl 1 rfl) ?_
    refine lv_ishr X.x X.b dX11_planned_15 ?_
    refine lv_iconst (v := 1) X.x X.b dX11_planned_16 (by decide) ?_
    refine lv_iand X.x X.b dX11_planned_17 ?_
    refine lv_iconst (v := 1) X.x X.b dX11_planned_18 (by decide) ?_
    refine lv_icmp_ne (tgt := 31) X.x X.b dX11_planned_19 (by decide) (fun c4 => ?_) (fun c4 => ?_)
    · have hf := wF c4 hf
      refine lv_bipush (v := (-3)) X.x X.b dX11_planned_31 (by decide) ?_
      cases (Option.some.inj hf).trans JR
      exact ro_iret X h dX11_planned_33
    · have hf := wT c4 hf
      refine lv_aload_n X.x X.b dX11_planned_22 rfl (lv_at hl 0 rfl) ?_
      refine gR_0_9 X h (hS 0) Nat.one_pos Nat.one_pos lk_X11_22 dX11_planned_23 ?_
      refine lv_iload_n X.x X.b dX11_planned_26 rfl (lv_at hl 1 rfl) ?_
      obtain ⟨b5, hf⟩ := wGi_s hf
      refine aR_5 X h (hS 5) Nat.one_pos Nat.one_pos b5 dX11_planned_27 ?_
      refine lv_goto (tgt := 33) X.x X.b dX11_planned_28 (by decide) ?_
      cases (Option.some.inj hf).trans JR
      exact ro_iret X h dX11_planned_33
set_option maxHeartbeats 4000000 in
set_option maxRecDepth 20000 in
theorem wX11_settle_b83 {k : En} {S : Nat → Prop} (hS : ∀ t, S t) {res : Mm × Int32} (X : Cx YR S k p s m args meth c cX11_settle 3 (some .int) RX11) {g : Mm} {x1 : Int32} {x2 : Int32} {H : Heap} {locs : List Loc} {ls : Array Slot} (h : Hx YR S k s g H locs) (hl : lv_has ls 3 [(0, .ref (k.1 + adR 0 0 0)), (1, .int x1), (2, .int x2)]) {r : (Mm × Int32) ⊕ (Mm × Int32)} (hf : fX11_settle_b83 g x1 x2 = some r) (J1 : ∀ (g : Mm) (x2 : Int32), r = .inl (g, x2) → ∀ (H : Heap) (locs : List Loc) (ls : Array Slot), Hx YR S k s g H locs → lv_has ls 3 [(0, .ref (k.1 + adR 0 0 0)), (1, .int x1), (2, .int x2)] → W p l e (RmN 2 43) s m args below meth c H locs 0 0 (Fin YR S k args s below (some (.int res.2)) res.1) (F0 m 46 ls [])) (JR : ∀ t1, r = .inr t1 → t1 = res) :
    W p l e (RmN 2 43) s m args below meth c H locs 0 0 (Fin YR S k args s below (some (.int res.2)) res.1) (F0 m 83 ls []) := by
  unfold fX11_settle_b83 at hf
  obtain ⟨y14, e15, hf⟩ := wLe_s hf
  refine lv_iinc (v := y14) (lv' := [(2, .int y14), (0, .ref (k.1 + adR 0 0 0)), (1, .int x1)]) X.x X.b dX11_settle_83 hl (k := 2) rfl (by rw [e15]; rfl) (by decide) rfl (fun ls hl => ?_)
  refine lv_goto (tgt := 46) X.x X.b dX11_settle_86 (by decide) ?_
  exact J1 _ _ (Option.some.inj hf).symm _ _ _ h (lv_sub hl [1, 2, 0] rfl)
set_option maxHeartbeats 4000000 in
set_option maxRecDepth 20000 in
theorem wX11_settle_L46 {k : En} {S : Nat → Prop} (hS : ∀ t, S t) {res : Mm × Int32} (X : Cx YR S k p s m args meth c cX11_settle 3 (some .int) RX11) {x1 : Int32} {r : Mm × Int32} (JR : r = res) :
    ∀ (fu : Nat) (g : Mm) (x2 : Int32) (H : Heap) (locs : List Loc) (ls : Array Slot), Hx YR S k s g H locs → lv_has ls 3 [(0, .ref (k.1 + adR 0 0 0)), (1, .int x1), (2, .int x2)] → wLp (fun q => fX11_settle_B46 q.1 x1 q.2) fu (g, x2) = some r → W p l e (RmN 2 43) s m args below meth c H locs 0 0 (Fin YR S k args s below (some (.int res.2)) res.1) (F0 m 46 ls []) := by
  intro fu
  induction fu with
  | zero => intro g x2 H locs ls h hl hf; exact (wLp_0 hf).elim
  | succ fu ih1 =>
    intro g x2 H locs ls h hl hf
    obtain ⟨r1, hf, hr⟩ := wLp_s hf
    have J1n : ∀ (g : Mm) (x2 : Int32), r1 = .inl (g, x2) → ∀ (H : Heap) (locs : List Loc) (ls : Array Slot), Hx YR S k s g H locs → lv_has ls 3 [(0, .ref (k.1 + adR 0 0 0)), (1, .int x1), (2, .int x2)] → W p l e (RmN 2 43) s m args below meth c H locs 0 0 (Fin YR S k args s below (some (.int res.2)) res.1) (F0 m 46 ls []) := fun g x2 q H locs ls h hl => by subst q; exact ih1 _ _ _ _ _ h hl hr
    have JRn : ∀ t1, r1 = .inr t1 → t1 = res := fun t1 q => by subst q; obtain rfl := Option.some.inj hr; exact JR
    have J1 := J1n
    have JR := JRn
    clear J1n JRn
    have hf : fX11_settle_B46 g x1 x2 = some r1 := hf
    unfold fX11_settle_B46 at hf
    refine lv_iload_n X.x X.b dX11_settle_46 rfl (lv_at hl 2 rfl) ?_
    refine lv_aload_n X.x X.b dX11_settle_47 rfl (lv_at hl 0 rfl) ?_
    refine gR_0_1 X h (hS 0) Nat.one_pos Nat.one_pos lk_X11_96 dX11_settle_48 ?_
    refine lv_icmp_ge (tgt := 89) X.x X.b dX11_settle_51 (by decide) (fun c10 => ?_) (fun c10 => ?_)
    · have hf := wT c10 hf
      obtain ⟨t11, hf, e12⟩ := wEx_s hf
      have JR := JR t11 e12
      refine lv_iload_n X.x X.b dX11_settle_89 rfl (lv_at hl 1 rfl) ?_
      cases (Option.some.inj hf).trans JR
      exact ro_iret X h dX11_settle_90
    · have hf := wF c10 hf
      refine lv_aload_n X.x X.b dX11_settle_54 rfl (lv_at hl 0 rfl) ?_
      refine gR_0_8 X h (hS 0) Nat.one_pos Nat.one_pos lk_X11_282 dX11_settle_55 ?_
      refine lv_iload_n X.x X.b dX11_settle_58 rfl (lv_at hl 2 rfl) ?_
      refine lv_ishr X.x X.b dX11_settle_59 ?_
      refine lv_iconst (v := 1) X.x X.b dX11_settle_60 (by decide) ?_
      refine lv_iand X.x X.b dX11_settle_61 ?_
      refine lv_iconst (v := 1) X.x X.b dX11_settle_62 (by decide) ?_
      refine lv_icmp_ne (tgt := 83) X.x X.b dX11_settle_63 (by decide) (fun c13 => ?_) (fun c13 => ?_)
      · have hf := wF c13 hf
        exact wX11_settle_b83 hS X h (lv_sub hl [0, 1, 2] rfl) hf J1 JR
      · have hf := wT c13 hf
        refine lv_aload_n X.x X.b dX11_settle_66 rfl (lv_at hl 0 rfl) ?_
        refine gR_0_0 X h (hS 0) Nat.one_pos Nat.one_pos lk_X11_7 dX11_settle_67 ?_
        refine lv_bipush (v := 30) X.x X.b dX11_settle_70 (by decide) ?_
        refine lv_iload_n X.x X.b dX11_settle_72 rfl (lv_at hl 2 rfl) ?_
        refine lv_imul X.x X.b dX11_settle_73 ?_
        refine lv_iconst (v := 4) X.x X.b dX11_settle_74 (by decide) ?_
        refine lv_iadd X.x X.b dX11_settle_75 ?_
        refine lv_aload_n X.x X.b dX11_settle_76 rfl (lv_at hl 0 rfl) ?_
        refine gR_0_9 X h (hS 0) Nat.one_pos Nat.one_pos lk_X11_22 dX11_settle_77 ?_
        refine lv_iload_n X.x X.b dX11_settle_80 rfl (lv_at hl 2 rfl) ?_
        obtain ⟨b16, hf⟩ := wGi_s hf
        refine aR_5 X h (hS 5) Nat.one_pos Nat.one_pos b16 dX11_settle_81 ?_
        obtain ⟨b17, hf⟩ := wGi_s hf
        obtain ⟨g18, e19, hf⟩ := wLe_s hf
        refine bR_1 X h (hS 1) Nat.one_pos Nat.one_pos e19 b17 dX11_settle_82 (fun H locs h => ?_)
        exact wX11_settle_b83 hS X h (lv_sub hl [0, 1, 2] rfl) hf J1 JR
set_option maxHeartbeats 4000000 in
set_option maxRecDepth 20000 in
theorem wX11_settle_b38 {k : En} {S : Nat → Prop} (hS : ∀ t, S t) {res : Mm × Int32} (X : Cx YR S k p s m args meth c cX11_settle 3 (some .int) RX11) {g : Mm} {x1 : Int32} {x2 : Int32} {H : Heap} {locs : List Loc} {ls : Array Slot} (h : Hx YR S k s g H locs) (hl : lv_has ls 3 [(0, .ref (k.1 + adR 0 0 0)), (1, .int x1), (2, .int x2)]) {r : (Mm × Int32 × Int32) ⊕ (Mm × Int32)} (hf : fX11_settle_b38 g x1 x2 = some r) (J1 : ∀ (g : Mm) (x1 : Int32) (x2 : Int32), r = .inl (g, x1, x2) → ∀ (H : Heap) (locs : List Loc) (ls : Array Slot), Hx YR S k s g H locs → lv_has ls 3 [(0, .ref (k.1 + adR 0 0 0)), (1, .int x1), (2, .int x2)] → W p l e (RmN 2 43) s m args below meth c H locs 0 0 (Fin YR S k args s below (some (.int res.2)) res.1) (F0 m 4 ls [])) (JR : ∀ t1, r = .inr t1 → t1 = res) :
    W p l e (RmN 2 43) s m args below meth c H locs 0 0 (Fin YR S k args s below (some (.int res.2)) res.1) (F0 m 38 ls []) := by
  unfold fX11_settle_b38 at hf
  obtain ⟨y21, e22, hf⟩ := wLe_s hf
  refine lv_iinc (v := y21) (lv' := [(2, .int y21), (0, .ref (k.1 + adR 0 0 0)), (1, .int x1)]) X.x X.b dX11_settle_38 hl (k := 2) rfl (by rw [e22]; rfl) (by decide) rfl (fun ls hl => ?_)
  refine lv_goto (tgt := 4) X.x X.b dX11_settle_41 (by decide) ?_
  exact J1 _ _ _ (Option.some.inj hf).symm _ _ _ h (lv_sub hl [1, 2, 0] rfl)
set_option maxHeartbeats 4000000 in
set_option maxRecDepth 20000 in
theorem wX11_settle_L4 {k : En} {S : Nat → Prop} (hS : ∀ t, S t) {res : Mm × Int32} (X : Cx YR S k p s m args meth c cX11_settle 3 (some .int) RX11) {r : Mm × Int32} (JR : r = res) :
    ∀ (fu : Nat) (g : Mm) (x1 : Int32) (x2 : Int32) (H : Heap) (locs : List Loc) (ls : Array Slot), Hx YR S k s g H locs → lv_has ls 3 [(0, .ref (k.1 + adR 0 0 0)), (1, .int x1), (2, .int x2)] → wLp (fun q => fX11_settle_B4 q.1 q.2.1 q.2.2) fu (g, x1, x2) = some r → W p l e (RmN 2 43) s m args below meth c H locs 0 0 (Fin YR S k args s below (some (.int res.2)) res.1) (F0 m 4 ls []) := by
  intro fu
  induction fu with
  | zero => intro g x1 x2 H locs ls h hl hf; exact (wLp_0 hf).elim
  | succ fu ih1 =>
    intro g x1 x2 H locs ls h hl hf
    obtain ⟨r1, hf, hr⟩ := wLp_s hf
    have J1n : ∀ (g : Mm) (x1 : Int32) (x2 : Int32), r1 = .inl (g, x1, x2) → ∀ (H : Heap) (locs : List Loc) (ls : Array Slot), Hx YR S k s g H locs → lv_has ls 3 [(0, .ref (k.1 + adR 0 0 0)), (1, .int x1), (2, .int x2)] → W p l e (RmN 2 43) s m args below meth c H locs 0 0 (Fin YR S k args s below (some (.int res.2)) res.1) (F0 m 4 ls []) := fun g x1 x2 q H locs ls h hl => by subst q; exact ih1 _ _ _ _ _ _ h hl hr
    have JRn : ∀ t1, r1 = .inr t1 → t1 = res := fun t1 q => by subst q; obtain rfl := Option.some.inj hr; exact JR
    have J1 := J1n
    have JR := JRn
    clear J1n JRn
    have hf : fX11_settle_B4 g x1 x2 = some r1 := hf
    unfold fX11_settle_B4 at hf
    refine lv_iload_n X.x X.b dX11_settle_4 rfl (lv_at hl 2 rfl) ?_
    refine lv_aload_n X.x X.b dX11_settle_5 rfl (lv_at hl 0 rfl) ?_
    refine gR_0_1 X h (hS 0) Nat.one_pos Nat.one_pos lk_X11_96 dX11_settle_6 ?_
    refine lv_icmp_ge (tgt := 44) X.x X.b dX11_settle_9 (by decide) (fun c5 => ?_) (fun c5 => ?_)
    · have hf := wT c5 hf
      obtain ⟨t6, hf, e7⟩ := wEx_s hf
      have JR := JR t6 e7
      refine lv_iconst (v := 0) X.x X.b dX11_settle_44 (by decide) ?_
      obtain ⟨y8, e9, hf⟩ := wLe_s hf
      refine lv_nmi e9 ?_
      refine lv_istore_n (lv' := [(2, .int y8), (0, .ref (k.1 + adR 0 0 0)), (1, .int x1)]) X.x X.b dX11_settle_45 rfl hl (by decide) rfl (fun ls hl => ?_)
      exact wX11_settle_L46 hS X JR _ _ _ _ _ _ h (lv_sub hl [1, 2, 0] rfl) hf
    · have hf := wF c5 hf
      refine lv_aload_n X.x X.b dX11_settle_12 rfl (lv_at hl 0 rfl) ?_
      refine gR_0_8 X h (hS 0) Nat.one_pos Nat.one_pos lk_X11_282 dX11_settle_13 ?_
      refine lv_iload_n X.x X.b dX11_settle_16 rfl (lv_at hl 2 rfl) ?_
      refine lv_ishr X.x X.b dX11_settle_17 ?_
      refine lv_iconst (v := 1) X.x X.b dX11_settle_18 (by decide) ?_
      refine lv_iand X.x X.b dX11_settle_19 ?_
      refine lv_iconst (v := 1) X.x X.b dX11_settle_20 (by decide) ?_
      refine lv_icmp_ne (tgt := 38) X.x X.b dX11_settle_21 (by decide) (fun c20 => ?_) (fun c20 => ?_)
      · have hf := wF c20 hf
        exact wX11_settle_b38 hS X h (lv_sub hl [0, 1, 2] rfl) hf J1 JR
      · have hf := wT c20 hf
        refine lv_aload_n X.x X.b dX11_settle_24 rfl (lv_at hl 0 rfl) ?_
        refine lv_iload_n X.x X.b dX11_settle_25 rfl (lv_at hl 2 rfl) ?_
        obtain ⟨y24, e23, hf⟩ := wBd_s hf
        refine ro_callvI (As := [.int x2]) (g1 := g) (x := y24) X h (kX11_isAhead l hS e23) mv_X11_isAhead lk_X11_121 ⟨rfl, rfl⟩ ⟨(Nat.le_of_ble_eq_true rfl), (Nat.le_of_ble_eq_true rfl)⟩ (rR_0 X h (hS 0) Nat.one_pos Nat.one_pos) rfl hl rfl (Nat.le_of_ble_eq_true rfl) ⟨Nat.zero_le _, Nat.zero_le _⟩ dX11_settle_26 (fun H locs h => ?_)
        refine lv_if_ne (tgt := 35) X.x X.b dX11_settle_29 (by decide) (fun c25 => ?_) (fun c25 => ?_)
        · have hf := wF c25 hf
          obtain ⟨y26, e27, hf⟩ := wLe_s hf
          refine lv_iinc (v := y26) (lv' := [(1, .int y26), (0, .ref (k.1 + adR 0 0 0)), (2, .int x2)]) X.x X.b dX11_settle_35 hl (k := 1) rfl (by rw [e27]; rfl) (by decide) rfl (fun ls hl => ?_)
          exact wX11_settle_b38 hS X h (lv_sub hl [1, 0, 2] rfl) hf J1 JR
        · have hf := wT c25 hf
          obtain ⟨t28, hf, e29⟩ := wEx_s hf
          have JR := JR t28 e29
          refine lv_bipush (v := (-3)) X.x X.b dX11_settle_32 (by decide) ?_
          cases (Option.some.inj hf).trans JR
          exact ro_iret X h dX11_settle_34
set_option maxHeartbeats 4000000 in
set_option maxRecDepth 20000 in
theorem kX11_settle (l : Launch) {k : En} {S : Nat → Prop} (hS : ∀ t, S t) {res : Mm × Int32} {g : Mm} (hf : fX11_settle g = some res) : Mt l yX11_settle cX11_settle 3 (some .int) (RmN 2 43) YR S k [.ref (k.1 + adR 0 0 0)] g (some (.int res.2)) res.1 := by
  refine Mt.of (by decide) (Nat.le_of_ble_eq_true rfl) ?_
  intro p e s m args below meth c ls X _ h hl
  have X : Cx YR S k p s m args meth c cX11_settle 3 (some .int) RX11 := X
  have hl : lv_has ls 3 [(0, .ref (k.1 + adR 0 0 0))] := hl
  have JR : res = res := rfl
  unfold fX11_settle at hf
  refine lv_iconst (v := 0) X.x X.b dX11_settle_0 (by decide) ?_
  obtain ⟨y1, e2, hf⟩ := wLe_s hf
  refine lv_nmi e2 ?_
  refine lv_istore_n (lv' := [(1, .int y1), (0, .ref (k.1 + adR 0 0 0))]) X.x X.b dX11_settle_1 rfl hl (by decide) rfl (fun ls hl => ?_)
  refine lv_iconst (v := 0) X.x X.b dX11_settle_2 (by decide) ?_
  obtain ⟨y3, e4, hf⟩ := wLe_s hf
  refine lv_nmi e4 ?_
  refine lv_istore_n (lv' := [(2, .int y3), (1, .int y1), (0, .ref (k.1 + adR 0 0 0))]) X.x X.b dX11_settle_3 rfl hl (by decide) rfl (fun ls hl => ?_)
  exact wX11_settle_L4 hS X JR _ _ _ _ _ _ _ h (lv_sub hl [2, 1, 0] rfl) hf
set_option maxHeartbeats 4000000 in
set_option maxRecDepth 20000 in
theorem kX11_estimate (l : Launch) {k : En} {S : Nat → Prop} (hS : ∀ t, S t) {a1 : Int32} {a2 : Int32} {res : Mm × Int32} {g : Mm} (hf : fX11_estimate g a1 a2 = some res) : Mt l yX11_estimate cX11_estimate 3 (some .int) (RmN 2 43) YR S k [.ref (k.1 + adR 0 0 0), .int a1, .int a2] g (some (.int res.2)) res.1 := by
  refine Mt.of (by decide) (Nat.le_of_ble_eq_true rfl) ?_
  intro p e s m args below meth c ls X _ h hl
  have X : Cx YR S k p s m args meth c cX11_estimate 3 (some .int) RX11 := X
  have hl : lv_has ls 3 [(0, .ref (k.1 + adR 0 0 0)), (1, .int a1), (2, .int a2)] := hl
  have JR : res = res := rfl
  unfold fX11_estimate at hf
  refine lv_aload_n X.x X.b dX11_estimate_0 rfl (lv_at hl 0 rfl) ?_
  refine lv_iload_n X.x X.b dX11_estimate_1 rfl (lv_at hl 1 rfl) ?_
  obtain ⟨y2, e1, hf⟩ := wBd_s hf
  refine ro_callvI (As := [.int a1]) (g1 := g) (x := y2) X h (kX11_isVisit l hS e1) mv_X11_isVisit lk_X11_114 ⟨rfl, rfl⟩ ⟨(Nat.le_of_ble_eq_true rfl), (Nat.le_of_ble_eq_true rfl)⟩ (rR_0 X h (hS 0) Nat.one_pos Nat.one_pos) rfl hl rfl (Nat.le_of_ble_eq_true rfl) ⟨Nat.zero_le _, Nat.zero_le _⟩ dX11_estimate_2 (fun H locs h => ?_)
  refine lv_if_ne (tgt := 10) X.x X.b dX11_estimate_5 (by decide) (fun c3 => ?_) (fun c3 => ?_)
  · have hf := wF c3 hf
    refine lv_iload_n X.x X.b dX11_estimate_10 rfl (lv_at hl 2 rfl) ?_
    refine lv_iconst (v := 0) X.x X.b dX11_estimate_11 (by decide) ?_
    refine lv_sipush (v := 9999) X.x X.b dX11_estimate_12 (by decide) ?_
    obtain ⟨y5, e4, hf⟩ := wBd_s hf
    refine ro_callsI (As := [.int a2, .int (0 : Int32), .int (9999 : Int32)]) (g1 := g) (x := y5) X h (kX11_in l hS e4) mv_X11_in lk_X11_99 ⟨rfl, rfl⟩ ⟨(Nat.le_of_ble_eq_true rfl), (Nat.le_of_ble_eq_true rfl)⟩ rfl hl rfl (Nat.le_of_ble_eq_true rfl) ⟨Nat.zero_le _, Nat.zero_le _⟩ dX11_estimate_15 (fun H locs h => ?_)
    refine lv_if_ne (tgt := 24) X.x X.b dX11_estimate_18 (by decide) (fun c6 => ?_) (fun c6 => ?_)
    · have hf := wF c6 hf
      refine lv_aload_n X.x X.b dX11_estimate_24 rfl (lv_at hl 0 rfl) ?_
      refine gR_0_4 X h (hS 0) Nat.one_pos Nat.one_pos lk_X11_285 dX11_estimate_25 ?_
      refine lv_bipush (v := 40) X.x X.b dX11_estimate_28 (by decide) ?_
      refine lv_icmp_ne (tgt := 36) X.x X.b dX11_estimate_30 (by decide) (fun c7 => ?_) (fun c7 => ?_)
      · have hf := wF c7 hf
        refine lv_aload_n X.x X.b dX11_estimate_36 rfl (lv_at hl 0 rfl) ?_
        refine gR_0_5 X h (hS 0) Nat.one_pos Nat.one_pos lk_X11_13 dX11_estimate_37 ?_
        refine lv_aload_n X.x X.b dX11_estimate_40 rfl (lv_at hl 0 rfl) ?_
        refine gR_0_4 X h (hS 0) Nat.one_pos Nat.one_pos lk_X11_285 dX11_estimate_41 ?_
        refine lv_iload_n X.x X.b dX11_estimate_44 rfl (lv_at hl 1 rfl) ?_
        obtain ⟨b8, hf⟩ := wGi_s hf
        obtain ⟨g9, e10, hf⟩ := wLe_s hf
        refine bR_2 X h (hS 2) Nat.one_pos Nat.one_pos e10 b8 dX11_estimate_45 (fun H locs h => ?_)
        refine lv_aload_n X.x X.b dX11_estimate_46 rfl (lv_at hl 0 rfl) ?_
        refine gR_0_6 X h (hS 0) Nat.one_pos Nat.one_pos lk_X11_16 dX11_estimate_47 ?_
        refine lv_aload_n X.x X.b dX11_estimate_50 rfl (lv_at hl 0 rfl) ?_
        refine gR_0_4 X h (hS 0) Nat.one_pos Nat.one_pos lk_X11_285 dX11_estimate_51 ?_
        refine lv_iload_n X.x X.b dX11_estimate_54 rfl (lv_at hl 2 rfl) ?_
        obtain ⟨b11, hf⟩ := wGi_s hf
        obtain ⟨g12, e13, hf⟩ := wLe_s hf
        refine bR_3 X h (hS 3) Nat.one_pos Nat.one_pos e13 b11 dX11_estimate_55 (fun H locs h => ?_)
        refine lv_aload_n X.x X.b dX11_estimate_56 rfl (lv_at hl 0 rfl) ?_
        refine gR_0_7 X h (hS 0) Nat.one_pos Nat.one_pos lk_X11_19 dX11_estimate_57 ?_
        refine lv_aload_n X.x X.b dX11_estimate_60 rfl (lv_at hl 0 rfl) ?_
        refine gR_0_4 X h (hS 0) Nat.one_pos Nat.one_pos lk_X11_285 dX11_estimate_61 ?_
        refine lv_aload_n X.x X.b dX11_estimate_64 rfl (lv_at hl 0 rfl) ?_
        refine gR_0_0 X h (hS 0) Nat.one_pos Nat.one_pos lk_X11_7 dX11_estimate_65 ?_
        refine lv_sipush (v := 480) X.x X.b dX11_estimate_68 (by decide) ?_
        obtain ⟨b14, hf⟩ := wGi_s hf
        refine aR_1 X h (hS 1) Nat.one_pos Nat.one_pos b14 dX11_estimate_71 ?_
        obtain ⟨b15, hf⟩ := wGi_s hf
        obtain ⟨g16, e17, hf⟩ := wLe_s hf
        refine bR_4 X h (hS 4) Nat.one_pos Nat.one_pos e17 b15 dX11_estimate_72 (fun H locs h => ?_)
        refine lv_aload_n X.x X.b dX11_estimate_73 rfl (lv_at hl 0 rfl) ?_
        refine lv_dup X.x X.b dX11_estimate_74 rfl ?_
        refine gR_0_4 X h (hS 0) Nat.one_pos Nat.one_pos lk_X11_285 dX11_estimate_75 ?_
        refine lv_iconst (v := 1) X.x X.b dX11_estimate_78 (by decide) ?_
        refine lv_iadd X.x X.b dX11_estimate_79 ?_
        obtain ⟨g18, e19, hf⟩ := wLe_s hf
        refine pR_0_4 X h (hS 0) Nat.one_pos Nat.one_pos lk_X11_285 e19 dX11_estimate_80 (fun H locs h => ?_)
        refine lv_aload_n X.x X.b dX11_estimate_83 rfl (lv_at hl 0 rfl) ?_
        refine gR_0_4 X h (hS 0) Nat.one_pos Nat.one_pos lk_X11_285 dX11_estimate_84 ?_
        refine lv_iconst (v := 1) X.x X.b dX11_estimate_87 (by decide) ?_
        refine lv_isub X.x X.b dX11_estimate_88 ?_
        cases (Option.some.inj hf).trans JR
        exact ro_iret X h dX11_estimate_89
      · have hf := wT c7 hf
        refine lv_bipush (v := (-4)) X.x X.b dX11_estimate_33 (by decide) ?_
        cases (Option.some.inj hf).trans JR
        exact ro_iret X h dX11_estimate_35
    · have hf := wT c6 hf
      refine lv_bipush (v := (-2)) X.x X.b dX11_estimate_21 (by decide) ?_
      cases (Option.some.inj hf).trans JR
      exact ro_iret X h dX11_estimate_23
  · have hf := wT c3 hf
    refine lv_iconst (v := (-1)) X.x X.b dX11_estimate_8 (by decide) ?_
    cases (Option.some.inj hf).trans JR
    exact ro_iret X h dX11_estimate_9
set_option maxHeartbeats 4000000 in
set_option maxRecDepth 20000 in
theorem wX11_there_b52 {k : En} {S : Nat → Prop} (hS : ∀ t, S t) {g0 : Mm} {a1 : Int32} {a2 : Int32} {res : Int32} (X : Cx YR S k p s m args meth c cX11_there 5 (some .int) RX11) {x4 : Int32} {z0 : Int32} {H : Heap} {locs : List Loc} {ls : Array Slot} (h : Hx YR S k s g0 H locs) (hl : lv_has ls 5 [(0, .ref (k.1 + adR 0 0 0)), (1, .int a1), (2, .int a2), (4, .int x4)]) {r : (Int32 × Int32) ⊕ (Int32)} (hf : fX11_there_b52 g0 a1 a2 x4 z0 = some r) (J1 : ∀ (x3 : Int32) (x4 : Int32), r = .inl (x3, x4) → ∀ (H : Heap) (locs : List Loc) (ls : Array Slot), Hx YR S k s g0 H locs → lv_has ls 5 [(0, .ref (k.1 + adR 0 0 0)), (1, .int a1), (2, .int a2), (3, .int x3), (4, .int x4)] → W p l e (RmN 1 22) s m args below meth c H locs 0 0 (Fin YR S k args s below (some (.int res)) g0) (F0 m 10 ls [])) (JR : ∀ t1, r = .inr t1 → t1 = res) :
    W p l e (RmN 1 22) s m args below meth c H locs 0 0 (Fin YR S k args s below (some (.int res)) g0) (F0 m 52 ls [.int z0]) := by
  unfold fX11_there_b52 at hf
  refine lv_istore_n (lv' := [(3, .int z0), (0, .ref (k.1 + adR 0 0 0)), (1, .int a1), (2, .int a2), (4, .int x4)]) X.x X.b dX11_there_52 rfl hl (by decide) rfl (fun ls hl => ?_)
  obtain ⟨y13, e14, hf⟩ := wLe_s hf
  refine lv_iinc (v := y13) (lv' := [(4, .int y13), (3, .int z0), (0, .ref (k.1 + adR 0 0 0)), (1, .int a1), (2, .int a2)]) X.x X.b dX11_there_53 hl (k := 4) rfl (by rw [e14]; rfl) (by decide) rfl (fun ls hl => ?_)
  refine lv_goto (tgt := 10) X.x X.b dX11_there_56 (by decide) ?_
  exact J1 _ _ (Option.some.inj hf).symm _ _ _ h (lv_sub hl [2, 3, 4, 1, 0] rfl)
set_option maxHeartbeats 4000000 in
set_option maxRecDepth 20000 in
theorem wX11_there_b51 {k : En} {S : Nat → Prop} (hS : ∀ t, S t) {g0 : Mm} {a1 : Int32} {a2 : Int32} {res : Int32} (X : Cx YR S k p s m args meth c cX11_there 5 (some .int) RX11) {x3 : Int32} {x4 : Int32} {H : Heap} {locs : List Loc} {ls : Array Slot} (h : Hx YR S k s g0 H locs) (hl : lv_has ls 5 [(0, .ref (k.1 + adR 0 0 0)), (1, .int a1), (2, .int a2), (3, .int x3), (4, .int x4)]) {r : (Int32 × Int32) ⊕ (Int32)} (hf : fX11_there_b51 g0 a1 a2 x3 x4 = some r) (J1 : ∀ (x3 : Int32) (x4 : Int32), r = .inl (x3, x4) → ∀ (H : Heap) (locs : List Loc) (ls : Array Slot), Hx YR S k s g0 H locs → lv_has ls 5 [(0, .ref (k.1 + adR 0 0 0)), (1, .int a1), (2, .int a2), (3, .int x3), (4, .int x4)] → W p l e (RmN 1 22) s m args below meth c H locs 0 0 (Fin YR S k args s below (some (.int res)) g0) (F0 m 10 ls [])) (JR : ∀ t1, r = .inr t1 → t1 = res) :
    W p l e (RmN 1 22) s m args below meth c H locs 0 0 (Fin YR S k args s below (some (.int res)) g0) (F0 m 51 ls []) := by
  unfold fX11_there_b51 at hf
  refine lv_iload_n X.x X.b dX11_there_51 rfl (lv_at hl 3 rfl) ?_
  exact wX11_there_b52 hS X h (lv_sub hl [0, 1, 2, 4] rfl) hf J1 JR
set_option maxHeartbeats 4000000 in
set_option maxRecDepth 20000 in
theorem wX11_there_L10 {k : En} {S : Nat → Prop} (hS : ∀ t, S t) {g0 : Mm} {a1 : Int32} {a2 : Int32} {res : Int32} (X : Cx YR S k p s m args meth c cX11_there 5 (some .int) RX11) {r : Int32} (JR : r = res) :
    ∀ (fu : Nat) (x3 : Int32) (x4 : Int32) (H : Heap) (locs : List Loc) (ls : Array Slot), Hx YR S k s g0 H locs → lv_has ls 5 [(0, .ref (k.1 + adR 0 0 0)), (1, .int a1), (2, .int a2), (3, .int x3), (4, .int x4)] → wLp (fun q => fX11_there_B10 g0 a1 a2 q.1 q.2) fu (x3, x4) = some r → W p l e (RmN 1 22) s m args below meth c H locs 0 0 (Fin YR S k args s below (some (.int res)) g0) (F0 m 10 ls []) := by
  intro fu
  induction fu with
  | zero => intro x3 x4 H locs ls h hl hf; exact (wLp_0 hf).elim
  | succ fu ih1 =>
    intro x3 x4 H locs ls h hl hf
    obtain ⟨r1, hf, hr⟩ := wLp_s hf
    have J1n : ∀ (x3 : Int32) (x4 : Int32), r1 = .inl (x3, x4) → ∀ (H : Heap) (locs : List Loc) (ls : Array Slot), Hx YR S k s g0 H locs → lv_has ls 5 [(0, .ref (k.1 + adR 0 0 0)), (1, .int a1), (2, .int a2), (3, .int x3), (4, .int x4)] → W p l e (RmN 1 22) s m args below meth c H locs 0 0 (Fin YR S k args s below (some (.int res)) g0) (F0 m 10 ls []) := fun x3 x4 q H locs ls h hl => by subst q; exact ih1 _ _ _ _ _ h hl hr
    have JRn : ∀ t1, r1 = .inr t1 → t1 = res := fun t1 q => by subst q; obtain rfl := Option.some.inj hr; exact JR
    have J1 := J1n
    have JR := JRn
    clear J1n JRn
    have hf : fX11_there_B10 g0 a1 a2 x3 x4 = some r1 := hf
    unfold fX11_there_B10 at hf
    refine lv_iload X.x X.b dX11_there_10 (lv_at hl 4 rfl) ?_
    refine lv_aload_n X.x X.b dX11_there_12 rfl (lv_at hl 0 rfl) ?_
    refine gR_0_4 X h (hS 0) Nat.one_pos Nat.one_pos lk_X11_285 dX11_there_13 ?_
    refine lv_icmp_ge (tgt := 59) X.x X.b dX11_there_16 (by decide) (fun c5 => ?_) (fun c5 => ?_)
    · have hf := wT c5 hf
      obtain ⟨t6, hf, e7⟩ := wEx_s hf
      have JR := JR t6 e7
      refine lv_iload_n X.x X.b dX11_there_59 rfl (lv_at hl 3 rfl) ?_
      refine lv_aload_n X.x X.b dX11_there_60 rfl (lv_at hl 0 rfl) ?_
      refine gR_0_22 X h (hS 0) Nat.one_pos Nat.one_pos lk_X11_56 dX11_there_61 ?_
      refine lv_aload_n X.x X.b dX11_there_64 rfl (lv_at hl 0 rfl) ?_
      refine lv_iload_n X.x X.b dX11_there_65 rfl (lv_at hl 1 rfl) ?_
      refine lv_iconst (v := 0) X.x X.b dX11_there_66 (by decide) ?_
      obtain ⟨y9, e8, hf⟩ := wBd_s hf
      refine ro_callvI (As := [.int a1, .int (0 : Int32)]) (g1 := g0) (x := y9) X h (kX11_of l hS e8) mv_X11_of lk_X11_106 ⟨rfl, rfl⟩ ⟨(Nat.le_of_ble_eq_true rfl), (Nat.le_of_ble_eq_true rfl)⟩ (rR_0 X h (hS 0) Nat.one_pos Nat.one_pos) rfl hl rfl (Nat.le_of_ble_eq_true rfl) ⟨Nat.zero_le _, Nat.zero_le _⟩ dX11_there_67 (fun H locs h => ?_)
      obtain ⟨b10, hf⟩ := wGi_s hf
      refine aR_15 X h (hS 15) Nat.one_pos Nat.one_pos b10 dX11_there_70 ?_
      refine lv_iadd X.x X.b dX11_there_71 ?_
      refine lv_iconst (v := 4) X.x X.b dX11_there_72 (by decide) ?_
      refine lv_iadd X.x X.b dX11_there_73 ?_
      cases (Option.some.inj hf).trans JR
      exact ro_iret X h dX11_there_74
    · have hf := wF c5 hf
      refine lv_aload_n X.x X.b dX11_there_19 rfl (lv_at hl 0 rfl) ?_
      refine gR_0_5 X h (hS 0) Nat.one_pos Nat.one_pos lk_X11_13 dX11_there_20 ?_
      refine lv_iload X.x X.b dX11_there_23 (lv_at hl 4 rfl) ?_
      obtain ⟨b11, hf⟩ := wGi_s hf
      refine aR_2 X h (hS 2) Nat.one_pos Nat.one_pos b11 dX11_there_25 ?_
      refine lv_iload_n X.x X.b dX11_there_26 rfl (lv_at hl 1 rfl) ?_
      refine lv_icmp_ne (tgt := 51) X.x X.b dX11_there_27 (by decide) (fun c12 => ?_) (fun c12 => ?_)
      · have hf := wF c12 hf
        exact wX11_there_b51 hS X h (lv_sub hl [0, 1, 2, 3, 4] rfl) hf J1 JR
      · have hf := wT c12 hf
        refine lv_aload_n X.x X.b dX11_there_30 rfl (lv_at hl 0 rfl) ?_
        refine gR_0_7 X h (hS 0) Nat.one_pos Nat.one_pos lk_X11_19 dX11_there_31 ?_
        refine lv_iload X.x X.b dX11_there_34 (lv_at hl 4 rfl) ?_
        obtain ⟨b15, hf⟩ := wGi_s hf
        refine aR_4 X h (hS 4) Nat.one_pos Nat.one_pos b15 dX11_there_36 ?_
        refine lv_iload_n X.x X.b dX11_there_37 rfl (lv_at hl 2 rfl) ?_
        refine lv_icmp_gt (tgt := 51) X.x X.b dX11_there_38 (by decide) (fun c16 => ?_) (fun c16 => ?_)
        · have hf := wT c16 hf
          exact wX11_there_b51 hS X h (lv_sub hl [0, 1, 2, 3, 4] rfl) hf J1 JR
        · have hf := wF c16 hf
          refine lv_aload_n X.x X.b dX11_there_41 rfl (lv_at hl 0 rfl) ?_
          refine gR_0_6 X h (hS 0) Nat.one_pos Nat.one_pos lk_X11_16 dX11_there_42 ?_
          refine lv_iload X.x X.b dX11_there_45 (lv_at hl 4 rfl) ?_
          obtain ⟨b17, hf⟩ := wGi_s hf
          refine aR_3 X h (hS 3) Nat.one_pos Nat.one_pos b17 dX11_there_47 ?_
          refine lv_goto (tgt := 52) X.x X.b dX11_there_48 (by decide) ?_
          exact wX11_there_b52 hS X h (lv_sub hl [0, 1, 2, 4] rfl) hf J1 JR
set_option maxHeartbeats 4000000 in
set_option maxRecDepth 20000 in
theorem kX11_there (l : Launch) {k : En} {S : Nat → Prop} (hS : ∀ t, S t) {g0 : Mm} {a1 : Int32} {a2 : Int32} {res : Int32} (hf : fX11_there g0 a1 a2 = some res) : Mt l yX11_there cX11_there 5 (some .int) (RmN 1 22) YR S k [.ref (k.1 + adR 0 0 0), .int a1, .int a2] g0 (some (.int res)) g0 := by
  refine Mt.of (by decide) (Nat.le_of_ble_eq_true rfl) ?_
  intro p e s m args below meth c ls X _ h hl
  have X : Cx YR S k p s m args meth c cX11_there 5 (some .int) RX11 := X
  have hl : lv_has ls 5 [(0, .ref (k.1 + adR 0 0 0)), (1, .int a1), (2, .int a2)] := hl
  have JR : res = res := rfl
  unfold fX11_there at hf
  refine lv_aload_n X.x X.b dX11_there_0 rfl (lv_at hl 0 rfl) ?_
  refine lv_iload_n X.x X.b dX11_there_1 rfl (lv_at hl 1 rfl) ?_
  refine lv_iconst (v := 1) X.x X.b dX11_there_2 (by decide) ?_
  obtain ⟨y2, e1, hf⟩ := wBd_s hf
  refine ro_callvI (As := [.int a1, .int (1 : Int32)]) (g1 := g0) (x := y2) X h (kX11_of l hS e1) mv_X11_of lk_X11_106 ⟨rfl, rfl⟩ ⟨(Nat.le_of_ble_eq_true rfl), (Nat.le_of_ble_eq_true rfl)⟩ (rR_0 X h (hS 0) Nat.one_pos Nat.one_pos) rfl hl rfl (Nat.le_of_ble_eq_true rfl) ⟨Nat.zero_le _, Nat.zero_le _⟩ dX11_there_3 (fun H locs h => ?_)
  refine lv_istore_n (lv' := [(3, .int y2), (0, .ref (k.1 + adR 0 0 0)), (1, .int a1), (2, .int a2)]) X.x X.b dX11_there_6 rfl hl (by decide) rfl (fun ls hl => ?_)
  refine lv_iconst (v := 0) X.x X.b dX11_there_7 (by decide) ?_
  obtain ⟨y3, e4, hf⟩ := wLe_s hf
  refine lv_nmi e4 ?_
  refine lv_istore (lv' := [(4, .int y3), (3, .int y2), (0, .ref (k.1 + adR 0 0 0)), (1, .int a1), (2, .int a2)]) X.x X.b dX11_there_8 hl (by decide) rfl (fun ls hl => ?_)
  exact wX11_there_L10 hS X JR _ _ _ _ _ _ h (lv_sub hl [2, 3, 4, 1, 0] rfl) hf
set_option maxHeartbeats 4000000 in
set_option maxRecDepth 20000 in
theorem kX11_toUnload (l : Launch) {k : En} {S : Nat → Prop} (hS : ∀ t, S t) {g0 : Mm} {a1 : Int32} {res : Int32} (hf : fX11_toUnload g0 a1 = some res) : Mt l yX11_toUnload cX11_toUnload 2 (some .int) (RmN 2 44) YR S k [.ref (k.1 + adR 0 0 0), .int a1] g0 (some (.int res)) g0 := by
  refine Mt.of (by decide) (Nat.le_of_ble_eq_true rfl) ?_
  intro p e s m args below meth c ls X _ h hl
  have X : Cx YR S k p s m args meth c cX11_toUnload 2 (some .int) RX11 := X
  have hl : lv_has ls 2 [(0, .ref (k.1 + adR 0 0 0)), (1, .int a1)] := hl
  have JR : res = res := rfl
  unfold fX11_toUnload at hf
  refine lv_aload_n X.x X.b dX11_toUnload_0 rfl (lv_at hl 0 rfl) ?_
  refine lv_iload_n X.x X.b dX11_toUnload_1 rfl (lv_at hl 1 rfl) ?_
  refine lv_iconst (v := 0) X.x X.b dX11_toUnload_2 (by decide) ?_
  obtain ⟨y2, e1, hf⟩ := wBd_s hf
  refine ro_callvI (As := [.int a1, .int (0 : Int32)]) (g1 := g0) (x := y2) X h (kX11_ticksOf l hS e1) mv_X11_ticksOf lk_X11_221 ⟨rfl, rfl⟩ ⟨(Nat.le_of_ble_eq_true rfl), (Nat.le_of_ble_eq_true rfl)⟩ (rR_0 X h (hS 0) Nat.one_pos Nat.one_pos) rfl hl rfl (Nat.le_of_ble_eq_true rfl) ⟨Nat.zero_le _, Nat.zero_le _⟩ dX11_toUnload_3 (fun H locs h => ?_)
  refine lv_aload_n X.x X.b dX11_toUnload_6 rfl (lv_at hl 0 rfl) ?_
  refine lv_iload_n X.x X.b dX11_toUnload_7 rfl (lv_at hl 1 rfl) ?_
  refine lv_iconst (v := 1) X.x X.b dX11_toUnload_8 (by decide) ?_
  obtain ⟨y4, e3, hf⟩ := wBd_s hf
  refine ro_callvI (As := [.int a1, .int (1 : Int32)]) (g1 := g0) (x := y4) X h (kX11_ticksOf l hS e3) mv_X11_ticksOf lk_X11_221 ⟨rfl, rfl⟩ ⟨(Nat.le_of_ble_eq_true rfl), (Nat.le_of_ble_eq_true rfl)⟩ (rR_0 X h (hS 0) Nat.one_pos Nat.one_pos) rfl hl rfl (Nat.le_of_ble_eq_true rfl) ⟨Nat.zero_le _, Nat.zero_le _⟩ dX11_toUnload_9 (fun H locs h => ?_)
  refine lv_iadd X.x X.b dX11_toUnload_12 ?_
  cases (Option.some.inj hf).trans JR
  exact ro_iret X h dX11_toUnload_13
set_option maxHeartbeats 4000000 in
set_option maxRecDepth 20000 in
theorem wX11_toLoad_b36 {k : En} {S : Nat → Prop} (hS : ∀ t, S t) {g0 : Mm} {a1 : Int32} {res : Int32} (X : Cx YR S k p s m args meth c cX11_toLoad 4 (some .int) RX11) {z0 : Int32} {z1 : Int32} {H : Heap} {locs : List Loc} {ls : Array Slot} (h : Hx YR S k s g0 H locs) (hl : lv_has ls 4 [(0, .ref (k.1 + adR 0 0 0)), (1, .int a1)]) {r : Int32} (hf : fX11_toLoad_b36 g0 a1 z0 z1 = some r) (JR : r = res) :
    W p l e (RmN 3 65) s m args below meth c H locs 0 0 (Fin YR S k args s below (some (.int res)) g0) (F0 m 36 ls [.int z1, .int z0]) := by
  unfold fX11_toLoad_b36 at hf
  refine lv_iadd X.x X.b dX11_toLoad_36 ?_
  refine lv_aload_n X.x X.b dX11_toLoad_37 rfl (lv_at hl 0 rfl) ?_
  refine lv_iload_n X.x X.b dX11_toLoad_38 rfl (lv_at hl 1 rfl) ?_
  refine lv_iconst (v := 5) X.x X.b dX11_toLoad_39 (by decide) ?_
  obtain ⟨y13, e12, hf⟩ := wBd_s hf
  refine ro_callvI (As := [.int a1, .int (5 : Int32)]) (g1 := g0) (x := y13) X h (kX11_ticksOf l hS e12) mv_X11_ticksOf lk_X11_221 ⟨rfl, rfl⟩ ⟨(Nat.le_of_ble_eq_true rfl), (Nat.le_of_ble_eq_true rfl)⟩ (rR_0 X h (hS 0) Nat.one_pos Nat.one_pos) rfl hl rfl (Nat.le_of_ble_eq_true rfl) ⟨Nat.zero_le _, Nat.zero_le _⟩ dX11_toLoad_40 (fun H locs h => ?_)
  refine lv_iadd X.x X.b dX11_toLoad_43 ?_
  cases (Option.some.inj hf).trans JR
  exact ro_iret X h dX11_toLoad_44
set_option maxHeartbeats 4000000 in
set_option maxRecDepth 20000 in
theorem kX11_toLoad (l : Launch) {k : En} {S : Nat → Prop} (hS : ∀ t, S t) {g0 : Mm} {a1 : Int32} {res : Int32} (hf : fX11_toLoad g0 a1 = some res) : Mt l yX11_toLoad cX11_toLoad 4 (some .int) (RmN 3 65) YR S k [.ref (k.1 + adR 0 0 0), .int a1] g0 (some (.int res)) g0 := by
  refine Mt.of (by decide) (Nat.le_of_ble_eq_true rfl) ?_
  intro p e s m args below meth c ls X _ h hl
  have X : Cx YR S k p s m args meth c cX11_toLoad 4 (some .int) RX11 := X
  have hl : lv_has ls 4 [(0, .ref (k.1 + adR 0 0 0)), (1, .int a1)] := hl
  have JR : res = res := rfl
  unfold fX11_toLoad at hf
  refine lv_aload_n X.x X.b dX11_toLoad_0 rfl (lv_at hl 0 rfl) ?_
  refine lv_iload_n X.x X.b dX11_toLoad_1 rfl (lv_at hl 1 rfl) ?_
  refine lv_iconst (v := 2) X.x X.b dX11_toLoad_2 (by decide) ?_
  obtain ⟨y2, e1, hf⟩ := wBd_s hf
  refine ro_callvI (As := [.int a1, .int (2 : Int32)]) (g1 := g0) (x := y2) X h (kX11_ticksOf l hS e1) mv_X11_ticksOf lk_X11_221 ⟨rfl, rfl⟩ ⟨(Nat.le_of_ble_eq_true rfl), (Nat.le_of_ble_eq_true rfl)⟩ (rR_0 X h (hS 0) Nat.one_pos Nat.one_pos) rfl hl rfl (Nat.le_of_ble_eq_true rfl) ⟨Nat.zero_le _, Nat.zero_le _⟩ dX11_toLoad_3 (fun H locs h => ?_)
  refine lv_aload_n X.x X.b dX11_toLoad_6 rfl (lv_at hl 0 rfl) ?_
  refine lv_iload_n X.x X.b dX11_toLoad_7 rfl (lv_at hl 1 rfl) ?_
  refine lv_iconst (v := 4) X.x X.b dX11_toLoad_8 (by decide) ?_
  obtain ⟨y4, e3, hf⟩ := wBd_s hf
  refine ro_callvI (As := [.int a1, .int (4 : Int32)]) (g1 := g0) (x := y4) X h (kX11_ticksOf l hS e3) mv_X11_ticksOf lk_X11_221 ⟨rfl, rfl⟩ ⟨(Nat.le_of_ble_eq_true rfl), (Nat.le_of_ble_eq_true rfl)⟩ (rR_0 X h (hS 0) Nat.one_pos Nat.one_pos) rfl hl rfl (Nat.le_of_ble_eq_true rfl) ⟨Nat.zero_le _, Nat.zero_le _⟩ dX11_toLoad_9 (fun H locs h => ?_)
  refine lv_iadd X.x X.b dX11_toLoad_12 ?_
  obtain ⟨y5, e6, hf⟩ := wLe_s hf
  refine lv_nmi e6 ?_
  refine lv_istore_n (lv' := [(2, .int y5), (0, .ref (k.1 + adR 0 0 0)), (1, .int a1)]) X.x X.b dX11_toLoad_13 rfl hl (by decide) rfl (fun ls hl => ?_)
  refine lv_aload_n X.x X.b dX11_toLoad_14 rfl (lv_at hl 1 rfl) ?_
  refine lv_iload_n X.x X.b dX11_toLoad_15 rfl (lv_at hl 2 rfl) ?_
  refine lv_iconst (v := 3) X.x X.b dX11_toLoad_16 (by decide) ?_
  obtain ⟨y8, e7, hf⟩ := wBd_s hf
  refine ro_callvI (As := [.int a1, .int (3 : Int32)]) (g1 := g0) (x := y8) X h (kX11_ticksOf l hS e7) mv_X11_ticksOf lk_X11_221 ⟨rfl, rfl⟩ ⟨(Nat.le_of_ble_eq_true rfl), (Nat.le_of_ble_eq_true rfl)⟩ (rR_0 X h (hS 0) Nat.one_pos Nat.one_pos) rfl hl rfl (Nat.le_of_ble_eq_true rfl) ⟨Nat.zero_le _, Nat.zero_le _⟩ dX11_toLoad_17 (fun H locs h => ?_)
  refine lv_istore_n (lv' := [(3, .int y8), (2, .int y5), (0, .ref (k.1 + adR 0 0 0)), (1, .int a1)]) X.x X.b dX11_toLoad_20 rfl hl (by decide) rfl (fun ls hl => ?_)
  refine lv_aload_n X.x X.b dX11_toLoad_21 rfl (lv_at hl 2 rfl) ?_
  refine lv_iload_n X.x X.b dX11_toLoad_22 rfl (lv_at hl 3 rfl) ?_
  obtain ⟨y10, e9, hf⟩ := wBd_s hf
  refine ro_callvI (As := [.int a1]) (g1 := g0) (x := y10) X h (kX11_toUnload l hS e9) mv_X11_toUnload lk_X11_288 ⟨rfl, rfl⟩ ⟨(Nat.le_of_ble_eq_true rfl), (Nat.le_of_ble_eq_true rfl)⟩ (rR_0 X h (hS 0) Nat.one_pos Nat.one_pos) rfl hl rfl (Nat.le_of_ble_eq_true rfl) ⟨Nat.zero_le _, Nat.zero_le _⟩ dX11_toLoad_23 (fun H locs h => ?_)
  refine lv_iload_n X.x X.b dX11_toLoad_26 rfl (lv_at hl 1 rfl) ?_
  refine lv_iload_n X.x X.b dX11_toLoad_27 rfl (lv_at hl 0 rfl) ?_
  refine lv_icmp_le (tgt := 35) X.x X.b dX11_toLoad_28 (by decide) (fun c11 => ?_) (fun c11 => ?_)
  · have hf := wT c11 hf
    refine lv_iload_n X.x X.b dX11_toLoad_35 rfl (lv_at hl 0 rfl) ?_
    exact wX11_toLoad_b36 hS X h (lv_sub hl [2, 3] rfl) hf JR
  · have hf := wF c11 hf
    refine lv_iload_n X.x X.b dX11_toLoad_31 rfl (lv_at hl 1 rfl) ?_
    refine lv_goto (tgt := 36) X.x X.b dX11_toLoad_32 (by decide) ?_
    exact wX11_toLoad_b36 hS X h (lv_sub hl [2, 3] rfl) hf JR
set_option maxHeartbeats 4000000 in
set_option maxRecDepth 20000 in
theorem wX11_expects_b64 {k : En} {S : Nat → Prop} (hS : ∀ t, S t) {g0 : Mm} {a1 : Int32} {a2 : Int32} {res : Int32} (X : Cx YR S k p s m args meth c cX11_expects 4 (some .int) RX11) {z0 : Int32} {z1 : Int32} {H : Heap} {locs : List Loc} {ls : Array Slot} (h : Hx YR S k s g0 H locs) (hl : lv_has ls 4 [(0, .ref (k.1 + adR 0 0 0)), (1, .int a1)]) {r : Int32} (hf : fX11_expects_b64 g0 a1 a2 z0 z1 = some r) (JR : r = res) :
    W p l e (RmN 4 88) s m args below meth c H locs 0 0 (Fin YR S k args s below (some (.int res)) g0) (F0 m 64 ls [.int z1, .int z0]) := by
  unfold fX11_expects_b64 at hf
  refine lv_iadd X.x X.b dX11_expects_64 ?_
  refine lv_aload_n X.x X.b dX11_expects_65 rfl (lv_at hl 0 rfl) ?_
  refine lv_iload_n X.x X.b dX11_expects_66 rfl (lv_at hl 1 rfl) ?_
  refine lv_bipush (v := 7) X.x X.b dX11_expects_67 (by decide) ?_
  obtain ⟨y15, e14, hf⟩ := wBd_s hf
  refine ro_callvI (As := [.int a1, .int (7 : Int32)]) (g1 := g0) (x := y15) X h (kX11_ticksOf l hS e14) mv_X11_ticksOf lk_X11_221 ⟨rfl, rfl⟩ ⟨(Nat.le_of_ble_eq_true rfl), (Nat.le_of_ble_eq_true rfl)⟩ (rR_0 X h (hS 0) Nat.one_pos Nat.one_pos) rfl hl rfl (Nat.le_of_ble_eq_true rfl) ⟨Nat.zero_le _, Nat.zero_le _⟩ dX11_expects_69 (fun H locs h => ?_)
  refine lv_iadd X.x X.b dX11_expects_72 ?_
  obtain ⟨y16, e17, hf⟩ := wLe_s hf
  refine lv_nmi e17 ?_
  refine lv_istore_n (lv' := [(3, .int y16), (0, .ref (k.1 + adR 0 0 0)), (1, .int a1)]) X.x X.b dX11_expects_73 rfl hl (by decide) rfl (fun ls hl => ?_)
  refine lv_iload_n X.x X.b dX11_expects_74 rfl (lv_at hl 0 rfl) ?_
  refine lv_aload_n X.x X.b dX11_expects_75 rfl (lv_at hl 1 rfl) ?_
  refine lv_iload_n X.x X.b dX11_expects_76 rfl (lv_at hl 2 rfl) ?_
  refine lv_iconst (v := 2) X.x X.b dX11_expects_77 (by decide) ?_
  obtain ⟨y19, e18, hf⟩ := wBd_s hf
  refine ro_callvI (As := [.int a1, .int (2 : Int32)]) (g1 := g0) (x := y19) X h (kX11_of l hS e18) mv_X11_of lk_X11_106 ⟨rfl, rfl⟩ ⟨(Nat.le_of_ble_eq_true rfl), (Nat.le_of_ble_eq_true rfl)⟩ (rR_0 X h (hS 0) Nat.one_pos Nat.one_pos) rfl hl rfl (Nat.le_of_ble_eq_true rfl) ⟨Nat.zero_le _, Nat.zero_le _⟩ dX11_expects_78 (fun H locs h => ?_)
  refine lv_icmp_le (tgt := 88) X.x X.b dX11_expects_81 (by decide) (fun c20 => ?_) (fun c20 => ?_)
  · have hf := wT c20 hf
    refine lv_aload_n X.x X.b dX11_expects_88 rfl (lv_at hl 1 rfl) ?_
    refine lv_iload_n X.x X.b dX11_expects_89 rfl (lv_at hl 2 rfl) ?_
    refine lv_iconst (v := 2) X.x X.b dX11_expects_90 (by decide) ?_
    obtain ⟨y22, e21, hf⟩ := wBd_s hf
    refine ro_callvI (As := [.int a1, .int (2 : Int32)]) (g1 := g0) (x := y22) X h (kX11_of l hS e21) mv_X11_of lk_X11_106 ⟨rfl, rfl⟩ ⟨(Nat.le_of_ble_eq_true rfl), (Nat.le_of_ble_eq_true rfl)⟩ (rR_0 X h (hS 0) Nat.one_pos Nat.one_pos) rfl hl rfl (Nat.le_of_ble_eq_true rfl) ⟨Nat.zero_le _, Nat.zero_le _⟩ dX11_expects_91 (fun H locs h => ?_)
    cases (Option.some.inj hf).trans JR
    exact ro_iret X h dX11_expects_94
  · have hf := wF c20 hf
    refine lv_iload_n X.x X.b dX11_expects_84 rfl (lv_at hl 0 rfl) ?_
    refine lv_goto (tgt := 94) X.x X.b dX11_expects_85 (by decide) ?_
    cases (Option.some.inj hf).trans JR
    exact ro_iret X h dX11_expects_94
set_option maxHeartbeats 4000000 in
set_option maxRecDepth 20000 in
theorem kX11_expects (l : Launch) {k : En} {S : Nat → Prop} (hS : ∀ t, S t) {g0 : Mm} {a1 : Int32} {a2 : Int32} {res : Int32} (hf : fX11_expects g0 a1 a2 = some res) : Mt l yX11_expects cX11_expects 4 (some .int) (RmN 4 88) YR S k [.ref (k.1 + adR 0 0 0), .int a1, .int a2] g0 (some (.int res)) g0 := by
  refine Mt.of (by decide) (Nat.le_of_ble_eq_true rfl) ?_
  intro p e s m args below meth c ls X _ h hl
  have X : Cx YR S k p s m args meth c cX11_expects 4 (some .int) RX11 := X
  have hl : lv_has ls 4 [(0, .ref (k.1 + adR 0 0 0)), (1, .int a1), (2, .int a2)] := hl
  have JR : res = res := rfl
  unfold fX11_expects at hf
  refine lv_aload_n X.x X.b dX11_expects_0 rfl (lv_at hl 0 rfl) ?_
  refine lv_iload_n X.x X.b dX11_expects_1 rfl (lv_at hl 1 rfl) ?_
  obtain ⟨y2, e1, hf⟩ := wBd_s hf
  refine ro_callvI (As := [.int a1]) (g1 := g0) (x := y2) X h (kX11_isVisit l hS e1) mv_X11_isVisit lk_X11_114 ⟨rfl, rfl⟩ ⟨(Nat.le_of_ble_eq_true rfl), (Nat.le_of_ble_eq_true rfl)⟩ (rR_0 X h (hS 0) Nat.one_pos Nat.one_pos) rfl hl rfl (Nat.le_of_ble_eq_true rfl) ⟨Nat.zero_le _, Nat.zero_le _⟩ dX11_expects_2 (fun H locs h => ?_)
  refine lv_if_ne (tgt := 10) X.x X.b dX11_expects_5 (by decide) (fun c3 => ?_) (fun c3 => ?_)
  · have hf := wF c3 hf
    refine lv_iload_n X.x X.b dX11_expects_10 rfl (lv_at hl 2 rfl) ?_
    refine lv_iconst (v := 0) X.x X.b dX11_expects_11 (by decide) ?_
    refine lv_aload_n X.x X.b dX11_expects_12 rfl (lv_at hl 0 rfl) ?_
    refine gR_0_0 X h (hS 0) Nat.one_pos Nat.one_pos lk_X11_7 dX11_expects_13 ?_
    refine lv_sipush (v := 480) X.x X.b dX11_expects_16 (by decide) ?_
    obtain ⟨b4, hf⟩ := wGi_s hf
    refine aR_1 X h (hS 1) Nat.one_pos Nat.one_pos b4 dX11_expects_19 ?_
    obtain ⟨y6, e5, hf⟩ := wBd_s hf
    refine ro_callsI (As := [.int a2, .int (0 : Int32), .int (g0 1 0 0 ((480 : Int32)).toNatClampNeg)]) (g1 := g0) (x := y6) X h (kX11_in l hS e5) mv_X11_in lk_X11_99 ⟨rfl, rfl⟩ ⟨(Nat.le_of_ble_eq_true rfl), (Nat.le_of_ble_eq_true rfl)⟩ rfl hl rfl (Nat.le_of_ble_eq_true rfl) ⟨Nat.zero_le _, Nat.zero_le _⟩ dX11_expects_20 (fun H locs h => ?_)
    refine lv_if_ne (tgt := 29) X.x X.b dX11_expects_23 (by decide) (fun c7 => ?_) (fun c7 => ?_)
    · have hf := wF c7 hf
      refine lv_aload_n X.x X.b dX11_expects_29 rfl (lv_at hl 0 rfl) ?_
      refine lv_iload_n X.x X.b dX11_expects_30 rfl (lv_at hl 1 rfl) ?_
      refine lv_iload_n X.x X.b dX11_expects_31 rfl (lv_at hl 2 rfl) ?_
      obtain ⟨y9, e8, hf⟩ := wBd_s hf
      refine ro_callvI (As := [.int a1, .int a2]) (g1 := g0) (x := y9) X h (kX11_there l hS e8) mv_X11_there lk_X11_291 ⟨rfl, rfl⟩ ⟨(Nat.le_of_ble_eq_true rfl), (Nat.le_of_ble_eq_true rfl)⟩ (rR_0 X h (hS 0) Nat.one_pos Nat.one_pos) rfl hl rfl (Nat.le_of_ble_eq_true rfl) ⟨Nat.zero_le _, Nat.zero_le _⟩ dX11_expects_32 (fun H locs h => ?_)
      refine lv_aload_n X.x X.b dX11_expects_35 rfl (lv_at hl 0 rfl) ?_
      refine lv_iload_n X.x X.b dX11_expects_36 rfl (lv_at hl 1 rfl) ?_
      obtain ⟨y11, e10, hf⟩ := wBd_s hf
      refine ro_callvI (As := [.int a1]) (g1 := g0) (x := y11) X h (kX11_toLoad l hS e10) mv_X11_toLoad lk_X11_294 ⟨rfl, rfl⟩ ⟨(Nat.le_of_ble_eq_true rfl), (Nat.le_of_ble_eq_true rfl)⟩ (rR_0 X h (hS 0) Nat.one_pos Nat.one_pos) rfl hl rfl (Nat.le_of_ble_eq_true rfl) ⟨Nat.zero_le _, Nat.zero_le _⟩ dX11_expects_37 (fun H locs h => ?_)
      refine lv_iadd X.x X.b dX11_expects_40 ?_
      refine lv_aload_n X.x X.b dX11_expects_41 rfl (lv_at hl 0 rfl) ?_
      refine gR_0_0 X h (hS 0) Nat.one_pos Nat.one_pos lk_X11_7 dX11_expects_42 ?_
      refine lv_sipush (v := 482) X.x X.b dX11_expects_45 (by decide) ?_
      obtain ⟨b12, hf⟩ := wGi_s hf
      refine aR_1 X h (hS 1) Nat.one_pos Nat.one_pos b12 dX11_expects_48 ?_
      refine lv_iconst (v := 1) X.x X.b dX11_expects_49 (by decide) ?_
      refine lv_icmp_ne (tgt := 63) X.x X.b dX11_expects_50 (by decide) (fun c13 => ?_) (fun c13 => ?_)
      · have hf := wF c13 hf
        refine lv_iconst (v := 0) X.x X.b dX11_expects_63 (by decide) ?_
        exact wX11_expects_b64 hS X h (lv_sub hl [0, 1] rfl) hf JR
      · have hf := wT c13 hf
        refine lv_aload_n X.x X.b dX11_expects_53 rfl (lv_at hl 0 rfl) ?_
        refine lv_iload_n X.x X.b dX11_expects_54 rfl (lv_at hl 1 rfl) ?_
        refine lv_bipush (v := 6) X.x X.b dX11_expects_55 (by decide) ?_
        obtain ⟨y24, e23, hf⟩ := wBd_s hf
        refine ro_callvI (As := [.int a1, .int (6 : Int32)]) (g1 := g0) (x := y24) X h (kX11_ticksOf l hS e23) mv_X11_ticksOf lk_X11_221 ⟨rfl, rfl⟩ ⟨(Nat.le_of_ble_eq_true rfl), (Nat.le_of_ble_eq_true rfl)⟩ (rR_0 X h (hS 0) Nat.one_pos Nat.one_pos) rfl hl rfl (Nat.le_of_ble_eq_true rfl) ⟨Nat.zero_le _, Nat.zero_le _⟩ dX11_expects_57 (fun H locs h => ?_)
        refine lv_goto (tgt := 64) X.x X.b dX11_expects_60 (by decide) ?_
        exact wX11_expects_b64 hS X h (lv_sub hl [0, 1] rfl) hf JR
    · have hf := wT c7 hf
      refine lv_bipush (v := (-2)) X.x X.b dX11_expects_26 (by decide) ?_
      cases (Option.some.inj hf).trans JR
      exact ro_iret X h dX11_expects_28
  · have hf := wT c3 hf
    refine lv_iconst (v := (-1)) X.x X.b dX11_expects_8 (by decide) ?_
    cases (Option.some.inj hf).trans JR
    exact ro_iret X h dX11_expects_9
set_option maxHeartbeats 4000000 in
set_option maxRecDepth 20000 in
theorem wX11_misses_b167 {k : En} {S : Nat → Prop} (hS : ∀ t, S t) {g0 : Mm} {a1 : Int32} {a2 : Int32} {res : Int32} (X : Cx YR S k p s m args meth c cX11_misses 9 (some .int) RX11) {x5 : Int32} {x7 : Int32} {z0 : Int32} {z1 : Int32} {H : Heap} {locs : List Loc} {ls : Array Slot} (h : Hx YR S k s g0 H locs) (hl : lv_has ls 9 [(0, .ref (k.1 + adR 0 0 0)), (1, .int a1), (2, .int a2), (5, .int x5), (7, .int x7)]) {r : (Int32 × Int32) ⊕ (Int32)} (hf : fX11_misses_b167 g0 a1 a2 x5 x7 z0 z1 = some r) (J1 : ∀ (x6 : Int32) (x7 : Int32), r = .inl (x6, x7) → ∀ (H : Heap) (locs : List Loc) (ls : Array Slot), Hx YR S k s g0 H locs → lv_has ls 9 [(0, .ref (k.1 + adR 0 0 0)), (1, .int a1), (2, .int a2), (5, .int x5), (6, .int x6), (7, .int x7)] → W p l e (RmN 4 88) s m args below meth c H locs 0 0 (Fin YR S k args s below (some (.int res)) g0) (F0 m 80 ls [])) (JR : ∀ t1, r = .inr t1 → t1 = res) :
    W p l e (RmN 4 88) s m args below meth c H locs 0 0 (Fin YR S k args s below (some (.int res)) g0) (F0 m 167 ls [.int z1, .int z0]) := by
  unfold fX11_misses_b167 at hf
  refine lv_iadd X.x X.b dX11_misses_167 ?_
  obtain ⟨y39, e40, hf⟩ := wLe_s hf
  refine lv_nmi e40 ?_
  refine lv_istore (lv' := [(6, .int y39), (0, .ref (k.1 + adR 0 0 0)), (1, .int a1), (2, .int a2), (5, .int x5), (7, .int x7)]) X.x X.b dX11_misses_168 hl (by decide) rfl (fun ls hl => ?_)
  obtain ⟨y41, e42, hf⟩ := wLe_s hf
  refine lv_iinc (v := y41) (lv' := [(7, .int y41), (6, .int y39), (0, .ref (k.1 + adR 0 0 0)), (1, .int a1), (2, .int a2), (5, .int x5)]) X.x X.b dX11_misses_170 hl (k := 5) rfl (by rw [e42]; rfl) (by decide) rfl (fun ls hl => ?_)
  refine lv_goto (tgt := 80) X.x X.b dX11_misses_173 (by decide) ?_
  exact J1 _ _ (Option.some.inj hf).symm _ _ _ h (lv_sub hl [2, 3, 4, 5, 1, 0] rfl)
set_option maxHeartbeats 4000000 in
set_option maxRecDepth 20000 in
theorem wX11_misses_b166 {k : En} {S : Nat → Prop} (hS : ∀ t, S t) {g0 : Mm} {a1 : Int32} {a2 : Int32} {res : Int32} (X : Cx YR S k p s m args meth c cX11_misses 9 (some .int) RX11) {x5 : Int32} {x7 : Int32} {z0 : Int32} {H : Heap} {locs : List Loc} {ls : Array Slot} (h : Hx YR S k s g0 H locs) (hl : lv_has ls 9 [(0, .ref (k.1 + adR 0 0 0)), (1, .int a1), (2, .int a2), (5, .int x5), (7, .int x7)]) {r : (Int32 × Int32) ⊕ (Int32)} (hf : fX11_misses_b166 g0 a1 a2 x5 x7 z0 = some r) (J1 : ∀ (x6 : Int32) (x7 : Int32), r = .inl (x6, x7) → ∀ (H : Heap) (locs : List Loc) (ls : Array Slot), Hx YR S k s g0 H locs → lv_has ls 9 [(0, .ref (k.1 + adR 0 0 0)), (1, .int a1), (2, .int a2), (5, .int x5), (6, .int x6), (7, .int x7)] → W p l e (RmN 4 88) s m args below meth c H locs 0 0 (Fin YR S k args s below (some (.int res)) g0) (F0 m 80 ls [])) (JR : ∀ t1, r = .inr t1 → t1 = res) :
    W p l e (RmN 4 88) s m args below meth c H locs 0 0 (Fin YR S k args s below (some (.int res)) g0) (F0 m 166 ls [.int z0]) := by
  unfold fX11_misses_b166 at hf
  refine lv_iconst (v := 0) X.x X.b dX11_misses_166 (by decide) ?_
  exact wX11_misses_b167 hS X h (lv_sub hl [0, 1, 2, 3, 4] rfl) hf J1 JR
set_option maxHeartbeats 4000000 in
set_option maxRecDepth 20000 in
theorem wX11_misses_L80 {k : En} {S : Nat → Prop} (hS : ∀ t, S t) {g0 : Mm} {a1 : Int32} {a2 : Int32} {res : Int32} (X : Cx YR S k p s m args meth c cX11_misses 9 (some .int) RX11) {x5 : Int32} {r : Int32} (JR : r = res) :
    ∀ (fu : Nat) (x6 : Int32) (x7 : Int32) (H : Heap) (locs : List Loc) (ls : Array Slot), Hx YR S k s g0 H locs → lv_has ls 9 [(0, .ref (k.1 + adR 0 0 0)), (1, .int a1), (2, .int a2), (5, .int x5), (6, .int x6), (7, .int x7)] → wLp (fun q => fX11_misses_B80 g0 a1 a2 x5 q.1 q.2) fu (x6, x7) = some r → W p l e (RmN 4 88) s m args below meth c H locs 0 0 (Fin YR S k args s below (some (.int res)) g0) (F0 m 80 ls []) := by
  intro fu
  induction fu with
  | zero => intro x6 x7 H locs ls h hl hf; exact (wLp_0 hf).elim
  | succ fu ih1 =>
    intro x6 x7 H locs ls h hl hf
    obtain ⟨r1, hf, hr⟩ := wLp_s hf
    have J1n : ∀ (x6 : Int32) (x7 : Int32), r1 = .inl (x6, x7) → ∀ (H : Heap) (locs : List Loc) (ls : Array Slot), Hx YR S k s g0 H locs → lv_has ls 9 [(0, .ref (k.1 + adR 0 0 0)), (1, .int a1), (2, .int a2), (5, .int x5), (6, .int x6), (7, .int x7)] → W p l e (RmN 4 88) s m args below meth c H locs 0 0 (Fin YR S k args s below (some (.int res)) g0) (F0 m 80 ls []) := fun x6 x7 q H locs ls h hl => by subst q; exact ih1 _ _ _ _ _ h hl hr
    have JRn : ∀ t1, r1 = .inr t1 → t1 = res := fun t1 q => by subst q; obtain rfl := Option.some.inj hr; exact JR
    have J1 := J1n
    have JR := JRn
    clear J1n JRn
    have hf : fX11_misses_B80 g0 a1 a2 x5 x6 x7 = some r1 := hf
    unfold fX11_misses_B80 at hf
    refine lv_iload X.x X.b dX11_misses_80 (lv_at hl 5 rfl) ?_
    refine lv_sipush (v := 360) X.x X.b dX11_misses_82 (by decide) ?_
    refine lv_bipush (v := 6) X.x X.b dX11_misses_85 (by decide) ?_
    refine lv_aload_n X.x X.b dX11_misses_87 rfl (lv_at hl 0 rfl) ?_
    refine gR_0_2 X h (hS 0) Nat.one_pos Nat.one_pos lk_X11_124 dX11_misses_88 ?_
    refine lv_imul X.x X.b dX11_misses_91 ?_
    refine lv_iadd X.x X.b dX11_misses_92 ?_
    refine lv_icmp_ge (tgt := 176) X.x X.b dX11_misses_93 (by decide) (fun c25 => ?_) (fun c25 => ?_)
    · have hf := wT c25 hf
      obtain ⟨t26, hf, e27⟩ := wEx_s hf
      have JR := JR t26 e27
      refine lv_iload X.x X.b dX11_misses_176 (lv_at hl 4 rfl) ?_
      cases (Option.some.inj hf).trans JR
      exact ro_iret X h dX11_misses_178
    · have hf := wF c25 hf
      refine lv_aload_n X.x X.b dX11_misses_96 rfl (lv_at hl 0 rfl) ?_
      refine lv_aload_n X.x X.b dX11_misses_97 rfl (lv_at hl 0 rfl) ?_
      refine gR_0_0 X h (hS 0) Nat.one_pos Nat.one_pos lk_X11_7 dX11_misses_98 ?_
      refine lv_iload X.x X.b dX11_misses_101 (lv_at hl 5 rfl) ?_
      obtain ⟨b28, hf⟩ := wGi_s hf
      refine aR_1 X h (hS 1) Nat.one_pos Nat.one_pos b28 dX11_misses_103 ?_
      refine lv_iload_n X.x X.b dX11_misses_104 rfl (lv_at hl 2 rfl) ?_
      obtain ⟨y30, e29, hf⟩ := wBd_s hf
      refine ro_callvI (As := [.int (g0 1 0 0 (x7).toNatClampNeg), .int a2]) (g1 := g0) (x := y30) X h (kX11_there l hS e29) mv_X11_there lk_X11_291 ⟨rfl, rfl⟩ ⟨(Nat.le_of_ble_eq_true rfl), (Nat.le_of_ble_eq_true rfl)⟩ (rR_0 X h (hS 0) Nat.one_pos Nat.one_pos) rfl hl rfl (Nat.le_of_ble_eq_true rfl) ⟨Nat.zero_le _, Nat.zero_le _⟩ dX11_misses_105 (fun H locs h => ?_)
      refine lv_aload_n X.x X.b dX11_misses_108 rfl (lv_at hl 0 rfl) ?_
      refine lv_aload_n X.x X.b dX11_misses_109 rfl (lv_at hl 0 rfl) ?_
      refine gR_0_0 X h (hS 0) Nat.one_pos Nat.one_pos lk_X11_7 dX11_misses_110 ?_
      refine lv_iload X.x X.b dX11_misses_113 (lv_at hl 5 rfl) ?_
      obtain ⟨b31, hf⟩ := wGi_s hf
      refine aR_1 X h (hS 1) Nat.one_pos Nat.one_pos b31 dX11_misses_115 ?_
      obtain ⟨y33, e32, hf⟩ := wBd_s hf
      refine ro_callvI (As := [.int (g0 1 0 0 (x7).toNatClampNeg)]) (g1 := g0) (x := y33) X h (kX11_toUnload l hS e32) mv_X11_toUnload lk_X11_288 ⟨rfl, rfl⟩ ⟨(Nat.le_of_ble_eq_true rfl), (Nat.le_of_ble_eq_true rfl)⟩ (rR_0 X h (hS 0) Nat.one_pos Nat.one_pos) rfl hl rfl (Nat.le_of_ble_eq_true rfl) ⟨Nat.zero_le _, Nat.zero_le _⟩ dX11_misses_116 (fun H locs h => ?_)
      refine lv_iadd X.x X.b dX11_misses_119 ?_
      refine lv_aload_n X.x X.b dX11_misses_120 rfl (lv_at hl 0 rfl) ?_
      refine gR_0_0 X h (hS 0) Nat.one_pos Nat.one_pos lk_X11_7 dX11_misses_121 ?_
      refine lv_iload X.x X.b dX11_misses_124 (lv_at hl 5 rfl) ?_
      refine lv_iconst (v := 3) X.x X.b dX11_misses_126 (by decide) ?_
      refine lv_iadd X.x X.b dX11_misses_127 ?_
      obtain ⟨b34, hf⟩ := wGi_s hf
      refine aR_1 X h (hS 1) Nat.one_pos Nat.one_pos b34 dX11_misses_128 ?_
      refine lv_iadd X.x X.b dX11_misses_129 ?_
      obtain ⟨y35, e36, hf⟩ := wLe_s hf
      refine lv_nmi e36 ?_
      refine lv_istore (lv' := [(8, .int y35), (0, .ref (k.1 + adR 0 0 0)), (1, .int a1), (2, .int a2), (5, .int x5), (6, .int x6), (7, .int x7)]) X.x X.b dX11_misses_130 hl (by decide) rfl (fun ls hl => ?_)
      refine lv_iload X.x X.b dX11_misses_132 (lv_at hl 5 rfl) ?_
      refine lv_aload_n X.x X.b dX11_misses_134 rfl (lv_at hl 1 rfl) ?_
      refine gR_0_0 X h (hS 0) Nat.one_pos Nat.one_pos lk_X11_7 dX11_misses_135 ?_
      refine lv_iload X.x X.b dX11_misses_138 (lv_at hl 6 rfl) ?_
      refine lv_iconst (v := 1) X.x X.b dX11_misses_140 (by decide) ?_
      refine lv_iadd X.x X.b dX11_misses_141 ?_
      obtain ⟨b37, hf⟩ := wGi_s hf
      refine aR_1 X h (hS 1) Nat.one_pos Nat.one_pos b37 dX11_misses_142 ?_
      refine lv_iload_n X.x X.b dX11_misses_143 rfl (lv_at hl 2 rfl) ?_
      refine lv_icmp_ne (tgt := 166) X.x X.b dX11_misses_144 (by decide) (fun c38 => ?_) (fun c38 => ?_)
      · have hf := wF c38 hf
        exact wX11_misses_b166 hS X h (lv_sub hl [1, 2, 3, 4, 6] rfl) hf J1 JR
      · have hf := wT c38 hf
        refine lv_iload X.x X.b dX11_misses_147 (lv_at hl 0 rfl) ?_
        refine lv_iload X.x X.b dX11_misses_149 (lv_at hl 4 rfl) ?_
        refine lv_icmp_le (tgt := 166) X.x X.b dX11_misses_151 (by decide) (fun c43 => ?_) (fun c43 => ?_)
        · have hf := wT c43 hf
          exact wX11_misses_b166 hS X h (lv_sub hl [1, 2, 3, 4, 6] rfl) hf J1 JR
        · have hf := wF c43 hf
          refine lv_aload_n X.x X.b dX11_misses_154 rfl (lv_at hl 1 rfl) ?_
          refine gR_0_0 X h (hS 0) Nat.one_pos Nat.one_pos lk_X11_7 dX11_misses_155 ?_
          refine lv_iload X.x X.b dX11_misses_158 (lv_at hl 6 rfl) ?_
          refine lv_iconst (v := 2) X.x X.b dX11_misses_160 (by decide) ?_
          refine lv_iadd X.x X.b dX11_misses_161 ?_
          obtain ⟨b44, hf⟩ := wGi_s hf
          refine aR_1 X h (hS 1) Nat.one_pos Nat.one_pos b44 dX11_misses_162 ?_
          refine lv_goto (tgt := 167) X.x X.b dX11_misses_163 (by decide) ?_
          exact wX11_misses_b167 hS X h (lv_sub hl [1, 2, 3, 4, 6] rfl) hf J1 JR
set_option maxHeartbeats 4000000 in
set_option maxRecDepth 20000 in
theorem wX11_misses_b70 {k : En} {S : Nat → Prop} (hS : ∀ t, S t) {g0 : Mm} {a1 : Int32} {a2 : Int32} {res : Int32} (X : Cx YR S k p s m args meth c cX11_misses 9 (some .int) RX11) {z0 : Int32} {H : Heap} {locs : List Loc} {ls : Array Slot} (h : Hx YR S k s g0 H locs) (hl : lv_has ls 9 [(0, .ref (k.1 + adR 0 0 0)), (1, .int a1), (2, .int a2)]) {r : Int32} (hf : fX11_misses_b70 g0 a1 a2 z0 = some r) (JR : r = res) :
    W p l e (RmN 4 88) s m args below meth c H locs 0 0 (Fin YR S k args s below (some (.int res)) g0) (F0 m 70 ls [.int z0]) := by
  unfold fX11_misses_b70 at hf
  refine lv_istore (lv' := [(5, .int z0), (0, .ref (k.1 + adR 0 0 0)), (1, .int a1), (2, .int a2)]) X.x X.b dX11_misses_70 hl (by decide) rfl (fun ls hl => ?_)
  refine lv_iconst (v := 0) X.x X.b dX11_misses_72 (by decide) ?_
  obtain ⟨y21, e22, hf⟩ := wLe_s hf
  refine lv_nmi e22 ?_
  refine lv_istore (lv' := [(6, .int y21), (5, .int z0), (0, .ref (k.1 + adR 0 0 0)), (1, .int a1), (2, .int a2)]) X.x X.b dX11_misses_73 hl (by decide) rfl (fun ls hl => ?_)
  refine lv_sipush (v := 360) X.x X.b dX11_misses_75 (by decide) ?_
  obtain ⟨y23, e24, hf⟩ := wLe_s hf
  refine lv_nmi e24 ?_
  refine lv_istore (lv' := [(7, .int y23), (6, .int y21), (5, .int z0), (0, .ref (k.1 + adR 0 0 0)), (1, .int a1), (2, .int a2)]) X.x X.b dX11_misses_78 hl (by decide) rfl (fun ls hl => ?_)
  exact wX11_misses_L80 hS X JR _ _ _ _ _ _ h (lv_sub hl [3, 4, 5, 2, 1, 0] rfl) hf
set_option maxHeartbeats 4000000 in
set_option maxRecDepth 20000 in
theorem kX11_misses (l : Launch) {k : En} {S : Nat → Prop} (hS : ∀ t, S t) {g0 : Mm} {a1 : Int32} {a2 : Int32} {res : Int32} (hf : fX11_misses g0 a1 a2 = some res) : Mt l yX11_misses cX11_misses 9 (some .int) (RmN 4 88) YR S k [.ref (k.1 + adR 0 0 0), .int a1, .int a2] g0 (some (.int res)) g0 := by
  refine Mt.of (by decide) (Nat.le_of_ble_eq_true rfl) ?_
  intro p e s m args below meth c ls X _ h hl
  have X : Cx YR S k p s m args meth c cX11_misses 9 (some .int) RX11 := X
  have hl : lv_has ls 9 [(0, .ref (k.1 + adR 0 0 0)), (1, .int a1), (2, .int a2)] := hl
  have JR : res = res := rfl
  unfold fX11_misses at hf
  refine lv_aload_n X.x X.b dX11_misses_0 rfl (lv_at hl 0 rfl) ?_
  refine lv_iload_n X.x X.b dX11_misses_1 rfl (lv_at hl 1 rfl) ?_
  obtain ⟨y2, e1, hf⟩ := wBd_s hf
  refine ro_callvI (As := [.int a1]) (g1 := g0) (x := y2) X h (kX11_isVisit l hS e1) mv_X11_isVisit lk_X11_114 ⟨rfl, rfl⟩ ⟨(Nat.le_of_ble_eq_true rfl), (Nat.le_of_ble_eq_true rfl)⟩ (rR_0 X h (hS 0) Nat.one_pos Nat.one_pos) rfl hl rfl (Nat.le_of_ble_eq_true rfl) ⟨Nat.zero_le _, Nat.zero_le _⟩ dX11_misses_2 (fun H locs h => ?_)
  refine lv_if_ne (tgt := 10) X.x X.b dX11_misses_5 (by decide) (fun c3 => ?_) (fun c3 => ?_)
  · have hf := wF c3 hf
    refine lv_iload_n X.x X.b dX11_misses_10 rfl (lv_at hl 2 rfl) ?_
    refine lv_iconst (v := 0) X.x X.b dX11_misses_11 (by decide) ?_
    refine lv_aload_n X.x X.b dX11_misses_12 rfl (lv_at hl 0 rfl) ?_
    refine gR_0_0 X h (hS 0) Nat.one_pos Nat.one_pos lk_X11_7 dX11_misses_13 ?_
    refine lv_sipush (v := 480) X.x X.b dX11_misses_16 (by decide) ?_
    obtain ⟨b4, hf⟩ := wGi_s hf
    refine aR_1 X h (hS 1) Nat.one_pos Nat.one_pos b4 dX11_misses_19 ?_
    obtain ⟨y6, e5, hf⟩ := wBd_s hf
    refine ro_callsI (As := [.int a2, .int (0 : Int32), .int (g0 1 0 0 ((480 : Int32)).toNatClampNeg)]) (g1 := g0) (x := y6) X h (kX11_in l hS e5) mv_X11_in lk_X11_99 ⟨rfl, rfl⟩ ⟨(Nat.le_of_ble_eq_true rfl), (Nat.le_of_ble_eq_true rfl)⟩ rfl hl rfl (Nat.le_of_ble_eq_true rfl) ⟨Nat.zero_le _, Nat.zero_le _⟩ dX11_misses_20 (fun H locs h => ?_)
    refine lv_if_ne (tgt := 29) X.x X.b dX11_misses_23 (by decide) (fun c7 => ?_) (fun c7 => ?_)
    · have hf := wF c7 hf
      refine lv_aload_n X.x X.b dX11_misses_29 rfl (lv_at hl 0 rfl) ?_
      refine lv_iload_n X.x X.b dX11_misses_30 rfl (lv_at hl 1 rfl) ?_
      refine lv_iload_n X.x X.b dX11_misses_31 rfl (lv_at hl 2 rfl) ?_
      obtain ⟨y9, e8, hf⟩ := wBd_s hf
      refine ro_callvI (As := [.int a1, .int a2]) (g1 := g0) (x := y9) X h (kX11_there l hS e8) mv_X11_there lk_X11_291 ⟨rfl, rfl⟩ ⟨(Nat.le_of_ble_eq_true rfl), (Nat.le_of_ble_eq_true rfl)⟩ (rR_0 X h (hS 0) Nat.one_pos Nat.one_pos) rfl hl rfl (Nat.le_of_ble_eq_true rfl) ⟨Nat.zero_le _, Nat.zero_le _⟩ dX11_misses_32 (fun H locs h => ?_)
      refine lv_aload_n X.x X.b dX11_misses_35 rfl (lv_at hl 0 rfl) ?_
      refine lv_iload_n X.x X.b dX11_misses_36 rfl (lv_at hl 1 rfl) ?_
      obtain ⟨y11, e10, hf⟩ := wBd_s hf
      refine ro_callvI (As := [.int a1]) (g1 := g0) (x := y11) X h (kX11_toLoad l hS e10) mv_X11_toLoad lk_X11_294 ⟨rfl, rfl⟩ ⟨(Nat.le_of_ble_eq_true rfl), (Nat.le_of_ble_eq_true rfl)⟩ (rR_0 X h (hS 0) Nat.one_pos Nat.one_pos) rfl hl rfl (Nat.le_of_ble_eq_true rfl) ⟨Nat.zero_le _, Nat.zero_le _⟩ dX11_misses_37 (fun H locs h => ?_)
      refine lv_iadd X.x X.b dX11_misses_40 ?_
      obtain ⟨y12, e13, hf⟩ := wLe_s hf
      refine lv_nmi e13 ?_
      refine lv_istore_n (lv' := [(3, .int y12), (0, .ref (k.1 + adR 0 0 0)), (1, .int a1), (2, .int a2)]) X.x X.b dX11_misses_41 rfl hl (by decide) rfl (fun ls hl => ?_)
      refine lv_aload_n X.x X.b dX11_misses_42 rfl (lv_at hl 1 rfl) ?_
      refine lv_iload_n X.x X.b dX11_misses_43 rfl (lv_at hl 2 rfl) ?_
      refine lv_iconst (v := 2) X.x X.b dX11_misses_44 (by decide) ?_
      obtain ⟨y15, e14, hf⟩ := wBd_s hf
      refine ro_callvI (As := [.int a1, .int (2 : Int32)]) (g1 := g0) (x := y15) X h (kX11_of l hS e14) mv_X11_of lk_X11_106 ⟨rfl, rfl⟩ ⟨(Nat.le_of_ble_eq_true rfl), (Nat.le_of_ble_eq_true rfl)⟩ (rR_0 X h (hS 0) Nat.one_pos Nat.one_pos) rfl hl rfl (Nat.le_of_ble_eq_true rfl) ⟨Nat.zero_le _, Nat.zero_le _⟩ dX11_misses_45 (fun H locs h => ?_)
      refine lv_aload_n X.x X.b dX11_misses_48 rfl (lv_at hl 1 rfl) ?_
      refine lv_iload_n X.x X.b dX11_misses_49 rfl (lv_at hl 2 rfl) ?_
      refine lv_bipush (v := 7) X.x X.b dX11_misses_50 (by decide) ?_
      obtain ⟨y17, e16, hf⟩ := wBd_s hf
      refine ro_callvI (As := [.int a1, .int (7 : Int32)]) (g1 := g0) (x := y17) X h (kX11_ticksOf l hS e16) mv_X11_ticksOf lk_X11_221 ⟨rfl, rfl⟩ ⟨(Nat.le_of_ble_eq_true rfl), (Nat.le_of_ble_eq_true rfl)⟩ (rR_0 X h (hS 0) Nat.one_pos Nat.one_pos) rfl hl rfl (Nat.le_of_ble_eq_true rfl) ⟨Nat.zero_le _, Nat.zero_le _⟩ dX11_misses_52 (fun H locs h => ?_)
      refine lv_isub X.x X.b dX11_misses_55 ?_
      obtain ⟨y18, e19, hf⟩ := wLe_s hf
      refine lv_nmi e19 ?_
      refine lv_istore (lv' := [(4, .int y18), (3, .int y12), (0, .ref (k.1 + adR 0 0 0)), (1, .int a1), (2, .int a2)]) X.x X.b dX11_misses_56 hl (by decide) rfl (fun ls hl => ?_)
      refine lv_iload X.x X.b dX11_misses_58 (lv_at hl 0 rfl) ?_
      refine lv_iload_n X.x X.b dX11_misses_60 rfl (lv_at hl 1 rfl) ?_
      refine lv_icmp_le (tgt := 69) X.x X.b dX11_misses_61 (by decide) (fun c20 => ?_) (fun c20 => ?_)
      · have hf := wT c20 hf
        refine lv_iload_n X.x X.b dX11_misses_69 rfl (lv_at hl 1 rfl) ?_
        exact wX11_misses_b70 hS X h (lv_sub hl [2, 3, 4] rfl) hf JR
      · have hf := wF c20 hf
        refine lv_iload X.x X.b dX11_misses_64 (lv_at hl 0 rfl) ?_
        refine lv_goto (tgt := 70) X.x X.b dX11_misses_66 (by decide) ?_
        exact wX11_misses_b70 hS X h (lv_sub hl [2, 3, 4] rfl) hf JR
    · have hf := wT c7 hf
      refine lv_bipush (v := (-2)) X.x X.b dX11_misses_26 (by decide) ?_
      cases (Option.some.inj hf).trans JR
      exact ro_iret X h dX11_misses_28
  · have hf := wT c3 hf
    refine lv_iconst (v := (-1)) X.x X.b dX11_misses_8 (by decide) ?_
    cases (Option.some.inj hf).trans JR
    exact ro_iret X h dX11_misses_9
set_option maxHeartbeats 4000000 in
set_option maxRecDepth 20000 in
theorem kX11_count (l : Launch) {k : En} {S : Nat → Prop} (hS : ∀ t, S t) {g0 : Mm} {a1 : Int32} {res : Int32} (hf : fX11_count g0 a1 = some res) : Mt l yX11_count cX11_count 2 (some .int) (RmN 3 67) YR S k [.ref (k.1 + adR 0 0 0), .int a1] g0 (some (.int res)) g0 := by
  refine Mt.of (by decide) (Nat.le_of_ble_eq_true rfl) ?_
  intro p e s m args below meth c ls X _ h hl
  have X : Cx YR S k p s m args meth c cX11_count 2 (some .int) RX11 := X
  have hl : lv_has ls 2 [(0, .ref (k.1 + adR 0 0 0)), (1, .int a1)] := hl
  have JR : res = res := rfl
  unfold fX11_count at hf
  refine lv_iload_n X.x X.b dX11_count_0 rfl (lv_at hl 1 rfl) ?_
  by_cases c1 : a1 = (0 : Int32)
  · have hf := wT c1 hf
    refine lv_tableIn (off := 71) (tgt := 72) X.x X.b dX11_count_1 (by rw [c1]; decide) (by rw [c1]; decide) (by rw [c1]; rfl) (by decide) ?_
    refine lv_aload_n X.x X.b dX11_count_72 rfl (lv_at hl 0 rfl) ?_
    refine gR_0_0 X h (hS 0) Nat.one_pos Nat.one_pos lk_X11_7 dX11_count_73 ?_
    refine lv_sipush (v := 480) X.x X.b dX11_count_76 (by decide) ?_
    obtain ⟨b2, hf⟩ := wGi_s hf
    refine aR_1 X h (hS 1) Nat.one_pos Nat.one_pos b2 dX11_count_79 ?_
    cases (Option.some.inj hf).trans JR
    exact ro_iret X h dX11_count_80
  · have hf := wF c1 hf
    by_cases c3 : a1 = (1 : Int32)
    · have hf := wT c3 hf
      refine lv_tableIn (off := 80) (tgt := 81) X.x X.b dX11_count_1 (by rw [c3]; decide) (by rw [c3]; decide) (by rw [c3]; rfl) (by decide) ?_
      refine lv_aload_n X.x X.b dX11_count_81 rfl (lv_at hl 0 rfl) ?_
      refine gR_0_1 X h (hS 0) Nat.one_pos Nat.one_pos lk_X11_96 dX11_count_82 ?_
      cases (Option.some.inj hf).trans JR
      exact ro_iret X h dX11_count_85
    · have hf := wF c3 hf
      by_cases c4 : a1 = (2 : Int32)
      · have hf := wT c4 hf
        refine lv_tableIn (off := 85) (tgt := 86) X.x X.b dX11_count_1 (by rw [c4]; decide) (by rw [c4]; decide) (by rw [c4]; rfl) (by decide) ?_
        refine lv_aload_n X.x X.b dX11_count_86 rfl (lv_at hl 0 rfl) ?_
        refine gR_0_3 X h (hS 0) Nat.one_pos Nat.one_pos lk_X11_103 dX11_count_87 ?_
        cases (Option.some.inj hf).trans JR
        exact ro_iret X h dX11_count_90
      · have hf := wF c4 hf
        by_cases c5 : a1 = (3 : Int32)
        · have hf := wT c5 hf
          refine lv_tableIn (off := 90) (tgt := 91) X.x X.b dX11_count_1 (by rw [c5]; decide) (by rw [c5]; decide) (by rw [c5]; rfl) (by decide) ?_
          refine lv_aload_n X.x X.b dX11_count_91 rfl (lv_at hl 0 rfl) ?_
          refine gR_0_2 X h (hS 0) Nat.one_pos Nat.one_pos lk_X11_124 dX11_count_92 ?_
          cases (Option.some.inj hf).trans JR
          exact ro_iret X h dX11_count_95
        · have hf := wF c5 hf
          by_cases c6 : a1 = (4 : Int32)
          · have hf := wT c6 hf
            refine lv_tableIn (off := 95) (tgt := 96) X.x X.b dX11_count_1 (by rw [c6]; decide) (by rw [c6]; decide) (by rw [c6]; rfl) (by decide) ?_
            refine lv_aload_n X.x X.b dX11_count_96 rfl (lv_at hl 0 rfl) ?_
            refine gR_0_12 X h (hS 0) Nat.one_pos Nat.one_pos lk_X11_92 dX11_count_97 ?_
            cases (Option.some.inj hf).trans JR
            exact ro_iret X h dX11_count_100
          · have hf := wF c6 hf
            by_cases c7 : a1 = (5 : Int32)
            · have hf := wT c7 hf
              refine lv_tableIn (off := 100) (tgt := 101) X.x X.b dX11_count_1 (by rw [c7]; decide) (by rw [c7]; decide) (by rw [c7]; rfl) (by decide) ?_
              refine lv_aload_n X.x X.b dX11_count_101 rfl (lv_at hl 0 rfl) ?_
              refine gR_0_13 X h (hS 0) Nat.one_pos Nat.one_pos lk_X11_186 dX11_count_102 ?_
              cases (Option.some.inj hf).trans JR
              exact ro_iret X h dX11_count_105
            · have hf := wF c7 hf
              by_cases c8 : a1 = (6 : Int32)
              · have hf := wT c8 hf
                refine lv_tableIn (off := 105) (tgt := 106) X.x X.b dX11_count_1 (by rw [c8]; decide) (by rw [c8]; decide) (by rw [c8]; rfl) (by decide) ?_
                refine lv_aload_n X.x X.b dX11_count_106 rfl (lv_at hl 0 rfl) ?_
                refine gR_0_11 X h (hS 0) Nat.one_pos Nat.one_pos lk_X11_127 dX11_count_107 ?_
                cases (Option.some.inj hf).trans JR
                exact ro_iret X h dX11_count_110
              · have hf := wF c8 hf
                by_cases c9 : a1 = (7 : Int32)
                · have hf := wT c9 hf
                  refine lv_tableIn (off := 110) (tgt := 111) X.x X.b dX11_count_1 (by rw [c9]; decide) (by rw [c9]; decide) (by rw [c9]; rfl) (by decide) ?_
                  refine lv_aload_n X.x X.b dX11_count_111 rfl (lv_at hl 0 rfl) ?_
                  refine gR_0_4 X h (hS 0) Nat.one_pos Nat.one_pos lk_X11_285 dX11_count_112 ?_
                  cases (Option.some.inj hf).trans JR
                  exact ro_iret X h dX11_count_115
                · have hf := wF c9 hf
                  by_cases c10 : a1 = (8 : Int32)
                  · have hf := wT c10 hf
                    refine lv_tableIn (off := 115) (tgt := 116) X.x X.b dX11_count_1 (by rw [c10]; decide) (by rw [c10]; decide) (by rw [c10]; rfl) (by decide) ?_
                    refine lv_aload_n X.x X.b dX11_count_116 rfl (lv_at hl 0 rfl) ?_
                    obtain ⟨y12, e11, hf⟩ := wBd_s hf
                    refine ro_callvI (As := []) (g1 := g0) (x := y12) X h (kX11_lateOfAll l hS e11) mv_X11_lateOfAll lk_X11_266 ⟨rfl, rfl⟩ ⟨(Nat.le_of_ble_eq_true rfl), (Nat.le_of_ble_eq_true rfl)⟩ (rR_0 X h (hS 0) Nat.one_pos Nat.one_pos) rfl hl rfl (Nat.le_of_ble_eq_true rfl) ⟨Nat.zero_le _, Nat.zero_le _⟩ dX11_count_117 (fun H locs h => ?_)
                    cases (Option.some.inj hf).trans JR
                    exact ro_iret X h dX11_count_120
                  · have hf := wF c10 hf
                    by_cases c13 : a1 = (9 : Int32)
                    · have hf := wT c13 hf
                      refine lv_tableIn (off := 120) (tgt := 121) X.x X.b dX11_count_1 (by rw [c13]; decide) (by rw [c13]; decide) (by rw [c13]; rfl) (by decide) ?_
                      refine lv_aload_n X.x X.b dX11_count_121 rfl (lv_at hl 0 rfl) ?_
                      obtain ⟨y15, e14, hf⟩ := wBd_s hf
                      refine ro_callvI (As := []) (g1 := g0) (x := y15) X h (kX11_missed l hS e14) mv_X11_missed lk_X11_269 ⟨rfl, rfl⟩ ⟨(Nat.le_of_ble_eq_true rfl), (Nat.le_of_ble_eq_true rfl)⟩ (rR_0 X h (hS 0) Nat.one_pos Nat.one_pos) rfl hl rfl (Nat.le_of_ble_eq_true rfl) ⟨Nat.zero_le _, Nat.zero_le _⟩ dX11_count_122 (fun H locs h => ?_)
                      cases (Option.some.inj hf).trans JR
                      exact ro_iret X h dX11_count_125
                    · have hf := wF c13 hf
                      by_cases c16 : a1 = (10 : Int32)
                      · have hf := wT c16 hf
                        refine lv_tableIn (off := 125) (tgt := 126) X.x X.b dX11_count_1 (by rw [c16]; decide) (by rw [c16]; decide) (by rw [c16]; rfl) (by decide) ?_
                        refine lv_aload_n X.x X.b dX11_count_126 rfl (lv_at hl 0 rfl) ?_
                        refine gR_0_0 X h (hS 0) Nat.one_pos Nat.one_pos lk_X11_7 dX11_count_127 ?_
                        refine lv_sipush (v := 483) X.x X.b dX11_count_130 (by decide) ?_
                        obtain ⟨b17, hf⟩ := wGi_s hf
                        refine aR_1 X h (hS 1) Nat.one_pos Nat.one_pos b17 dX11_count_133 ?_
                        cases (Option.some.inj hf).trans JR
                        exact ro_iret X h dX11_count_134
                      · have hf := wF c16 hf
                        by_cases c18 : a1 = (11 : Int32)
                        · have hf := wT c18 hf
                          refine lv_tableIn (off := 134) (tgt := 135) X.x X.b dX11_count_1 (by rw [c18]; decide) (by rw [c18]; decide) (by rw [c18]; rfl) (by decide) ?_
                          refine lv_aload_n X.x X.b dX11_count_135 rfl (lv_at hl 0 rfl) ?_
                          refine gR_0_0 X h (hS 0) Nat.one_pos Nat.one_pos lk_X11_7 dX11_count_136 ?_
                          refine lv_sipush (v := 481) X.x X.b dX11_count_139 (by decide) ?_
                          obtain ⟨b19, hf⟩ := wGi_s hf
                          refine aR_1 X h (hS 1) Nat.one_pos Nat.one_pos b19 dX11_count_142 ?_
                          cases (Option.some.inj hf).trans JR
                          exact ro_iret X h dX11_count_143
                        · have hf := wF c18 hf
                          by_cases c20 : a1 = (12 : Int32)
                          · have hf := wT c20 hf
                            refine lv_tableIn (off := 143) (tgt := 144) X.x X.b dX11_count_1 (by rw [c20]; decide) (by rw [c20]; decide) (by rw [c20]; rfl) (by decide) ?_
                            refine lv_aload_n X.x X.b dX11_count_144 rfl (lv_at hl 0 rfl) ?_
                            refine gR_0_0 X h (hS 0) Nat.one_pos Nat.one_pos lk_X11_7 dX11_count_145 ?_
                            refine lv_sipush (v := 482) X.x X.b dX11_count_148 (by decide) ?_
                            obtain ⟨b21, hf⟩ := wGi_s hf
                            refine aR_1 X h (hS 1) Nat.one_pos Nat.one_pos b21 dX11_count_151 ?_
                            cases (Option.some.inj hf).trans JR
                            exact ro_iret X h dX11_count_152
                          · have hf := wF c20 hf
                            by_cases c22 : a1 = (13 : Int32)
                            · have hf := wT c22 hf
                              refine lv_tableIn (off := 152) (tgt := 153) X.x X.b dX11_count_1 (by rw [c22]; decide) (by rw [c22]; decide) (by rw [c22]; rfl) (by decide) ?_
                              refine lv_aload_n X.x X.b dX11_count_153 rfl (lv_at hl 0 rfl) ?_
                              refine gR_0_0 X h (hS 0) Nat.one_pos Nat.one_pos lk_X11_7 dX11_count_154 ?_
                              refine lv_sipush (v := 484) X.x X.b dX11_count_157 (by decide) ?_
                              obtain ⟨b23, hf⟩ := wGi_s hf
                              refine aR_1 X h (hS 1) Nat.one_pos Nat.one_pos b23 dX11_count_160 ?_
                              cases (Option.some.inj hf).trans JR
                              exact ro_iret X h dX11_count_161
                            · have hf := wF c22 hf
                              refine lv_tableOut (tgt := 162) X.x X.b dX11_count_1 (by have q0 := lv_neT c1 (a := 0) rfl; have q1 := lv_neT c3 (a := 1) rfl; have q2 := lv_neT c4 (a := 2) rfl; have q3 := lv_neT c5 (a := 3) rfl; have q4 := lv_neT c6 (a := 4) rfl; have q5 := lv_neT c7 (a := 5) rfl; have q6 := lv_neT c8 (a := 6) rfl; have q7 := lv_neT c9 (a := 7) rfl; have q8 := lv_neT c10 (a := 8) rfl; have q9 := lv_neT c13 (a := 9) rfl; have q10 := lv_neT c16 (a := 10) rfl; have q11 := lv_neT c18 (a := 11) rfl; have q12 := lv_neT c20 (a := 12) rfl; have q13 := lv_neT c22 (a := 13) rfl; omega) (by decide) ?_
                              refine lv_bipush (v := (-2)) X.x X.b dX11_count_162 (by decide) ?_
                              cases (Option.some.inj hf).trans JR
                              exact ro_iret X h dX11_count_164
set_option maxHeartbeats 4000000 in
set_option maxRecDepth 20000 in
theorem wX11_sheet_L70 {k : En} {S : Nat → Prop} (hS : ∀ t, S t) {a1 : Int32} {a2 : Int32} {a3 : Int32} {res : Mm × Int32} (X : Cx YR S k p s m args meth c cX11_sheet 5 (some .int) RX11) {r : Mm × Int32} (JR : r = res) :
    ∀ (fu : Nat) (g : Mm) (x4 : Int32) (H : Heap) (locs : List Loc) (ls : Array Slot), Hx YR S k s g H locs → lv_has ls 5 [(0, .ref (k.1 + adR 0 0 0)), (1, .int a1), (4, .int x4)] → wLp (fun q => fX11_sheet_B70 q.1 a1 a2 a3 q.2) fu (g, x4) = some r → W p l e (RmN 1 22) s m args below meth c H locs 0 0 (Fin YR S k args s below (some (.int res.2)) res.1) (F0 m 70 ls []) := by
  intro fu
  induction fu with
  | zero => intro g x4 H locs ls h hl hf; exact (wLp_0 hf).elim
  | succ fu ih1 =>
    intro g x4 H locs ls h hl hf
    obtain ⟨r1, hf, hr⟩ := wLp_s hf
    have J1n : ∀ (g : Mm) (x4 : Int32), r1 = .inl (g, x4) → ∀ (H : Heap) (locs : List Loc) (ls : Array Slot), Hx YR S k s g H locs → lv_has ls 5 [(0, .ref (k.1 + adR 0 0 0)), (1, .int a1), (4, .int x4)] → W p l e (RmN 1 22) s m args below meth c H locs 0 0 (Fin YR S k args s below (some (.int res.2)) res.1) (F0 m 70 ls []) := fun g x4 q H locs ls h hl => by subst q; exact ih1 _ _ _ _ _ h hl hr
    have JRn : ∀ t1, r1 = .inr t1 → t1 = res := fun t1 q => by subst q; obtain rfl := Option.some.inj hr; exact JR
    have J1 := J1n
    have JR := JRn
    clear J1n JRn
    have hf : fX11_sheet_B70 g a1 a2 a3 x4 = some r1 := hf
    unfold fX11_sheet_B70 at hf
    refine lv_iload X.x X.b dX11_sheet_70 (lv_at hl 2 rfl) ?_
    refine lv_bipush (v := 40) X.x X.b dX11_sheet_72 (by decide) ?_
    refine lv_icmp_ge (tgt := 96) X.x X.b dX11_sheet_74 (by decide) (fun c18 => ?_) (fun c18 => ?_)
    · have hf := wT c18 hf
      obtain ⟨t19, hf, e20⟩ := wEx_s hf
      have JR := JR t19 e20
      refine lv_iconst (v := 1) X.x X.b dX11_sheet_96 (by decide) ?_
      cases (Option.some.inj hf).trans JR
      exact ro_iret X h dX11_sheet_97
    · have hf := wF c18 hf
      refine lv_aload_n X.x X.b dX11_sheet_77 rfl (lv_at hl 0 rfl) ?_
      refine gR_0_19 X h (hS 0) Nat.one_pos Nat.one_pos lk_X11_47 dX11_sheet_78 ?_
      refine lv_bipush (v := 40) X.x X.b dX11_sheet_81 (by decide) ?_
      refine lv_iload_n X.x X.b dX11_sheet_83 rfl (lv_at hl 1 rfl) ?_
      refine lv_imul X.x X.b dX11_sheet_84 ?_
      refine lv_iload X.x X.b dX11_sheet_85 (lv_at hl 2 rfl) ?_
      refine lv_iadd X.x X.b dX11_sheet_87 ?_
      refine lv_iconst (v := 0) X.x X.b dX11_sheet_88 (by decide) ?_
      obtain ⟨b21, hf⟩ := wGi_s hf
      obtain ⟨g22, e23, hf⟩ := wLe_s hf
      refine bR_12 X h (hS 12) Nat.one_pos Nat.one_pos e23 b21 dX11_sheet_89 (fun H locs h => ?_)
      obtain ⟨y24, e25, hf⟩ := wLe_s hf
      refine lv_iinc (v := y24) (lv' := [(4, .int y24), (0, .ref (k.1 + adR 0 0 0)), (1, .int a1)]) X.x X.b dX11_sheet_90 hl (k := 2) rfl (by rw [e25]; rfl) (by decide) rfl (fun ls hl => ?_)
      refine lv_goto (tgt := 70) X.x X.b dX11_sheet_93 (by decide) ?_
      exact J1 _ _ (Option.some.inj hf).symm _ _ _ h (lv_sub hl [1, 2, 0] rfl)
set_option maxHeartbeats 4000000 in
set_option maxRecDepth 20000 in
theorem wX11_sheet_b66 {k : En} {S : Nat → Prop} (hS : ∀ t, S t) {a1 : Int32} {a2 : Int32} {a3 : Int32} {res : Mm × Int32} (X : Cx YR S k p s m args meth c cX11_sheet 5 (some .int) RX11) {g : Mm} {z1 : Int32} {z2 : Int32} {H : Heap} {locs : List Loc} {ls : Array Slot} (h : Hx YR S k s g H locs) (hl : lv_has ls 5 [(0, .ref (k.1 + adR 0 0 0)), (1, .int a1)]) {r : Mm × Int32} (hf : fX11_sheet_b66 g a1 a2 a3 z1 z2 = some r) (JR : r = res) :
    W p l e (RmN 1 22) s m args below meth c H locs 0 0 (Fin YR S k args s below (some (.int res.2)) res.1) (F0 m 66 ls [.int z2, .int z1, .ref (k.1 + adR 11 0 0)]) := by
  unfold fX11_sheet_b66 at hf
  obtain ⟨b13, hf⟩ := wGi_s hf
  obtain ⟨g14, e15, hf⟩ := wLe_s hf
  refine bR_11 X h (hS 11) Nat.one_pos Nat.one_pos e15 b13 dX11_sheet_66 (fun H locs h => ?_)
  refine lv_iconst (v := 0) X.x X.b dX11_sheet_67 (by decide) ?_
  obtain ⟨y16, e17, hf⟩ := wLe_s hf
  refine lv_nmi e17 ?_
  refine lv_istore (lv' := [(4, .int y16), (0, .ref (k.1 + adR 0 0 0)), (1, .int a1)]) X.x X.b dX11_sheet_68 hl (by decide) rfl (fun ls hl => ?_)
  exact wX11_sheet_L70 hS X JR _ _ _ _ _ _ h (lv_sub hl [1, 2, 0] rfl) hf
set_option maxHeartbeats 4000000 in
set_option maxRecDepth 20000 in
theorem wX11_sheet_b44 {k : En} {S : Nat → Prop} (hS : ∀ t, S t) {a1 : Int32} {a2 : Int32} {a3 : Int32} {res : Mm × Int32} (X : Cx YR S k p s m args meth c cX11_sheet 5 (some .int) RX11) {g : Mm} {H : Heap} {locs : List Loc} {ls : Array Slot} (h : Hx YR S k s g H locs) (hl : lv_has ls 5 [(0, .ref (k.1 + adR 0 0 0)), (1, .int a1), (2, .int a2), (3, .int a3)]) {r : Mm × Int32} (hf : fX11_sheet_b44 g a1 a2 a3 = some r) (JR : r = res) :
    W p l e (RmN 1 22) s m args below meth c H locs 0 0 (Fin YR S k args s below (some (.int res.2)) res.1) (F0 m 44 ls []) := by
  unfold fX11_sheet_b44 at hf
  refine lv_aload_n X.x X.b dX11_sheet_44 rfl (lv_at hl 0 rfl) ?_
  refine gR_0_17 X h (hS 0) Nat.one_pos Nat.one_pos lk_X11_41 dX11_sheet_45 ?_
  refine lv_iload_n X.x X.b dX11_sheet_48 rfl (lv_at hl 1 rfl) ?_
  refine lv_iload_n X.x X.b dX11_sheet_49 rfl (lv_at hl 2 rfl) ?_
  obtain ⟨b9, hf⟩ := wGi_s hf
  obtain ⟨g10, e11, hf⟩ := wLe_s hf
  refine bR_10 X h (hS 10) Nat.one_pos Nat.one_pos e11 b9 dX11_sheet_50 (fun H locs h => ?_)
  refine lv_aload_n X.x X.b dX11_sheet_51 rfl (lv_at hl 0 rfl) ?_
  refine gR_0_18 X h (hS 0) Nat.one_pos Nat.one_pos lk_X11_44 dX11_sheet_52 ?_
  refine lv_iload_n X.x X.b dX11_sheet_55 rfl (lv_at hl 1 rfl) ?_
  refine lv_iload_n X.x X.b dX11_sheet_56 rfl (lv_at hl 2 rfl) ?_
  refine lv_iconst (v := (-1)) X.x X.b dX11_sheet_57 (by decide) ?_
  refine lv_icmp_ne (tgt := 65) X.x X.b dX11_sheet_58 (by decide) (fun c12 => ?_) (fun c12 => ?_)
  · have hf := wF c12 hf
    refine lv_iload_n X.x X.b dX11_sheet_65 rfl (lv_at hl 3 rfl) ?_
    exact wX11_sheet_b66 hS X h (lv_sub hl [0, 1] rfl) hf JR
  · have hf := wT c12 hf
    refine lv_iconst (v := 0) X.x X.b dX11_sheet_61 (by decide) ?_
    refine lv_goto (tgt := 66) X.x X.b dX11_sheet_62 (by decide) ?_
    exact wX11_sheet_b66 hS X h (lv_sub hl [0, 1] rfl) hf JR
set_option maxHeartbeats 4000000 in
set_option maxRecDepth 20000 in
theorem wX11_sheet_b32 {k : En} {S : Nat → Prop} (hS : ∀ t, S t) {a1 : Int32} {a2 : Int32} {a3 : Int32} {res : Mm × Int32} (X : Cx YR S k p s m args meth c cX11_sheet 5 (some .int) RX11) {g : Mm} {H : Heap} {locs : List Loc} {ls : Array Slot} (h : Hx YR S k s g H locs) (hl : lv_has ls 5 [(0, .ref (k.1 + adR 0 0 0)), (1, .int a1), (2, .int a2), (3, .int a3)]) {r : Mm × Int32} (hf : fX11_sheet_b32 g a1 a2 a3 = some r) (JR : r = res) :
    W p l e (RmN 1 22) s m args below meth c H locs 0 0 (Fin YR S k args s below (some (.int res.2)) res.1) (F0 m 32 ls []) := by
  unfold fX11_sheet_b32 at hf
  refine lv_iload_n X.x X.b dX11_sheet_32 rfl (lv_at hl 2 rfl) ?_
  refine lv_iconst (v := (-1)) X.x X.b dX11_sheet_33 (by decide) ?_
  refine lv_icmp_eq (tgt := 44) X.x X.b dX11_sheet_34 (by decide) (fun c8 => ?_) (fun c8 => ?_)
  · have hf := wT c8 hf
    exact wX11_sheet_b44 hS X h (lv_sub hl [0, 1, 2, 3] rfl) hf JR
  · have hf := wF c8 hf
    refine lv_iload_n X.x X.b dX11_sheet_37 rfl (lv_at hl 3 rfl) ?_
    refine lv_if_ge (tgt := 44) X.x X.b dX11_sheet_38 (by decide) (fun c26 => ?_) (fun c26 => ?_)
    · have hf := wT c26 hf
      exact wX11_sheet_b44 hS X h (lv_sub hl [0, 1, 2, 3] rfl) hf JR
    · have hf := wF c26 hf
      refine lv_bipush (v := (-14)) X.x X.b dX11_sheet_41 (by decide) ?_
      cases (Option.some.inj hf).trans JR
      exact ro_iret X h dX11_sheet_43
set_option maxHeartbeats 4000000 in
set_option maxRecDepth 20000 in
theorem kX11_sheet (l : Launch) {k : En} {S : Nat → Prop} (hS : ∀ t, S t) {a1 : Int32} {a2 : Int32} {a3 : Int32} {res : Mm × Int32} {g : Mm} (hf : fX11_sheet g a1 a2 a3 = some res) : Mt l yX11_sheet cX11_sheet 5 (some .int) (RmN 1 22) YR S k [.ref (k.1 + adR 0 0 0), .int a1, .int a2, .int a3] g (some (.int res.2)) res.1 := by
  refine Mt.of (by decide) (Nat.le_of_ble_eq_true rfl) ?_
  intro p e s m args below meth c ls X _ h hl
  have X : Cx YR S k p s m args meth c cX11_sheet 5 (some .int) RX11 := X
  have hl : lv_has ls 5 [(0, .ref (k.1 + adR 0 0 0)), (1, .int a1), (2, .int a2), (3, .int a3)] := hl
  have JR : res = res := rfl
  unfold fX11_sheet at hf
  refine lv_iload_n X.x X.b dX11_sheet_0 rfl (lv_at hl 1 rfl) ?_
  refine lv_iconst (v := 0) X.x X.b dX11_sheet_1 (by decide) ?_
  refine lv_iconst (v := 3) X.x X.b dX11_sheet_2 (by decide) ?_
  obtain ⟨y2, e1, hf⟩ := wBd_s hf
  refine ro_callsI (As := [.int a1, .int (0 : Int32), .int (3 : Int32)]) (g1 := g) (x := y2) X h (kX11_in l hS e1) mv_X11_in lk_X11_99 ⟨rfl, rfl⟩ ⟨(Nat.le_of_ble_eq_true rfl), (Nat.le_of_ble_eq_true rfl)⟩ rfl hl rfl (Nat.le_of_ble_eq_true rfl) ⟨Nat.zero_le _, Nat.zero_le _⟩ dX11_sheet_3 (fun H locs h => ?_)
  refine lv_if_eq (tgt := 29) X.x X.b dX11_sheet_6 (by decide) (fun c3 => ?_) (fun c3 => ?_)
  · have hf := wT c3 hf
    refine lv_bipush (v := (-2)) X.x X.b dX11_sheet_29 (by decide) ?_
    cases (Option.some.inj hf).trans JR
    exact ro_iret X h dX11_sheet_31
  · have hf := wF c3 hf
    refine lv_iload_n X.x X.b dX11_sheet_9 rfl (lv_at hl 2 rfl) ?_
    refine lv_iconst (v := (-1)) X.x X.b dX11_sheet_10 (by decide) ?_
    refine lv_iconst (v := 2) X.x X.b dX11_sheet_11 (by decide) ?_
    obtain ⟨y5, e4, hf⟩ := wBd_s hf
    refine ro_callsI (As := [.int a2, .int (-1 : Int32), .int (2 : Int32)]) (g1 := g) (x := y5) X h (kX11_in l hS e4) mv_X11_in lk_X11_99 ⟨rfl, rfl⟩ ⟨(Nat.le_of_ble_eq_true rfl), (Nat.le_of_ble_eq_true rfl)⟩ rfl hl rfl (Nat.le_of_ble_eq_true rfl) ⟨Nat.zero_le _, Nat.zero_le _⟩ dX11_sheet_12 (fun H locs h => ?_)
    refine lv_if_eq (tgt := 29) X.x X.b dX11_sheet_15 (by decide) (fun c6 => ?_) (fun c6 => ?_)
    · have hf := wT c6 hf
      refine lv_bipush (v := (-2)) X.x X.b dX11_sheet_29 (by decide) ?_
      cases (Option.some.inj hf).trans JR
      exact ro_iret X h dX11_sheet_31
    · have hf := wF c6 hf
      refine lv_iload_n X.x X.b dX11_sheet_18 rfl (lv_at hl 2 rfl) ?_
      refine lv_iconst (v := (-1)) X.x X.b dX11_sheet_19 (by decide) ?_
      refine lv_icmp_eq (tgt := 32) X.x X.b dX11_sheet_20 (by decide) (fun c7 => ?_) (fun c7 => ?_)
      · have hf := wT c7 hf
        exact wX11_sheet_b32 hS X h (lv_sub hl [0, 1, 2, 3] rfl) hf JR
      · have hf := wF c7 hf
        refine lv_iload_n X.x X.b dX11_sheet_23 rfl (lv_at hl 3 rfl) ?_
        refine lv_bipush (v := 40) X.x X.b dX11_sheet_24 (by decide) ?_
        refine lv_icmp_le (tgt := 32) X.x X.b dX11_sheet_26 (by decide) (fun c27 => ?_) (fun c27 => ?_)
        · have hf := wT c27 hf
          exact wX11_sheet_b32 hS X h (lv_sub hl [0, 1, 2, 3] rfl) hf JR
        · have hf := wF c27 hf
          refine lv_bipush (v := (-2)) X.x X.b dX11_sheet_29 (by decide) ?_
          cases (Option.some.inj hf).trans JR
          exact ro_iret X h dX11_sheet_31
set_option maxHeartbeats 4000000 in
set_option maxRecDepth 20000 in
theorem kX11_cell (l : Launch) {k : En} {S : Nat → Prop} (hS : ∀ t, S t) {a1 : Int32} {a2 : Int32} {a3 : Int32} {res : Mm × Int32} {g : Mm} (hf : fX11_cell g a1 a2 a3 = some res) : Mt l yX11_cell cX11_cell 4 (some .int) (RmN 1 22) YR S k [.ref (k.1 + adR 0 0 0), .int a1, .int a2, .int a3] g (some (.int res.2)) res.1 := by
  refine Mt.of (by decide) (Nat.le_of_ble_eq_true rfl) ?_
  intro p e s m args below meth c ls X _ h hl
  have X : Cx YR S k p s m args meth c cX11_cell 4 (some .int) RX11 := X
  have hl : lv_has ls 4 [(0, .ref (k.1 + adR 0 0 0)), (1, .int a1), (2, .int a2), (3, .int a3)] := hl
  have JR : res = res := rfl
  unfold fX11_cell at hf
  refine lv_iload_n X.x X.b dX11_cell_0 rfl (lv_at hl 1 rfl) ?_
  refine lv_iconst (v := 0) X.x X.b dX11_cell_1 (by decide) ?_
  refine lv_iconst (v := 3) X.x X.b dX11_cell_2 (by decide) ?_
  obtain ⟨y2, e1, hf⟩ := wBd_s hf
  refine ro_callsI (As := [.int a1, .int (0 : Int32), .int (3 : Int32)]) (g1 := g) (x := y2) X h (kX11_in l hS e1) mv_X11_in lk_X11_99 ⟨rfl, rfl⟩ ⟨(Nat.le_of_ble_eq_true rfl), (Nat.le_of_ble_eq_true rfl)⟩ rfl hl rfl (Nat.le_of_ble_eq_true rfl) ⟨Nat.zero_le _, Nat.zero_le _⟩ dX11_cell_3 (fun H locs h => ?_)
  refine lv_if_ne (tgt := 12) X.x X.b dX11_cell_6 (by decide) (fun c3 => ?_) (fun c3 => ?_)
  · have hf := wF c3 hf
    refine lv_aload_n X.x X.b dX11_cell_12 rfl (lv_at hl 0 rfl) ?_
    refine gR_0_17 X h (hS 0) Nat.one_pos Nat.one_pos lk_X11_41 dX11_cell_13 ?_
    refine lv_iload_n X.x X.b dX11_cell_16 rfl (lv_at hl 1 rfl) ?_
    obtain ⟨b4, hf⟩ := wGi_s hf
    refine aR_10 X h (hS 10) Nat.one_pos Nat.one_pos b4 dX11_cell_17 ?_
    refine lv_iconst (v := (-1)) X.x X.b dX11_cell_18 (by decide) ?_
    refine lv_icmp_ne (tgt := 25) X.x X.b dX11_cell_19 (by decide) (fun c5 => ?_) (fun c5 => ?_)
    · have hf := wF c5 hf
      refine lv_iload_n X.x X.b dX11_cell_25 rfl (lv_at hl 2 rfl) ?_
      refine lv_iconst (v := 0) X.x X.b dX11_cell_26 (by decide) ?_
      refine lv_aload_n X.x X.b dX11_cell_27 rfl (lv_at hl 0 rfl) ?_
      refine gR_0_18 X h (hS 0) Nat.one_pos Nat.one_pos lk_X11_44 dX11_cell_28 ?_
      refine lv_iload_n X.x X.b dX11_cell_31 rfl (lv_at hl 1 rfl) ?_
      obtain ⟨b6, hf⟩ := wGi_s hf
      refine aR_11 X h (hS 11) Nat.one_pos Nat.one_pos b6 dX11_cell_32 ?_
      refine lv_iconst (v := 1) X.x X.b dX11_cell_33 (by decide) ?_
      refine lv_isub X.x X.b dX11_cell_34 ?_
      obtain ⟨y8, e7, hf⟩ := wBd_s hf
      refine ro_callsI (As := [.int a2, .int (0 : Int32), .int ((g 11 0 0 (a1).toNatClampNeg) - (1 : Int32))]) (g1 := g) (x := y8) X h (kX11_in l hS e7) mv_X11_in lk_X11_99 ⟨rfl, rfl⟩ ⟨(Nat.le_of_ble_eq_true rfl), (Nat.le_of_ble_eq_true rfl)⟩ rfl hl rfl (Nat.le_of_ble_eq_true rfl) ⟨Nat.zero_le _, Nat.zero_le _⟩ dX11_cell_35 (fun H locs h => ?_)
      refine lv_if_ne (tgt := 44) X.x X.b dX11_cell_38 (by decide) (fun c9 => ?_) (fun c9 => ?_)
      · have hf := wF c9 hf
        refine lv_aload_n X.x X.b dX11_cell_44 rfl (lv_at hl 0 rfl) ?_
        refine gR_0_19 X h (hS 0) Nat.one_pos Nat.one_pos lk_X11_47 dX11_cell_45 ?_
        refine lv_bipush (v := 40) X.x X.b dX11_cell_48 (by decide) ?_
        refine lv_iload_n X.x X.b dX11_cell_50 rfl (lv_at hl 1 rfl) ?_
        refine lv_imul X.x X.b dX11_cell_51 ?_
        refine lv_iload_n X.x X.b dX11_cell_52 rfl (lv_at hl 2 rfl) ?_
        refine lv_iadd X.x X.b dX11_cell_53 ?_
        refine lv_aload_n X.x X.b dX11_cell_54 rfl (lv_at hl 0 rfl) ?_
        refine gR_0_17 X h (hS 0) Nat.one_pos Nat.one_pos lk_X11_41 dX11_cell_55 ?_
        refine lv_iload_n X.x X.b dX11_cell_58 rfl (lv_at hl 1 rfl) ?_
        obtain ⟨b10, hf⟩ := wGi_s hf
        refine aR_10 X h (hS 10) Nat.one_pos Nat.one_pos b10 dX11_cell_59 ?_
        refine lv_if_ne (tgt := 68) X.x X.b dX11_cell_60 (by decide) (fun c11 => ?_) (fun c11 => ?_)
        · have hf := wF c11 hf
          refine lv_aload_n X.x X.b dX11_cell_68 rfl (lv_at hl 0 rfl) ?_
          refine gR_0_17 X h (hS 0) Nat.one_pos Nat.one_pos lk_X11_41 dX11_cell_69 ?_
          refine lv_iload_n X.x X.b dX11_cell_72 rfl (lv_at hl 1 rfl) ?_
          obtain ⟨b12, hf⟩ := wGi_s hf
          refine aR_10 X h (hS 10) Nat.one_pos Nat.one_pos b12 dX11_cell_73 ?_
          refine lv_iconst (v := 1) X.x X.b dX11_cell_74 (by decide) ?_
          refine lv_icmp_ne (tgt := 83) X.x X.b dX11_cell_75 (by decide) (fun c13 => ?_) (fun c13 => ?_)
          · have hf := wF c13 hf
            refine lv_iload_n X.x X.b dX11_cell_83 rfl (lv_at hl 3 rfl) ?_
            obtain ⟨b14, hf⟩ := wGi_s hf
            obtain ⟨g15, e16, hf⟩ := wLe_s hf
            refine bR_12 X h (hS 12) Nat.one_pos Nat.one_pos e16 b14 dX11_cell_84 (fun H locs h => ?_)
            refine lv_iconst (v := 1) X.x X.b dX11_cell_85 (by decide) ?_
            cases (Option.some.inj hf).trans JR
            exact ro_iret X h dX11_cell_86
          · have hf := wT c13 hf
            refine lv_iload_n X.x X.b dX11_cell_78 rfl (lv_at hl 3 rfl) ?_
            refine lv_i2s X.x X.b dX11_cell_79 rfl ?_
            refine lv_goto (tgt := 84) X.x X.b dX11_cell_80 (by decide) ?_
            obtain ⟨b17, hf⟩ := wGi_s hf
            obtain ⟨g18, e19, hf⟩ := wLe_s hf
            refine bR_12 X h (hS 12) Nat.one_pos Nat.one_pos e19 b17 dX11_cell_84 (fun H locs h => ?_)
            refine lv_iconst (v := 1) X.x X.b dX11_cell_85 (by decide) ?_
            cases (Option.some.inj hf).trans JR
            exact ro_iret X h dX11_cell_86
        · have hf := wT c11 hf
          refine lv_iload_n X.x X.b dX11_cell_63 rfl (lv_at hl 3 rfl) ?_
          refine lv_i2b X.x X.b dX11_cell_64 rfl ?_
          refine lv_goto (tgt := 84) X.x X.b dX11_cell_65 (by decide) ?_
          obtain ⟨b20, hf⟩ := wGi_s hf
          obtain ⟨g21, e22, hf⟩ := wLe_s hf
          refine bR_12 X h (hS 12) Nat.one_pos Nat.one_pos e22 b20 dX11_cell_84 (fun H locs h => ?_)
          refine lv_iconst (v := 1) X.x X.b dX11_cell_85 (by decide) ?_
          cases (Option.some.inj hf).trans JR
          exact ro_iret X h dX11_cell_86
      · have hf := wT c9 hf
        refine lv_bipush (v := (-12)) X.x X.b dX11_cell_41 (by decide) ?_
        cases (Option.some.inj hf).trans JR
        exact ro_iret X h dX11_cell_43
    · have hf := wT c5 hf
      refine lv_bipush (v := (-11)) X.x X.b dX11_cell_22 (by decide) ?_
      cases (Option.some.inj hf).trans JR
      exact ro_iret X h dX11_cell_24
  · have hf := wT c3 hf
    refine lv_bipush (v := (-2)) X.x X.b dX11_cell_9 (by decide) ?_
    cases (Option.some.inj hf).trans JR
    exact ro_iret X h dX11_cell_11
set_option maxHeartbeats 4000000 in
set_option maxRecDepth 20000 in
theorem wX11_copy_b173 {k : En} {S : Nat → Prop} (hS : ∀ t, S t) {a1 : Int32} {a2 : Int32} {a3 : Int32} {a4 : Int32} {a5 : Int32} {res : Mm × Int32} (X : Cx YR S k p s m args meth c cX11_copy 10 (some .int) RX11) {g : Mm} {x6 : Int32} {x7 : Int32} {x8 : Int32} {z0 : Int32} {H : Heap} {locs : List Loc} {ls : Array Slot} (h : Hx YR S k s g H locs) (hl : lv_has ls 10 [(0, .ref (k.1 + adR 0 0 0)), (5, .int a5), (6, .int x6), (7, .int x7), (8, .int x8)]) {r : (Mm × Int32) ⊕ (Mm × Int32)} (hf : fX11_copy_b173 g a1 a2 a3 a4 a5 x6 x7 x8 z0 = some r) (J1 : ∀ (g : Mm) (x8 : Int32), r = .inl (g, x8) → ∀ (H : Heap) (locs : List Loc) (ls : Array Slot), Hx YR S k s g H locs → lv_has ls 10 [(0, .ref (k.1 + adR 0 0 0)), (5, .int a5), (6, .int x6), (7, .int x7), (8, .int x8)] → W p l e (RmN 1 22) s m args below meth c H locs 0 0 (Fin YR S k args s below (some (.int res.2)) res.1) (F0 m 147 ls [])) (JR : ∀ t1, r = .inr t1 → t1 = res) :
    W p l e (RmN 1 22) s m args below meth c H locs 0 0 (Fin YR S k args s below (some (.int res.2)) res.1) (F0 m 173 ls [.int z0]) := by
  unfold fX11_copy_b173 at hf
  refine lv_istore (lv' := [(9, .int z0), (0, .ref (k.1 + adR 0 0 0)), (5, .int a5), (6, .int x6), (7, .int x7), (8, .int x8)]) X.x X.b dX11_copy_173 hl (by decide) rfl (fun ls hl => ?_)
  refine lv_aload_n X.x X.b dX11_copy_175 rfl (lv_at hl 1 rfl) ?_
  refine gR_0_19 X h (hS 0) Nat.one_pos Nat.one_pos lk_X11_47 dX11_copy_176 ?_
  refine lv_iload X.x X.b dX11_copy_179 (lv_at hl 4 rfl) ?_
  refine lv_iload X.x X.b dX11_copy_181 (lv_at hl 0 rfl) ?_
  refine lv_iadd X.x X.b dX11_copy_183 ?_
  refine lv_aload_n X.x X.b dX11_copy_184 rfl (lv_at hl 1 rfl) ?_
  refine gR_0_19 X h (hS 0) Nat.one_pos Nat.one_pos lk_X11_47 dX11_copy_185 ?_
  refine lv_iload X.x X.b dX11_copy_188 (lv_at hl 3 rfl) ?_
  refine lv_iload X.x X.b dX11_copy_190 (lv_at hl 0 rfl) ?_
  refine lv_iadd X.x X.b dX11_copy_192 ?_
  obtain ⟨b35, hf⟩ := wGi_s hf
  refine aR_12 X h (hS 12) Nat.one_pos Nat.one_pos b35 dX11_copy_193 ?_
  obtain ⟨b36, hf⟩ := wGi_s hf
  obtain ⟨g37, e38, hf⟩ := wLe_s hf
  refine bR_12 X h (hS 12) Nat.one_pos Nat.one_pos e38 b36 dX11_copy_194 (fun H locs h => ?_)
  obtain ⟨y39, e40, hf⟩ := wLe_s hf
  refine lv_iinc (v := y39) (lv' := [(8, .int y39), (9, .int z0), (0, .ref (k.1 + adR 0 0 0)), (5, .int a5), (6, .int x6), (7, .int x7)]) X.x X.b dX11_copy_195 hl (k := 5) rfl (by rw [e40]; rfl) (by decide) rfl (fun ls hl => ?_)
  refine lv_goto (tgt := 147) X.x X.b dX11_copy_198 (by decide) ?_
  exact J1 _ _ (Option.some.inj hf).symm _ _ _ h (lv_sub hl [2, 3, 4, 5, 0] rfl)
set_option maxHeartbeats 4000000 in
set_option maxRecDepth 20000 in
theorem wX11_copy_L147 {k : En} {S : Nat → Prop} (hS : ∀ t, S t) {a1 : Int32} {a2 : Int32} {a3 : Int32} {a4 : Int32} {a5 : Int32} {res : Mm × Int32} (X : Cx YR S k p s m args meth c cX11_copy 10 (some .int) RX11) {x6 : Int32} {x7 : Int32} {r : Mm × Int32} (JR : r = res) :
    ∀ (fu : Nat) (g : Mm) (x8 : Int32) (H : Heap) (locs : List Loc) (ls : Array Slot), Hx YR S k s g H locs → lv_has ls 10 [(0, .ref (k.1 + adR 0 0 0)), (5, .int a5), (6, .int x6), (7, .int x7), (8, .int x8)] → wLp (fun q => fX11_copy_B147 q.1 a1 a2 a3 a4 a5 x6 x7 q.2) fu (g, x8) = some r → W p l e (RmN 1 22) s m args below meth c H locs 0 0 (Fin YR S k args s below (some (.int res.2)) res.1) (F0 m 147 ls []) := by
  intro fu
  induction fu with
  | zero => intro g x8 H locs ls h hl hf; exact (wLp_0 hf).elim
  | succ fu ih1 =>
    intro g x8 H locs ls h hl hf
    obtain ⟨r1, hf, hr⟩ := wLp_s hf
    have J1n : ∀ (g : Mm) (x8 : Int32), r1 = .inl (g, x8) → ∀ (H : Heap) (locs : List Loc) (ls : Array Slot), Hx YR S k s g H locs → lv_has ls 10 [(0, .ref (k.1 + adR 0 0 0)), (5, .int a5), (6, .int x6), (7, .int x7), (8, .int x8)] → W p l e (RmN 1 22) s m args below meth c H locs 0 0 (Fin YR S k args s below (some (.int res.2)) res.1) (F0 m 147 ls []) := fun g x8 q H locs ls h hl => by subst q; exact ih1 _ _ _ _ _ h hl hr
    have JRn : ∀ t1, r1 = .inr t1 → t1 = res := fun t1 q => by subst q; obtain rfl := Option.some.inj hr; exact JR
    have J1 := J1n
    have JR := JRn
    clear J1n JRn
    have hf : fX11_copy_B147 g a1 a2 a3 a4 a5 x6 x7 x8 = some r1 := hf
    unfold fX11_copy_B147 at hf
    refine lv_iload X.x X.b dX11_copy_147 (lv_at hl 4 rfl) ?_
    refine lv_iload X.x X.b dX11_copy_149 (lv_at hl 1 rfl) ?_
    refine lv_icmp_ge (tgt := 201) X.x X.b dX11_copy_151 (by decide) (fun c31 => ?_) (fun c31 => ?_)
    · have hf := wT c31 hf
      obtain ⟨t32, hf, e33⟩ := wEx_s hf
      have JR := JR t32 e33
      refine lv_iload X.x X.b dX11_copy_201 (lv_at hl 1 rfl) ?_
      cases (Option.some.inj hf).trans JR
      exact ro_iret X h dX11_copy_203
    · have hf := wF c31 hf
      refine lv_iload X.x X.b dX11_copy_154 (lv_at hl 2 rfl) ?_
      refine lv_iload X.x X.b dX11_copy_156 (lv_at hl 3 rfl) ?_
      refine lv_icmp_ge (tgt := 171) X.x X.b dX11_copy_158 (by decide) (fun c34 => ?_) (fun c34 => ?_)
      · have hf := wT c34 hf
        refine lv_iload X.x X.b dX11_copy_171 (lv_at hl 4 rfl) ?_
        exact wX11_copy_b173 hS X h (lv_sub hl [0, 1, 2, 3, 4] rfl) hf J1 JR
      · have hf := wF c34 hf
        refine lv_iload X.x X.b dX11_copy_161 (lv_at hl 1 rfl) ?_
        refine lv_iconst (v := 1) X.x X.b dX11_copy_163 (by decide) ?_
        refine lv_isub X.x X.b dX11_copy_164 ?_
        refine lv_iload X.x X.b dX11_copy_165 (lv_at hl 4 rfl) ?_
        refine lv_isub X.x X.b dX11_copy_167 ?_
        refine lv_goto (tgt := 173) X.x X.b dX11_copy_168 (by decide) ?_
        exact wX11_copy_b173 hS X h (lv_sub hl [0, 1, 2, 3, 4] rfl) hf J1 JR
set_option maxHeartbeats 4000000 in
set_option maxRecDepth 20000 in
theorem kX11_copy (l : Launch) {k : En} {S : Nat → Prop} (hS : ∀ t, S t) {a1 : Int32} {a2 : Int32} {a3 : Int32} {a4 : Int32} {a5 : Int32} {res : Mm × Int32} {g : Mm} (hf : fX11_copy g a1 a2 a3 a4 a5 = some res) : Mt l yX11_copy cX11_copy 10 (some .int) (RmN 1 22) YR S k [.ref (k.1 + adR 0 0 0), .int a1, .int a2, .int a3, .int a4, .int a5] g (some (.int res.2)) res.1 := by
  refine Mt.of (by decide) (Nat.le_of_ble_eq_true rfl) ?_
  intro p e s m args below meth c ls X _ h hl
  have X : Cx YR S k p s m args meth c cX11_copy 10 (some .int) RX11 := X
  have hl : lv_has ls 10 [(0, .ref (k.1 + adR 0 0 0)), (1, .int a1), (2, .int a2), (3, .int a3), (4, .int a4), (5, .int a5)] := hl
  have JR : res = res := rfl
  unfold fX11_copy at hf
  refine lv_iload_n X.x X.b dX11_copy_0 rfl (lv_at hl 1 rfl) ?_
  refine lv_iconst (v := 0) X.x X.b dX11_copy_1 (by decide) ?_
  refine lv_iconst (v := 3) X.x X.b dX11_copy_2 (by decide) ?_
  obtain ⟨y2, e1, hf⟩ := wBd_s hf
  refine ro_callsI (As := [.int a1, .int (0 : Int32), .int (3 : Int32)]) (g1 := g) (x := y2) X h (kX11_in l hS e1) mv_X11_in lk_X11_99 ⟨rfl, rfl⟩ ⟨(Nat.le_of_ble_eq_true rfl), (Nat.le_of_ble_eq_true rfl)⟩ rfl hl rfl (Nat.le_of_ble_eq_true rfl) ⟨Nat.zero_le _, Nat.zero_le _⟩ dX11_copy_3 (fun H locs h => ?_)
  refine lv_if_eq (tgt := 18) X.x X.b dX11_copy_6 (by decide) (fun c3 => ?_) (fun c3 => ?_)
  · have hf := wT c3 hf
    refine lv_bipush (v := (-2)) X.x X.b dX11_copy_18 (by decide) ?_
    cases (Option.some.inj hf).trans JR
    exact ro_iret X h dX11_copy_20
  · have hf := wF c3 hf
    refine lv_iload_n X.x X.b dX11_copy_9 rfl (lv_at hl 3 rfl) ?_
    refine lv_iconst (v := 0) X.x X.b dX11_copy_10 (by decide) ?_
    refine lv_iconst (v := 3) X.x X.b dX11_copy_11 (by decide) ?_
    obtain ⟨y5, e4, hf⟩ := wBd_s hf
    refine ro_callsI (As := [.int a3, .int (0 : Int32), .int (3 : Int32)]) (g1 := g) (x := y5) X h (kX11_in l hS e4) mv_X11_in lk_X11_99 ⟨rfl, rfl⟩ ⟨(Nat.le_of_ble_eq_true rfl), (Nat.le_of_ble_eq_true rfl)⟩ rfl hl rfl (Nat.le_of_ble_eq_true rfl) ⟨Nat.zero_le _, Nat.zero_le _⟩ dX11_copy_12 (fun H locs h => ?_)
    refine lv_if_ne (tgt := 21) X.x X.b dX11_copy_15 (by decide) (fun c6 => ?_) (fun c6 => ?_)
    · have hf := wF c6 hf
      refine lv_aload_n X.x X.b dX11_copy_21 rfl (lv_at hl 0 rfl) ?_
      refine gR_0_17 X h (hS 0) Nat.one_pos Nat.one_pos lk_X11_41 dX11_copy_22 ?_
      refine lv_iload_n X.x X.b dX11_copy_25 rfl (lv_at hl 1 rfl) ?_
      obtain ⟨b7, hf⟩ := wGi_s hf
      refine aR_10 X h (hS 10) Nat.one_pos Nat.one_pos b7 dX11_copy_26 ?_
      refine lv_iconst (v := (-1)) X.x X.b dX11_copy_27 (by decide) ?_
      refine lv_icmp_eq (tgt := 41) X.x X.b dX11_copy_28 (by decide) (fun c8 => ?_) (fun c8 => ?_)
      · have hf := wT c8 hf
        refine lv_bipush (v := (-11)) X.x X.b dX11_copy_41 (by decide) ?_
        cases (Option.some.inj hf).trans JR
        exact ro_iret X h dX11_copy_43
      · have hf := wF c8 hf
        refine lv_aload_n X.x X.b dX11_copy_31 rfl (lv_at hl 0 rfl) ?_
        refine gR_0_17 X h (hS 0) Nat.one_pos Nat.one_pos lk_X11_41 dX11_copy_32 ?_
        refine lv_iload_n X.x X.b dX11_copy_35 rfl (lv_at hl 3 rfl) ?_
        obtain ⟨b9, hf⟩ := wGi_s hf
        refine aR_10 X h (hS 10) Nat.one_pos Nat.one_pos b9 dX11_copy_36 ?_
        refine lv_iconst (v := (-1)) X.x X.b dX11_copy_37 (by decide) ?_
        refine lv_icmp_ne (tgt := 44) X.x X.b dX11_copy_38 (by decide) (fun c10 => ?_) (fun c10 => ?_)
        · have hf := wF c10 hf
          refine lv_aload_n X.x X.b dX11_copy_44 rfl (lv_at hl 0 rfl) ?_
          refine gR_0_17 X h (hS 0) Nat.one_pos Nat.one_pos lk_X11_41 dX11_copy_45 ?_
          refine lv_iload_n X.x X.b dX11_copy_48 rfl (lv_at hl 1 rfl) ?_
          obtain ⟨b11, hf⟩ := wGi_s hf
          refine aR_10 X h (hS 10) Nat.one_pos Nat.one_pos b11 dX11_copy_49 ?_
          refine lv_aload_n X.x X.b dX11_copy_50 rfl (lv_at hl 0 rfl) ?_
          refine gR_0_17 X h (hS 0) Nat.one_pos Nat.one_pos lk_X11_41 dX11_copy_51 ?_
          refine lv_iload_n X.x X.b dX11_copy_54 rfl (lv_at hl 3 rfl) ?_
          obtain ⟨b12, hf⟩ := wGi_s hf
          refine aR_10 X h (hS 10) Nat.one_pos Nat.one_pos b12 dX11_copy_55 ?_
          refine lv_icmp_eq (tgt := 62) X.x X.b dX11_copy_56 (by decide) (fun c13 => ?_) (fun c13 => ?_)
          · have hf := wT c13 hf
            refine lv_iload X.x X.b dX11_copy_62 (lv_at hl 5 rfl) ?_
            refine lv_if_lt (tgt := 124) X.x X.b dX11_copy_64 (by decide) (fun c14 => ?_) (fun c14 => ?_)
            · have hf := wT c14 hf
              refine lv_bipush (v := (-12)) X.x X.b dX11_copy_124 (by decide) ?_
              cases (Option.some.inj hf).trans JR
              exact ro_iret X h dX11_copy_126
            · have hf := wF c14 hf
              refine lv_iload_n X.x X.b dX11_copy_67 rfl (lv_at hl 2 rfl) ?_
              refine lv_if_lt (tgt := 124) X.x X.b dX11_copy_68 (by decide) (fun c15 => ?_) (fun c15 => ?_)
              · have hf := wT c15 hf
                refine lv_bipush (v := (-12)) X.x X.b dX11_copy_124 (by decide) ?_
                cases (Option.some.inj hf).trans JR
                exact ro_iret X h dX11_copy_126
              · have hf := wF c15 hf
                refine lv_iload X.x X.b dX11_copy_71 (lv_at hl 4 rfl) ?_
                refine lv_if_lt (tgt := 124) X.x X.b dX11_copy_73 (by decide) (fun c16 => ?_) (fun c16 => ?_)
                · have hf := wT c16 hf
                  refine lv_bipush (v := (-12)) X.x X.b dX11_copy_124 (by decide) ?_
                  cases (Option.some.inj hf).trans JR
                  exact ro_iret X h dX11_copy_126
                · have hf := wF c16 hf
                  refine lv_iload_n X.x X.b dX11_copy_76 rfl (lv_at hl 2 rfl) ?_
                  refine lv_aload_n X.x X.b dX11_copy_77 rfl (lv_at hl 0 rfl) ?_
                  refine gR_0_18 X h (hS 0) Nat.one_pos Nat.one_pos lk_X11_44 dX11_copy_78 ?_
                  refine lv_iload_n X.x X.b dX11_copy_81 rfl (lv_at hl 1 rfl) ?_
                  obtain ⟨b17, hf⟩ := wGi_s hf
                  refine aR_11 X h (hS 11) Nat.one_pos Nat.one_pos b17 dX11_copy_82 ?_
                  refine lv_icmp_gt (tgt := 124) X.x X.b dX11_copy_83 (by decide) (fun c18 => ?_) (fun c18 => ?_)
                  · have hf := wT c18 hf
                    refine lv_bipush (v := (-12)) X.x X.b dX11_copy_124 (by decide) ?_
                    cases (Option.some.inj hf).trans JR
                    exact ro_iret X h dX11_copy_126
                  · have hf := wF c18 hf
                    refine lv_iload X.x X.b dX11_copy_86 (lv_at hl 4 rfl) ?_
                    refine lv_aload_n X.x X.b dX11_copy_88 rfl (lv_at hl 0 rfl) ?_
                    refine gR_0_18 X h (hS 0) Nat.one_pos Nat.one_pos lk_X11_44 dX11_copy_89 ?_
                    refine lv_iload_n X.x X.b dX11_copy_92 rfl (lv_at hl 3 rfl) ?_
                    obtain ⟨b19, hf⟩ := wGi_s hf
                    refine aR_11 X h (hS 11) Nat.one_pos Nat.one_pos b19 dX11_copy_93 ?_
                    refine lv_icmp_gt (tgt := 124) X.x X.b dX11_copy_94 (by decide) (fun c20 => ?_) (fun c20 => ?_)
                    · have hf := wT c20 hf
                      refine lv_bipush (v := (-12)) X.x X.b dX11_copy_124 (by decide) ?_
                      cases (Option.some.inj hf).trans JR
                      exact ro_iret X h dX11_copy_126
                    · have hf := wF c20 hf
                      refine lv_iload X.x X.b dX11_copy_97 (lv_at hl 5 rfl) ?_
                      refine lv_aload_n X.x X.b dX11_copy_99 rfl (lv_at hl 0 rfl) ?_
                      refine gR_0_18 X h (hS 0) Nat.one_pos Nat.one_pos lk_X11_44 dX11_copy_100 ?_
                      refine lv_iload_n X.x X.b dX11_copy_103 rfl (lv_at hl 1 rfl) ?_
                      obtain ⟨b21, hf⟩ := wGi_s hf
                      refine aR_11 X h (hS 11) Nat.one_pos Nat.one_pos b21 dX11_copy_104 ?_
                      refine lv_iload_n X.x X.b dX11_copy_105 rfl (lv_at hl 2 rfl) ?_
                      refine lv_isub X.x X.b dX11_copy_106 ?_
                      refine lv_icmp_gt (tgt := 124) X.x X.b dX11_copy_107 (by decide) (fun c22 => ?_) (fun c22 => ?_)
                      · have hf := wT c22 hf
                        refine lv_bipush (v := (-12)) X.x X.b dX11_copy_124 (by decide) ?_
                        cases (Option.some.inj hf).trans JR
                        exact ro_iret X h dX11_copy_126
                      · have hf := wF c22 hf
                        refine lv_iload X.x X.b dX11_copy_110 (lv_at hl 5 rfl) ?_
                        refine lv_aload_n X.x X.b dX11_copy_112 rfl (lv_at hl 0 rfl) ?_
                        refine gR_0_18 X h (hS 0) Nat.one_pos Nat.one_pos lk_X11_44 dX11_copy_113 ?_
                        refine lv_iload_n X.x X.b dX11_copy_116 rfl (lv_at hl 3 rfl) ?_
                        obtain ⟨b23, hf⟩ := wGi_s hf
                        refine aR_11 X h (hS 11) Nat.one_pos Nat.one_pos b23 dX11_copy_117 ?_
                        refine lv_iload X.x X.b dX11_copy_118 (lv_at hl 4 rfl) ?_
                        refine lv_isub X.x X.b dX11_copy_120 ?_
                        refine lv_icmp_le (tgt := 127) X.x X.b dX11_copy_121 (by decide) (fun c24 => ?_) (fun c24 => ?_)
                        · have hf := wT c24 hf
                          refine lv_bipush (v := 40) X.x X.b dX11_copy_127 (by decide) ?_
                          refine lv_iload_n X.x X.b dX11_copy_129 rfl (lv_at hl 1 rfl) ?_
                          refine lv_imul X.x X.b dX11_copy_130 ?_
                          refine lv_iload_n X.x X.b dX11_copy_131 rfl (lv_at hl 2 rfl) ?_
                          refine lv_iadd X.x X.b dX11_copy_132 ?_
                          obtain ⟨y25, e26, hf⟩ := wLe_s hf
                          refine lv_nmi e26 ?_
                          refine lv_istore (lv' := [(6, .int y25), (0, .ref (k.1 + adR 0 0 0)), (1, .int a1), (2, .int a2), (3, .int a3), (4, .int a4), (5, .int a5)]) X.x X.b dX11_copy_133 hl (by decide) rfl (fun ls hl => ?_)
                          refine lv_bipush (v := 40) X.x X.b dX11_copy_135 (by decide) ?_
                          refine lv_iload_n X.x X.b dX11_copy_137 rfl (lv_at hl 4 rfl) ?_
                          refine lv_imul X.x X.b dX11_copy_138 ?_
                          refine lv_iload X.x X.b dX11_copy_139 (lv_at hl 5 rfl) ?_
                          refine lv_iadd X.x X.b dX11_copy_141 ?_
                          obtain ⟨y27, e28, hf⟩ := wLe_s hf
                          refine lv_nmi e28 ?_
                          refine lv_istore (lv' := [(7, .int y27), (6, .int y25), (0, .ref (k.1 + adR 0 0 0)), (1, .int a1), (2, .int a2), (3, .int a3), (4, .int a4), (5, .int a5)]) X.x X.b dX11_copy_142 hl (by decide) rfl (fun ls hl => ?_)
                          refine lv_iconst (v := 0) X.x X.b dX11_copy_144 (by decide) ?_
                          obtain ⟨y29, e30, hf⟩ := wLe_s hf
                          refine lv_nmi e30 ?_
                          refine lv_istore (lv' := [(8, .int y29), (7, .int y27), (6, .int y25), (0, .ref (k.1 + adR 0 0 0)), (1, .int a1), (2, .int a2), (3, .int a3), (4, .int a4), (5, .int a5)]) X.x X.b dX11_copy_145 hl (by decide) rfl (fun ls hl => ?_)
                          exact wX11_copy_L147 hS X JR _ _ _ _ _ _ h (lv_sub hl [3, 8, 2, 1, 0] rfl) hf
                        · have hf := wF c24 hf
                          refine lv_bipush (v := (-12)) X.x X.b dX11_copy_124 (by decide) ?_
                          cases (Option.some.inj hf).trans JR
                          exact ro_iret X h dX11_copy_126
          · have hf := wF c13 hf
            refine lv_bipush (v := (-13)) X.x X.b dX11_copy_59 (by decide) ?_
            cases (Option.some.inj hf).trans JR
            exact ro_iret X h dX11_copy_61
        · have hf := wT c10 hf
          refine lv_bipush (v := (-11)) X.x X.b dX11_copy_41 (by decide) ?_
          cases (Option.some.inj hf).trans JR
          exact ro_iret X h dX11_copy_43
    · have hf := wT c6 hf
      refine lv_bipush (v := (-2)) X.x X.b dX11_copy_18 (by decide) ?_
      cases (Option.some.inj hf).trans JR
      exact ro_iret X h dX11_copy_20
set_option maxHeartbeats 4000000 in
set_option maxRecDepth 20000 in
theorem wX11_visits_b162 {k : En} {S : Nat → Prop} (hS : ∀ t, S t) {a1 : Int32} {a2 : Int32} {a3 : Int32} {a4 : Int32} {res : Mm × Int32} (X : Cx YR S k p s m args meth c cX11_visits 9 (some .int) RX11) {g : Mm} {x6 : Int32} {z0 : Int32} {z1 : Int32} {H : Heap} {locs : List Loc} {ls : Array Slot} (h : Hx YR S k s g H locs) (hl : lv_has ls 9 [(0, .ref (k.1 + adR 0 0 0)), (1, .int a1), (3, .int a3), (4, .int a4), (6, .int x6)]) {r : (Mm × Int32 × Int32) ⊕ (Mm × Int32)} (hf : fX11_visits_b162 g a1 a2 a3 a4 x6 z0 z1 = some r) (J1 : ∀ (g : Mm) (x5 : Int32) (x6 : Int32), r = .inl (g, x5, x6) → ∀ (H : Heap) (locs : List Loc) (ls : Array Slot), Hx YR S k s g H locs → lv_has ls 9 [(0, .ref (k.1 + adR 0 0 0)), (1, .int a1), (3, .int a3), (4, .int a4), (5, .int x5), (6, .int x6)] → W p l e (RmN 2 48) s m args below meth c H locs 0 0 (Fin YR S k args s below (some (.int res.2)) res.1) (F0 m 64 ls [])) (JR : ∀ t1, r = .inr t1 → t1 = res) :
    W p l e (RmN 2 48) s m args below meth c H locs 0 0 (Fin YR S k args s below (some (.int res.2)) res.1) (F0 m 162 ls [.int z1, .int z0]) := by
  unfold fX11_visits_b162 at hf
  refine lv_iadd X.x X.b dX11_visits_162 ?_
  obtain ⟨y41, e42, hf⟩ := wLe_s hf
  refine lv_nmi e42 ?_
  refine lv_istore (lv' := [(5, .int y41), (0, .ref (k.1 + adR 0 0 0)), (1, .int a1), (3, .int a3), (4, .int a4), (6, .int x6)]) X.x X.b dX11_visits_163 hl (by decide) rfl (fun ls hl => ?_)
  obtain ⟨y43, e44, hf⟩ := wLe_s hf
  refine lv_iinc (v := y43) (lv' := [(6, .int y43), (5, .int y41), (0, .ref (k.1 + adR 0 0 0)), (1, .int a1), (3, .int a3), (4, .int a4)]) X.x X.b dX11_visits_165 hl (k := 5) rfl (by rw [e44]; rfl) (by decide) rfl (fun ls hl => ?_)
  refine lv_goto (tgt := 64) X.x X.b dX11_visits_168 (by decide) ?_
  exact J1 _ _ _ (Option.some.inj hf).symm _ _ _ h (lv_sub hl [2, 3, 4, 5, 1, 0] rfl)
set_option maxHeartbeats 4000000 in
set_option maxRecDepth 20000 in
theorem wX11_visits_L64 {k : En} {S : Nat → Prop} (hS : ∀ t, S t) {a1 : Int32} {a2 : Int32} {a3 : Int32} {a4 : Int32} {res : Mm × Int32} (X : Cx YR S k p s m args meth c cX11_visits 9 (some .int) RX11) {r : Mm × Int32} (JR : r = res) :
    ∀ (fu : Nat) (g : Mm) (x5 : Int32) (x6 : Int32) (H : Heap) (locs : List Loc) (ls : Array Slot), Hx YR S k s g H locs → lv_has ls 9 [(0, .ref (k.1 + adR 0 0 0)), (1, .int a1), (3, .int a3), (4, .int a4), (5, .int x5), (6, .int x6)] → wLp (fun q => fX11_visits_B64 q.1 a1 a2 a3 a4 q.2.1 q.2.2) fu (g, x5, x6) = some r → W p l e (RmN 2 48) s m args below meth c H locs 0 0 (Fin YR S k args s below (some (.int res.2)) res.1) (F0 m 64 ls []) := by
  intro fu
  induction fu with
  | zero => intro g x5 x6 H locs ls h hl hf; exact (wLp_0 hf).elim
  | succ fu ih1 =>
    intro g x5 x6 H locs ls h hl hf
    obtain ⟨r1, hf, hr⟩ := wLp_s hf
    have J1n : ∀ (g : Mm) (x5 : Int32) (x6 : Int32), r1 = .inl (g, x5, x6) → ∀ (H : Heap) (locs : List Loc) (ls : Array Slot), Hx YR S k s g H locs → lv_has ls 9 [(0, .ref (k.1 + adR 0 0 0)), (1, .int a1), (3, .int a3), (4, .int a4), (5, .int x5), (6, .int x6)] → W p l e (RmN 2 48) s m args below meth c H locs 0 0 (Fin YR S k args s below (some (.int res.2)) res.1) (F0 m 64 ls []) := fun g x5 x6 q H locs ls h hl => by subst q; exact ih1 _ _ _ _ _ _ h hl hr
    have JRn : ∀ t1, r1 = .inr t1 → t1 = res := fun t1 q => by subst q; obtain rfl := Option.some.inj hr; exact JR
    have J1 := J1n
    have JR := JRn
    clear J1n JRn
    have hf : fX11_visits_B64 g a1 a2 a3 a4 x5 x6 = some r1 := hf
    unfold fX11_visits_B64 at hf
    refine lv_iload X.x X.b dX11_visits_64 (lv_at hl 5 rfl) ?_
    refine lv_iload X.x X.b dX11_visits_66 (lv_at hl 3 rfl) ?_
    refine lv_icmp_ge (tgt := 171) X.x X.b dX11_visits_68 (by decide) (fun c18 => ?_) (fun c18 => ?_)
    · have hf := wT c18 hf
      obtain ⟨t19, hf, e20⟩ := wEx_s hf
      have JR := JR t19 e20
      refine lv_iload X.x X.b dX11_visits_171 (lv_at hl 4 rfl) ?_
      cases (Option.some.inj hf).trans JR
      exact ro_iret X h dX11_visits_173
    · have hf := wF c18 hf
      refine lv_iload_n X.x X.b dX11_visits_71 rfl (lv_at hl 2 rfl) ?_
      refine lv_iconst (v := 4) X.x X.b dX11_visits_72 (by decide) ?_
      refine lv_iload X.x X.b dX11_visits_73 (lv_at hl 5 rfl) ?_
      refine lv_imul X.x X.b dX11_visits_75 ?_
      refine lv_iadd X.x X.b dX11_visits_76 ?_
      obtain ⟨y21, e22, hf⟩ := wLe_s hf
      refine lv_nmi e22 ?_
      refine lv_istore (lv' := [(7, .int y21), (0, .ref (k.1 + adR 0 0 0)), (1, .int a1), (3, .int a3), (4, .int a4), (5, .int x5), (6, .int x6)]) X.x X.b dX11_visits_77 hl (by decide) rfl (fun ls hl => ?_)
      refine lv_iload_n X.x X.b dX11_visits_79 rfl (lv_at hl 3 rfl) ?_
      refine lv_if_lt (tgt := 102) X.x X.b dX11_visits_80 (by decide) (fun c23 => ?_) (fun c23 => ?_)
      · have hf := wT c23 hf
        obtain ⟨t24, hf, e25⟩ := wEx_s hf
        have JR := JR t24 e25
        refine lv_bipush (v := (-12)) X.x X.b dX11_visits_102 (by decide) ?_
        cases (Option.some.inj hf).trans JR
        exact ro_iret X h dX11_visits_104
      · have hf := wF c23 hf
        refine lv_iload X.x X.b dX11_visits_83 (lv_at hl 0 rfl) ?_
        refine lv_iload_n X.x X.b dX11_visits_85 rfl (lv_at hl 3 rfl) ?_
        refine lv_icmp_lt (tgt := 102) X.x X.b dX11_visits_86 (by decide) (fun c26 => ?_) (fun c26 => ?_)
        · have hf := wT c26 hf
          obtain ⟨t27, hf, e28⟩ := wEx_s hf
          have JR := JR t27 e28
          refine lv_bipush (v := (-12)) X.x X.b dX11_visits_102 (by decide) ?_
          cases (Option.some.inj hf).trans JR
          exact ro_iret X h dX11_visits_104
        · have hf := wF c26 hf
          refine lv_iload X.x X.b dX11_visits_89 (lv_at hl 0 rfl) ?_
          refine lv_aload_n X.x X.b dX11_visits_91 rfl (lv_at hl 1 rfl) ?_
          refine gR_0_18 X h (hS 0) Nat.one_pos Nat.one_pos lk_X11_44 dX11_visits_92 ?_
          refine lv_iload_n X.x X.b dX11_visits_95 rfl (lv_at hl 2 rfl) ?_
          obtain ⟨b29, hf⟩ := wGi_s hf
          refine aR_11 X h (hS 11) Nat.one_pos Nat.one_pos b29 dX11_visits_96 ?_
          refine lv_iconst (v := 4) X.x X.b dX11_visits_97 (by decide) ?_
          refine lv_isub X.x X.b dX11_visits_98 ?_
          refine lv_icmp_le (tgt := 105) X.x X.b dX11_visits_99 (by decide) (fun c30 => ?_) (fun c30 => ?_)
          · have hf := wT c30 hf
            refine lv_bipush (v := 40) X.x X.b dX11_visits_105 (by decide) ?_
            refine lv_iload_n X.x X.b dX11_visits_107 rfl (lv_at hl 2 rfl) ?_
            refine lv_imul X.x X.b dX11_visits_108 ?_
            refine lv_iload X.x X.b dX11_visits_109 (lv_at hl 0 rfl) ?_
            refine lv_iadd X.x X.b dX11_visits_111 ?_
            obtain ⟨y31, e32, hf⟩ := wLe_s hf
            refine lv_nmi e32 ?_
            refine lv_istore (lv' := [(8, .int y31), (7, .int y21), (0, .ref (k.1 + adR 0 0 0)), (1, .int a1), (3, .int a3), (4, .int a4), (5, .int x5), (6, .int x6)]) X.x X.b dX11_visits_112 hl (by decide) rfl (fun ls hl => ?_)
            refine lv_iload X.x X.b dX11_visits_114 (lv_at hl 6 rfl) ?_
            refine lv_aload_n X.x X.b dX11_visits_116 rfl (lv_at hl 2 rfl) ?_
            refine lv_aload_n X.x X.b dX11_visits_117 rfl (lv_at hl 2 rfl) ?_
            refine gR_0_19 X h (hS 0) Nat.one_pos Nat.one_pos lk_X11_47 dX11_visits_118 ?_
            refine lv_iload X.x X.b dX11_visits_121 (lv_at hl 0 rfl) ?_
            obtain ⟨b33, hf⟩ := wGi_s hf
            refine aR_12 X h (hS 12) Nat.one_pos Nat.one_pos b33 dX11_visits_123 ?_
            refine lv_aload_n X.x X.b dX11_visits_124 rfl (lv_at hl 2 rfl) ?_
            refine gR_0_19 X h (hS 0) Nat.one_pos Nat.one_pos lk_X11_47 dX11_visits_125 ?_
            refine lv_iload X.x X.b dX11_visits_128 (lv_at hl 0 rfl) ?_
            refine lv_iconst (v := 1) X.x X.b dX11_visits_130 (by decide) ?_
            refine lv_iadd X.x X.b dX11_visits_131 ?_
            obtain ⟨b34, hf⟩ := wGi_s hf
            refine aR_12 X h (hS 12) Nat.one_pos Nat.one_pos b34 dX11_visits_132 ?_
            refine lv_aload_n X.x X.b dX11_visits_133 rfl (lv_at hl 2 rfl) ?_
            refine gR_0_19 X h (hS 0) Nat.one_pos Nat.one_pos lk_X11_47 dX11_visits_134 ?_
            refine lv_iload X.x X.b dX11_visits_137 (lv_at hl 0 rfl) ?_
            refine lv_iconst (v := 2) X.x X.b dX11_visits_139 (by decide) ?_
            refine lv_iadd X.x X.b dX11_visits_140 ?_
            obtain ⟨b35, hf⟩ := wGi_s hf
            refine aR_12 X h (hS 12) Nat.one_pos Nat.one_pos b35 dX11_visits_141 ?_
            refine lv_aload_n X.x X.b dX11_visits_142 rfl (lv_at hl 2 rfl) ?_
            refine gR_0_19 X h (hS 0) Nat.one_pos Nat.one_pos lk_X11_47 dX11_visits_143 ?_
            refine lv_iload X.x X.b dX11_visits_146 (lv_at hl 0 rfl) ?_
            refine lv_iconst (v := 3) X.x X.b dX11_visits_148 (by decide) ?_
            refine lv_iadd X.x X.b dX11_visits_149 ?_
            obtain ⟨b36, hf⟩ := wGi_s hf
            refine aR_12 X h (hS 12) Nat.one_pos Nat.one_pos b36 dX11_visits_150 ?_
            obtain ⟨g39, y38, e37, hf⟩ := wB2_s hf
            refine ro_callvI (As := [.int (g 12 0 0 (y31).toNatClampNeg), .int (g 12 0 0 (y31 + (1 : Int32)).toNatClampNeg), .int (g 12 0 0 (y31 + (2 : Int32)).toNatClampNeg), .int (g 12 0 0 (y31 + (3 : Int32)).toNatClampNeg)]) (g1 := g39) (x := y38) X h (kX11_visit l hS e37) mv_X11_visit lk_X11_297 ⟨rfl, rfl⟩ ⟨(Nat.le_of_ble_eq_true rfl), (Nat.le_of_ble_eq_true rfl)⟩ (rR_0 X h (hS 0) Nat.one_pos Nat.one_pos) rfl hl rfl (Nat.le_of_ble_eq_true rfl) ⟨Nat.zero_le _, Nat.zero_le _⟩ dX11_visits_151 (fun H locs h => ?_)
            refine lv_if_lt (tgt := 161) X.x X.b dX11_visits_154 (by decide) (fun c40 => ?_) (fun c40 => ?_)
            · have hf := wT c40 hf
              refine lv_iconst (v := 0) X.x X.b dX11_visits_161 (by decide) ?_
              exact wX11_visits_b162 hS X h (lv_sub hl [2, 3, 4, 5, 7] rfl) hf J1 JR
            · have hf := wF c40 hf
              refine lv_iconst (v := 1) X.x X.b dX11_visits_157 (by decide) ?_
              refine lv_goto (tgt := 162) X.x X.b dX11_visits_158 (by decide) ?_
              exact wX11_visits_b162 hS X h (lv_sub hl [2, 3, 4, 5, 7] rfl) hf J1 JR
          · have hf := wF c30 hf
            obtain ⟨t45, hf, e46⟩ := wEx_s hf
            have JR := JR t45 e46
            refine lv_bipush (v := (-12)) X.x X.b dX11_visits_102 (by decide) ?_
            cases (Option.some.inj hf).trans JR
            exact ro_iret X h dX11_visits_104
set_option maxHeartbeats 4000000 in
set_option maxRecDepth 20000 in
theorem kX11_visits (l : Launch) {k : En} {S : Nat → Prop} (hS : ∀ t, S t) {a1 : Int32} {a2 : Int32} {a3 : Int32} {a4 : Int32} {res : Mm × Int32} {g : Mm} (hf : fX11_visits g a1 a2 a3 a4 = some res) : Mt l yX11_visits cX11_visits 9 (some .int) (RmN 2 48) YR S k [.ref (k.1 + adR 0 0 0), .int a1, .int a2, .int a3, .int a4] g (some (.int res.2)) res.1 := by
  refine Mt.of (by decide) (Nat.le_of_ble_eq_true rfl) ?_
  intro p e s m args below meth c ls X _ h hl
  have X : Cx YR S k p s m args meth c cX11_visits 9 (some .int) RX11 := X
  have hl : lv_has ls 9 [(0, .ref (k.1 + adR 0 0 0)), (1, .int a1), (2, .int a2), (3, .int a3), (4, .int a4)] := hl
  have JR : res = res := rfl
  unfold fX11_visits at hf
  refine lv_iload_n X.x X.b dX11_visits_0 rfl (lv_at hl 1 rfl) ?_
  refine lv_iconst (v := 0) X.x X.b dX11_visits_1 (by decide) ?_
  refine lv_iconst (v := 3) X.x X.b dX11_visits_2 (by decide) ?_
  obtain ⟨y2, e1, hf⟩ := wBd_s hf
  refine ro_callsI (As := [.int a1, .int (0 : Int32), .int (3 : Int32)]) (g1 := g) (x := y2) X h (kX11_in l hS e1) mv_X11_in lk_X11_99 ⟨rfl, rfl⟩ ⟨(Nat.le_of_ble_eq_true rfl), (Nat.le_of_ble_eq_true rfl)⟩ rfl hl rfl (Nat.le_of_ble_eq_true rfl) ⟨Nat.zero_le _, Nat.zero_le _⟩ dX11_visits_3 (fun H locs h => ?_)
  refine lv_if_eq (tgt := 29) X.x X.b dX11_visits_6 (by decide) (fun c3 => ?_) (fun c3 => ?_)
  · have hf := wT c3 hf
    refine lv_bipush (v := (-2)) X.x X.b dX11_visits_29 (by decide) ?_
    cases (Option.some.inj hf).trans JR
    exact ro_iret X h dX11_visits_31
  · have hf := wF c3 hf
    refine lv_iload_n X.x X.b dX11_visits_9 rfl (lv_at hl 2 rfl) ?_
    refine lv_iconst (v := 0) X.x X.b dX11_visits_10 (by decide) ?_
    refine lv_iconst (v := 2) X.x X.b dX11_visits_11 (by decide) ?_
    obtain ⟨y5, e4, hf⟩ := wBd_s hf
    refine ro_callsI (As := [.int a2, .int (0 : Int32), .int (2 : Int32)]) (g1 := g) (x := y5) X h (kX11_in l hS e4) mv_X11_in lk_X11_99 ⟨rfl, rfl⟩ ⟨(Nat.le_of_ble_eq_true rfl), (Nat.le_of_ble_eq_true rfl)⟩ rfl hl rfl (Nat.le_of_ble_eq_true rfl) ⟨Nat.zero_le _, Nat.zero_le _⟩ dX11_visits_12 (fun H locs h => ?_)
    refine lv_if_eq (tgt := 29) X.x X.b dX11_visits_15 (by decide) (fun c6 => ?_) (fun c6 => ?_)
    · have hf := wT c6 hf
      refine lv_bipush (v := (-2)) X.x X.b dX11_visits_29 (by decide) ?_
      cases (Option.some.inj hf).trans JR
      exact ro_iret X h dX11_visits_31
    · have hf := wF c6 hf
      refine lv_iload X.x X.b dX11_visits_18 (lv_at hl 4 rfl) ?_
      refine lv_iconst (v := 0) X.x X.b dX11_visits_20 (by decide) ?_
      refine lv_bipush (v := 10) X.x X.b dX11_visits_21 (by decide) ?_
      obtain ⟨y8, e7, hf⟩ := wBd_s hf
      refine ro_callsI (As := [.int a4, .int (0 : Int32), .int (10 : Int32)]) (g1 := g) (x := y8) X h (kX11_in l hS e7) mv_X11_in lk_X11_99 ⟨rfl, rfl⟩ ⟨(Nat.le_of_ble_eq_true rfl), (Nat.le_of_ble_eq_true rfl)⟩ rfl hl rfl (Nat.le_of_ble_eq_true rfl) ⟨Nat.zero_le _, Nat.zero_le _⟩ dX11_visits_23 (fun H locs h => ?_)
      refine lv_if_ne (tgt := 32) X.x X.b dX11_visits_26 (by decide) (fun c9 => ?_) (fun c9 => ?_)
      · have hf := wF c9 hf
        refine lv_aload_n X.x X.b dX11_visits_32 rfl (lv_at hl 0 rfl) ?_
        refine gR_0_17 X h (hS 0) Nat.one_pos Nat.one_pos lk_X11_41 dX11_visits_33 ?_
        refine lv_iload_n X.x X.b dX11_visits_36 rfl (lv_at hl 1 rfl) ?_
        obtain ⟨b10, hf⟩ := wGi_s hf
        refine aR_10 X h (hS 10) Nat.one_pos Nat.one_pos b10 dX11_visits_37 ?_
        refine lv_iconst (v := (-1)) X.x X.b dX11_visits_38 (by decide) ?_
        refine lv_icmp_ne (tgt := 45) X.x X.b dX11_visits_39 (by decide) (fun c11 => ?_) (fun c11 => ?_)
        · have hf := wF c11 hf
          refine lv_aload_n X.x X.b dX11_visits_45 rfl (lv_at hl 0 rfl) ?_
          refine gR_0_17 X h (hS 0) Nat.one_pos Nat.one_pos lk_X11_41 dX11_visits_46 ?_
          refine lv_iload_n X.x X.b dX11_visits_49 rfl (lv_at hl 1 rfl) ?_
          obtain ⟨b12, hf⟩ := wGi_s hf
          refine aR_10 X h (hS 10) Nat.one_pos Nat.one_pos b12 dX11_visits_50 ?_
          refine lv_iload_n X.x X.b dX11_visits_51 rfl (lv_at hl 2 rfl) ?_
          refine lv_icmp_eq (tgt := 58) X.x X.b dX11_visits_52 (by decide) (fun c13 => ?_) (fun c13 => ?_)
          · have hf := wT c13 hf
            refine lv_iconst (v := 0) X.x X.b dX11_visits_58 (by decide) ?_
            obtain ⟨y14, e15, hf⟩ := wLe_s hf
            refine lv_nmi e15 ?_
            refine lv_istore (lv' := [(5, .int y14), (0, .ref (k.1 + adR 0 0 0)), (1, .int a1), (2, .int a2), (3, .int a3), (4, .int a4)]) X.x X.b dX11_visits_59 hl (by decide) rfl (fun ls hl => ?_)
            refine lv_iconst (v := 0) X.x X.b dX11_visits_61 (by decide) ?_
            obtain ⟨y16, e17, hf⟩ := wLe_s hf
            refine lv_nmi e17 ?_
            refine lv_istore (lv' := [(6, .int y16), (5, .int y14), (0, .ref (k.1 + adR 0 0 0)), (1, .int a1), (2, .int a2), (3, .int a3), (4, .int a4)]) X.x X.b dX11_visits_62 hl (by decide) rfl (fun ls hl => ?_)
            exact wX11_visits_L64 hS X JR _ _ _ _ _ _ _ h (lv_sub hl [2, 3, 5, 6, 1, 0] rfl) hf
          · have hf := wF c13 hf
            refine lv_bipush (v := (-13)) X.x X.b dX11_visits_55 (by decide) ?_
            cases (Option.some.inj hf).trans JR
            exact ro_iret X h dX11_visits_57
        · have hf := wT c11 hf
          refine lv_bipush (v := (-11)) X.x X.b dX11_visits_42 (by decide) ?_
          cases (Option.some.inj hf).trans JR
          exact ro_iret X h dX11_visits_44
      · have hf := wT c9 hf
        refine lv_bipush (v := (-2)) X.x X.b dX11_visits_29 (by decide) ?_
        cases (Option.some.inj hf).trans JR
        exact ro_iret X h dX11_visits_31
set_option maxHeartbeats 4000000 in
set_option maxRecDepth 20000 in
theorem wX11_isUnder_b34 {k : En} {S : Nat → Prop} (hS : ∀ t, S t) {g0 : Mm} {a0 : Int32} {a1 : Int32} {res : Int32} (X : Cx YR S k p s m args meth c cX11_isUnder 2 (some .boolean) RX11) {H : Heap} {locs : List Loc} {ls : Array Slot} (h : Hx YR S k s g0 H locs) (hl : lv_has ls 2 [(0, .int a0), (1, .int a1)]) {r : Int32} (hf : fX11_isUnder_b34 g0 a0 a1 = some r) (JR : r = res) :
    W p l e (RmN 0 0) s m args below meth c H locs 0 0 (Fin YR S k args s below (some (.int res)) g0) (F0 m 34 ls []) := by
  unfold fX11_isUnder_b34 at hf
  refine lv_iload_n X.x X.b dX11_isUnder_34 rfl (lv_at hl 1 rfl) ?_
  refine lv_iconst (v := 3) X.x X.b dX11_isUnder_35 (by decide) ?_
  refine lv_icmp_ne (tgt := 48) X.x X.b dX11_isUnder_36 (by decide) (fun c5 => ?_) (fun c5 => ?_)
  · have hf := wF c5 hf
    refine lv_iconst (v := 0) X.x X.b dX11_isUnder_48 (by decide) ?_
    cases (Option.some.inj hf).trans JR
    exact ro_zret X h (Or.inl rfl) dX11_isUnder_49
  · have hf := wT c5 hf
    refine lv_iload_n X.x X.b dX11_isUnder_39 rfl (lv_at hl 0 rfl) ?_
    refine lv_iconst (v := 5) X.x X.b dX11_isUnder_40 (by decide) ?_
    refine lv_icmp_ne (tgt := 48) X.x X.b dX11_isUnder_41 (by decide) (fun c6 => ?_) (fun c6 => ?_)
    · have hf := wF c6 hf
      refine lv_iconst (v := 0) X.x X.b dX11_isUnder_48 (by decide) ?_
      cases (Option.some.inj hf).trans JR
      exact ro_zret X h (Or.inl rfl) dX11_isUnder_49
    · have hf := wT c6 hf
      refine lv_iconst (v := 1) X.x X.b dX11_isUnder_44 (by decide) ?_
      refine lv_goto (tgt := 49) X.x X.b dX11_isUnder_45 (by decide) ?_
      cases (Option.some.inj hf).trans JR
      exact ro_zret X h (Or.inr rfl) dX11_isUnder_49
set_option maxHeartbeats 4000000 in
set_option maxRecDepth 20000 in
theorem wX11_isUnder_b24 {k : En} {S : Nat → Prop} (hS : ∀ t, S t) {g0 : Mm} {a0 : Int32} {a1 : Int32} {res : Int32} (X : Cx YR S k p s m args meth c cX11_isUnder 2 (some .boolean) RX11) {H : Heap} {locs : List Loc} {ls : Array Slot} (h : Hx YR S k s g0 H locs) (hl : lv_has ls 2 [(0, .int a0), (1, .int a1)]) {r : Int32} (hf : fX11_isUnder_b24 g0 a0 a1 = some r) (JR : r = res) :
    W p l e (RmN 0 0) s m args below meth c H locs 0 0 (Fin YR S k args s below (some (.int res)) g0) (F0 m 24 ls []) := by
  unfold fX11_isUnder_b24 at hf
  refine lv_iload_n X.x X.b dX11_isUnder_24 rfl (lv_at hl 1 rfl) ?_
  refine lv_iconst (v := 2) X.x X.b dX11_isUnder_25 (by decide) ?_
  refine lv_icmp_ne (tgt := 34) X.x X.b dX11_isUnder_26 (by decide) (fun c4 => ?_) (fun c4 => ?_)
  · have hf := wF c4 hf
    exact wX11_isUnder_b34 hS X h (lv_sub hl [0, 1] rfl) hf JR
  · have hf := wT c4 hf
    refine lv_iload_n X.x X.b dX11_isUnder_29 rfl (lv_at hl 0 rfl) ?_
    refine lv_iconst (v := 4) X.x X.b dX11_isUnder_30 (by decide) ?_
    refine lv_icmp_eq (tgt := 44) X.x X.b dX11_isUnder_31 (by decide) (fun c7 => ?_) (fun c7 => ?_)
    · have hf := wT c7 hf
      refine lv_iconst (v := 1) X.x X.b dX11_isUnder_44 (by decide) ?_
      refine lv_goto (tgt := 49) X.x X.b dX11_isUnder_45 (by decide) ?_
      cases (Option.some.inj hf).trans JR
      exact ro_zret X h (Or.inr rfl) dX11_isUnder_49
    · have hf := wF c7 hf
      exact wX11_isUnder_b34 hS X h (lv_sub hl [0, 1] rfl) hf JR
set_option maxHeartbeats 4000000 in
set_option maxRecDepth 20000 in
theorem kX11_isUnder (l : Launch) {k : En} {S : Nat → Prop} (hS : ∀ t, S t) {g0 : Mm} {a0 : Int32} {a1 : Int32} {res : Int32} (hf : fX11_isUnder g0 a0 a1 = some res) : Mt l yX11_isUnder cX11_isUnder 2 (some .boolean) (RmN 0 0) YR S k [.int a0, .int a1] g0 (some (.int res)) g0 := by
  refine Mt.of (by decide) (Nat.le_of_ble_eq_true rfl) ?_
  intro p e s m args below meth c ls X _ h hl
  have X : Cx YR S k p s m args meth c cX11_isUnder 2 (some .boolean) RX11 := X
  have hl : lv_has ls 2 [(0, .int a0), (1, .int a1)] := hl
  have JR : res = res := rfl
  unfold fX11_isUnder at hf
  refine lv_iload_n X.x X.b dX11_isUnder_0 rfl (lv_at hl 1 rfl) ?_
  refine lv_if_eq (tgt := 44) X.x X.b dX11_isUnder_1 (by decide) (fun c1 => ?_) (fun c1 => ?_)
  · have hf := wT c1 hf
    refine lv_iconst (v := 1) X.x X.b dX11_isUnder_44 (by decide) ?_
    refine lv_goto (tgt := 49) X.x X.b dX11_isUnder_45 (by decide) ?_
    cases (Option.some.inj hf).trans JR
    exact ro_zret X h (Or.inr rfl) dX11_isUnder_49
  · have hf := wF c1 hf
    refine lv_iload_n X.x X.b dX11_isUnder_4 rfl (lv_at hl 0 rfl) ?_
    refine lv_iload_n X.x X.b dX11_isUnder_5 rfl (lv_at hl 1 rfl) ?_
    refine lv_icmp_eq (tgt := 44) X.x X.b dX11_isUnder_6 (by decide) (fun c2 => ?_) (fun c2 => ?_)
    · have hf := wT c2 hf
      refine lv_iconst (v := 1) X.x X.b dX11_isUnder_44 (by decide) ?_
      refine lv_goto (tgt := 49) X.x X.b dX11_isUnder_45 (by decide) ?_
      cases (Option.some.inj hf).trans JR
      exact ro_zret X h (Or.inr rfl) dX11_isUnder_49
    · have hf := wF c2 hf
      refine lv_iload_n X.x X.b dX11_isUnder_9 rfl (lv_at hl 1 rfl) ?_
      refine lv_iconst (v := 1) X.x X.b dX11_isUnder_10 (by decide) ?_
      refine lv_icmp_ne (tgt := 24) X.x X.b dX11_isUnder_11 (by decide) (fun c3 => ?_) (fun c3 => ?_)
      · have hf := wF c3 hf
        exact wX11_isUnder_b24 hS X h (lv_sub hl [0, 1] rfl) hf JR
      · have hf := wT c3 hf
        refine lv_iload_n X.x X.b dX11_isUnder_14 rfl (lv_at hl 0 rfl) ?_
        refine lv_iconst (v := 3) X.x X.b dX11_isUnder_15 (by decide) ?_
        refine lv_icmp_eq (tgt := 44) X.x X.b dX11_isUnder_16 (by decide) (fun c8 => ?_) (fun c8 => ?_)
        · have hf := wT c8 hf
          refine lv_iconst (v := 1) X.x X.b dX11_isUnder_44 (by decide) ?_
          refine lv_goto (tgt := 49) X.x X.b dX11_isUnder_45 (by decide) ?_
          cases (Option.some.inj hf).trans JR
          exact ro_zret X h (Or.inr rfl) dX11_isUnder_49
        · have hf := wF c8 hf
          refine lv_iload_n X.x X.b dX11_isUnder_19 rfl (lv_at hl 0 rfl) ?_
          refine lv_iconst (v := 5) X.x X.b dX11_isUnder_20 (by decide) ?_
          refine lv_icmp_eq (tgt := 44) X.x X.b dX11_isUnder_21 (by decide) (fun c9 => ?_) (fun c9 => ?_)
          · have hf := wT c9 hf
            refine lv_iconst (v := 1) X.x X.b dX11_isUnder_44 (by decide) ?_
            refine lv_goto (tgt := 49) X.x X.b dX11_isUnder_45 (by decide) ?_
            cases (Option.some.inj hf).trans JR
            exact ro_zret X h (Or.inr rfl) dX11_isUnder_49
          · have hf := wF c9 hf
            exact wX11_isUnder_b24 hS X h (lv_sub hl [0, 1] rfl) hf JR
set_option maxHeartbeats 4000000 in
set_option maxRecDepth 20000 in
theorem kX11_taken (l : Launch) {k : En} {S : Nat → Prop} (hS : ∀ t, S t) {g0 : Mm} {a1 : Int32} {a2 : Int32} {res : Int32} (hf : fX11_taken g0 a1 a2 = some res) : Mt l yX11_taken cX11_taken 3 (some .int) (RmN 2 43) YR S k [.ref (k.1 + adR 0 0 0), .int a1, .int a2] g0 (some (.int res)) g0 := by
  refine Mt.of (by decide) (Nat.le_of_ble_eq_true rfl) ?_
  intro p e s m args below meth c ls X _ h hl
  have X : Cx YR S k p s m args meth c cX11_taken 3 (some .int) RX11 := X
  have hl : lv_has ls 3 [(0, .ref (k.1 + adR 0 0 0)), (1, .int a1), (2, .int a2)] := hl
  have JR : res = res := rfl
  unfold fX11_taken at hf
  refine lv_iload_n X.x X.b dX11_taken_0 rfl (lv_at hl 2 rfl) ?_
  refine lv_iconst (v := 0) X.x X.b dX11_taken_1 (by decide) ?_
  refine lv_iconst (v := 5) X.x X.b dX11_taken_2 (by decide) ?_
  obtain ⟨y2, e1, hf⟩ := wBd_s hf
  refine ro_callsI (As := [.int a2, .int (0 : Int32), .int (5 : Int32)]) (g1 := g0) (x := y2) X h (kX11_in l hS e1) mv_X11_in lk_X11_99 ⟨rfl, rfl⟩ ⟨(Nat.le_of_ble_eq_true rfl), (Nat.le_of_ble_eq_true rfl)⟩ rfl hl rfl (Nat.le_of_ble_eq_true rfl) ⟨Nat.zero_le _, Nat.zero_le _⟩ dX11_taken_3 (fun H locs h => ?_)
  refine lv_if_ne (tgt := 12) X.x X.b dX11_taken_6 (by decide) (fun c3 => ?_) (fun c3 => ?_)
  · have hf := wF c3 hf
    refine lv_aload_n X.x X.b dX11_taken_12 rfl (lv_at hl 0 rfl) ?_
    refine lv_iload_n X.x X.b dX11_taken_13 rfl (lv_at hl 1 rfl) ?_
    obtain ⟨y5, e4, hf⟩ := wBd_s hf
    refine ro_callvI (As := [.int a1]) (g1 := g0) (x := y5) X h (kX11_isVisit l hS e4) mv_X11_isVisit lk_X11_114 ⟨rfl, rfl⟩ ⟨(Nat.le_of_ble_eq_true rfl), (Nat.le_of_ble_eq_true rfl)⟩ (rR_0 X h (hS 0) Nat.one_pos Nat.one_pos) rfl hl rfl (Nat.le_of_ble_eq_true rfl) ⟨Nat.zero_le _, Nat.zero_le _⟩ dX11_taken_14 (fun H locs h => ?_)
    refine lv_if_ne (tgt := 23) X.x X.b dX11_taken_17 (by decide) (fun c6 => ?_) (fun c6 => ?_)
    · have hf := wF c6 hf
      refine lv_aload_n X.x X.b dX11_taken_23 rfl (lv_at hl 0 rfl) ?_
      refine lv_iload_n X.x X.b dX11_taken_24 rfl (lv_at hl 1 rfl) ?_
      refine lv_iconst (v := 0) X.x X.b dX11_taken_25 (by decide) ?_
      obtain ⟨y8, e7, hf⟩ := wBd_s hf
      refine ro_callvI (As := [.int a1, .int (0 : Int32)]) (g1 := g0) (x := y8) X h (kX11_of l hS e7) mv_X11_of lk_X11_106 ⟨rfl, rfl⟩ ⟨(Nat.le_of_ble_eq_true rfl), (Nat.le_of_ble_eq_true rfl)⟩ (rR_0 X h (hS 0) Nat.one_pos Nat.one_pos) rfl hl rfl (Nat.le_of_ble_eq_true rfl) ⟨Nat.zero_le _, Nat.zero_le _⟩ dX11_taken_26 (fun H locs h => ?_)
      refine lv_iload_n X.x X.b dX11_taken_29 rfl (lv_at hl 2 rfl) ?_
      obtain ⟨y10, e9, hf⟩ := wBd_s hf
      refine ro_callsI (As := [.int y8, .int a2]) (g1 := g0) (x := y10) X h (kX11_isUnder l hS e9) mv_X11_isUnder lk_X11_301 ⟨rfl, rfl⟩ ⟨(Nat.le_of_ble_eq_true rfl), (Nat.le_of_ble_eq_true rfl)⟩ rfl hl rfl (Nat.le_of_ble_eq_true rfl) ⟨Nat.zero_le _, Nat.zero_le _⟩ dX11_taken_30 (fun H locs h => ?_)
      refine lv_if_eq (tgt := 50) X.x X.b dX11_taken_33 (by decide) (fun c11 => ?_) (fun c11 => ?_)
      · have hf := wT c11 hf
        refine lv_bipush (v := (-13)) X.x X.b dX11_taken_50 (by decide) ?_
        cases (Option.some.inj hf).trans JR
        exact ro_iret X h dX11_taken_52
      · have hf := wF c11 hf
        refine lv_aload_n X.x X.b dX11_taken_36 rfl (lv_at hl 0 rfl) ?_
        refine gR_0_21 X h (hS 0) Nat.one_pos Nat.one_pos lk_X11_53 dX11_taken_37 ?_
        refine lv_aload_n X.x X.b dX11_taken_40 rfl (lv_at hl 0 rfl) ?_
        refine lv_iload_n X.x X.b dX11_taken_41 rfl (lv_at hl 1 rfl) ?_
        refine lv_iconst (v := 0) X.x X.b dX11_taken_42 (by decide) ?_
        obtain ⟨y13, e12, hf⟩ := wBd_s hf
        refine ro_callvI (As := [.int a1, .int (0 : Int32)]) (g1 := g0) (x := y13) X h (kX11_of l hS e12) mv_X11_of lk_X11_106 ⟨rfl, rfl⟩ ⟨(Nat.le_of_ble_eq_true rfl), (Nat.le_of_ble_eq_true rfl)⟩ (rR_0 X h (hS 0) Nat.one_pos Nat.one_pos) rfl hl rfl (Nat.le_of_ble_eq_true rfl) ⟨Nat.zero_le _, Nat.zero_le _⟩ dX11_taken_43 (fun H locs h => ?_)
        obtain ⟨b14, hf⟩ := wGi_s hf
        refine aR_14 X h (hS 14) Nat.one_pos Nat.one_pos b14 dX11_taken_46 ?_
        refine lv_goto (tgt := 52) X.x X.b dX11_taken_47 (by decide) ?_
        cases (Option.some.inj hf).trans JR
        exact ro_iret X h dX11_taken_52
    · have hf := wT c6 hf
      refine lv_bipush (v := (-11)) X.x X.b dX11_taken_20 (by decide) ?_
      cases (Option.some.inj hf).trans JR
      exact ro_iret X h dX11_taken_22
  · have hf := wT c3 hf
    refine lv_bipush (v := (-2)) X.x X.b dX11_taken_9 (by decide) ?_
    cases (Option.some.inj hf).trans JR
    exact ro_iret X h dX11_taken_11
end WK
