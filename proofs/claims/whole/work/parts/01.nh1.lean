theorem dX5_looksSameTo_38 : decode cX5_looksSameTo 38 = .ok (.aaload, 1) := by decide +kernel
theorem dX5_looksSameTo_39 : decode cX5_looksSameTo 39 = .ok (.getfield 104, 3) := by decide +kernel
theorem dX5_looksSameTo_42 : decode cX5_looksSameTo 42 = .ok (.getfield 116, 3) := by decide +kernel
theorem dX5_looksSameTo_45 : decode cX5_looksSameTo 45 = .ok (.iload_n 1, 1) := by decide +kernel
theorem dX5_looksSameTo_46 : decode cX5_looksSameTo 46 = .ok (.if_icmp .ne 30, 3) := by decide +kernel
theorem dX5_looksSameTo_49 : decode cX5_looksSameTo 49 = .ok (.aload_n 0, 1) := by decide +kernel
theorem dX5_looksSameTo_50 : decode cX5_looksSameTo 50 = .ok (.getfield 30, 3) := by decide +kernel
theorem dX5_looksSameTo_53 : decode cX5_looksSameTo 53 = .ok (.iload_n 3, 1) := by decide +kernel
theorem dX5_looksSameTo_54 : decode cX5_looksSameTo 54 = .ok (.aaload, 1) := by decide +kernel
theorem dX5_looksSameTo_55 : decode cX5_looksSameTo 55 = .ok (.aload_n 2, 1) := by decide +kernel
theorem dX5_looksSameTo_56 : decode cX5_looksSameTo 56 = .ok (.getfield 30, 3) := by decide +kernel
theorem dX5_looksSameTo_59 : decode cX5_looksSameTo 59 = .ok (.iload_n 3, 1) := by decide +kernel
theorem dX5_looksSameTo_60 : decode cX5_looksSameTo 60 = .ok (.aaload, 1) := by decide +kernel
theorem dX5_looksSameTo_61 : decode cX5_looksSameTo 61 = .ok (.aload_n 0, 1) := by decide +kernel
theorem dX5_looksSameTo_62 : decode cX5_looksSameTo 62 = .ok (.getfield 49, 3) := by decide +kernel
theorem dX5_looksSameTo_65 : decode cX5_looksSameTo 65 = .ok (.getfield 98, 3) := by decide +kernel
theorem dX5_looksSameTo_68 : decode cX5_looksSameTo 68 = .ok (.invokevirtual 274, 3) := by decide +kernel
theorem dX5_looksSameTo_71 : decode cX5_looksSameTo 71 = .ok (.ifCond .ne 5, 3) := by decide +kernel
theorem dX5_looksSameTo_74 : decode cX5_looksSameTo 74 = .ok (.iconst 0, 1) := by decide +kernel
theorem dX5_looksSameTo_75 : decode cX5_looksSameTo 75 = .ok (.ireturn, 1) := by decide +kernel
theorem dX5_looksSameTo_76 : decode cX5_looksSameTo 76 = .ok (.iinc 3 1, 3) := by decide +kernel
theorem dX5_looksSameTo_79 : decode cX5_looksSameTo 79 = .ok (.goto (-57), 3) := by decide +kernel
theorem dX5_looksSameTo_82 : decode cX5_looksSameTo 82 = .ok (.iconst 1, 1) := by decide +kernel
theorem dX5_looksSameTo_83 : decode cX5_looksSameTo 83 = .ok (.ireturn, 1) := by decide +kernel
theorem dX6_init_0 : decode cX6_init 0 = .ok (.aload_n 0, 1) := by decide +kernel
theorem dX6_init_1 : decode cX6_init 1 = .ok (.invokespecial 3, 3) := by decide +kernel
theorem dX6_init_4 : decode cX6_init 4 = .ok (.aload_n 0, 1) := by decide +kernel
theorem dX6_init_5 : decode cX6_init 5 = .ok (.iconst 5, 1) := by decide +kernel
theorem dX6_init_6 : decode cX6_init 6 = .ok (.iconst 1, 1) := by decide +kernel
theorem dX6_init_7 : decode cX6_init 7 = .ok (.iload_n 1, 1) := by decide +kernel
theorem dX6_init_8 : decode cX6_init 8 = .ok (.invokestatic 11, 3) := by decide +kernel
theorem dX6_init_11 : decode cX6_init 11 = .ok (.imul, 1) := by decide +kernel
theorem dX6_init_12 : decode cX6_init 12 = .ok (.newarray .int, 2) := by decide +kernel
theorem dX6_init_14 : decode cX6_init 14 = .ok (.putfield 17, 3) := by decide +kernel
theorem dX6_init_17 : decode cX6_init 17 = .ok (.return_, 1) := by decide +kernel
theorem dX6_left_0 : decode cX6_left 0 = .ok (.aload_n 0, 1) := by decide +kernel
theorem dX6_left_1 : decode cX6_left 1 = .ok (.getfield 21, 3) := by decide +kernel
theorem dX6_left_4 : decode cX6_left 4 = .ok (.aload_n 0, 1) := by decide +kernel
theorem dX6_left_5 : decode cX6_left 5 = .ok (.getfield 25, 3) := by decide +kernel
theorem dX6_left_8 : decode cX6_left 8 = .ok (.isub, 1) := by decide +kernel
theorem dX6_left_9 : decode cX6_left 9 = .ok (.ireturn, 1) := by decide +kernel
theorem dX6_add_0 : decode cX6_add 0 = .ok (.iconst 5, 1) := by decide +kernel
theorem dX6_add_1 : decode cX6_add 1 = .ok (.aload_n 0, 1) := by decide +kernel
theorem dX6_add_2 : decode cX6_add 2 = .ok (.getfield 21, 3) := by decide +kernel
theorem dX6_add_5 : decode cX6_add 5 = .ok (.imul, 1) := by decide +kernel
theorem dX6_add_6 : decode cX6_add 6 = .ok (.istore 4, 2) := by decide +kernel
theorem dX6_add_8 : decode cX6_add 8 = .ok (.iload 4, 2) := by decide +kernel
theorem dX6_add_10 : decode cX6_add 10 = .ok (.aload_n 0, 1) := by decide +kernel
theorem dX6_add_11 : decode cX6_add 11 = .ok (.getfield 17, 3) := by decide +kernel
theorem dX6_add_14 : decode cX6_add 14 = .ok (.arraylength, 1) := by decide +kernel
theorem dX6_add_15 : decode cX6_add 15 = .ok (.if_icmp .ne 18, 3) := by decide +kernel
theorem dX6_add_18 : decode cX6_add 18 = .ok (.aload_n 0, 1) := by decide +kernel
theorem dX6_add_19 : decode cX6_add 19 = .ok (.aload_n 0, 1) := by decide +kernel
theorem dX6_add_20 : decode cX6_add 20 = .ok (.getfield 17, 3) := by decide +kernel
theorem dX6_add_23 : decode cX6_add 23 = .ok (.iconst 2, 1) := by decide +kernel
theorem dX6_add_24 : decode cX6_add 24 = .ok (.iload 4, 2) := by decide +kernel
theorem dX6_add_26 : decode cX6_add 26 = .ok (.imul, 1) := by decide +kernel
theorem dX6_add_27 : decode cX6_add 27 = .ok (.invokestatic 28, 3) := by decide +kernel
theorem dX6_add_30 : decode cX6_add 30 = .ok (.putfield 17, 3) := by decide +kernel
theorem dX6_add_33 : decode cX6_add 33 = .ok (.aload_n 0, 1) := by decide +kernel
theorem dX6_add_34 : decode cX6_add 34 = .ok (.getfield 17, 3) := by decide +kernel
theorem dX6_add_37 : decode cX6_add 37 = .ok (.iload 4, 2) := by decide +kernel
theorem dX6_add_39 : decode cX6_add 39 = .ok (.iload_n 3, 1) := by decide +kernel
theorem dX6_add_40 : decode cX6_add 40 = .ok (.iastore, 1) := by decide +kernel
theorem dX6_add_41 : decode cX6_add 41 = .ok (.aload_n 1, 1) := by decide +kernel
theorem dX6_add_42 : decode cX6_add 42 = .ok (.iload_n 2, 1) := by decide +kernel
theorem dX6_add_43 : decode cX6_add 43 = .ok (.aload_n 0, 1) := by decide +kernel
theorem dX6_add_44 : decode cX6_add 44 = .ok (.getfield 17, 3) := by decide +kernel
theorem dX6_add_47 : decode cX6_add 47 = .ok (.iload 4, 2) := by decide +kernel
theorem dX6_add_49 : decode cX6_add 49 = .ok (.iconst 1, 1) := by decide +kernel
theorem dX6_add_50 : decode cX6_add 50 = .ok (.iadd, 1) := by decide +kernel
theorem dX6_add_51 : decode cX6_add 51 = .ok (.iload_n 3, 1) := by decide +kernel
theorem dX6_add_52 : decode cX6_add 52 = .ok (.invokestatic 34, 3) := by decide +kernel
theorem dX6_add_55 : decode cX6_add 55 = .ok (.aload_n 0, 1) := by decide +kernel
theorem dX6_add_56 : decode cX6_add 56 = .ok (.dup, 1) := by decide +kernel
theorem dX6_add_57 : decode cX6_add 57 = .ok (.getfield 21, 3) := by decide +kernel
theorem dX6_add_60 : decode cX6_add 60 = .ok (.iconst 1, 1) := by decide +kernel
theorem dX6_add_61 : decode cX6_add 61 = .ok (.iadd, 1) := by decide +kernel
theorem dX6_add_62 : decode cX6_add 62 = .ok (.putfield 21, 3) := by decide +kernel
theorem dX6_add_65 : decode cX6_add 65 = .ok (.return_, 1) := by decide +kernel
theorem dX6_nextWords_0 : decode cX6_nextWords 0 = .ok (.aload_n 0, 1) := by decide +kernel
theorem dX6_nextWords_1 : decode cX6_nextWords 1 = .ok (.getfield 25, 3) := by decide +kernel
theorem dX6_nextWords_4 : decode cX6_nextWords 4 = .ok (.aload_n 0, 1) := by decide +kernel
theorem dX6_nextWords_5 : decode cX6_nextWords 5 = .ok (.getfield 21, 3) := by decide +kernel
theorem dX6_nextWords_8 : decode cX6_nextWords 8 = .ok (.if_icmp .ge 17, 3) := by decide +kernel
theorem dX6_nextWords_11 : decode cX6_nextWords 11 = .ok (.aload_n 0, 1) := by decide +kernel
theorem dX6_nextWords_12 : decode cX6_nextWords 12 = .ok (.getfield 17, 3) := by decide +kernel
theorem dX6_nextWords_15 : decode cX6_nextWords 15 = .ok (.iconst 5, 1) := by decide +kernel
theorem dX6_nextWords_16 : decode cX6_nextWords 16 = .ok (.aload_n 0, 1) := by decide +kernel
theorem dX6_nextWords_17 : decode cX6_nextWords 17 = .ok (.getfield 25, 3) := by decide +kernel
theorem dX6_nextWords_20 : decode cX6_nextWords 20 = .ok (.imul, 1) := by decide +kernel
theorem dX6_nextWords_21 : decode cX6_nextWords 21 = .ok (.iaload, 1) := by decide +kernel
theorem dX6_nextWords_22 : decode cX6_nextWords 22 = .ok (.goto 4, 3) := by decide +kernel
theorem dX6_nextWords_25 : decode cX6_nextWords 25 = .ok (.iconst 0, 1) := by decide +kernel
theorem dX6_nextWords_26 : decode cX6_nextWords 26 = .ok (.ireturn, 1) := by decide +kernel
theorem dX6_takeInto_0 : decode cX6_takeInto 0 = .ok (.aload_n 0, 1) := by decide +kernel
theorem dX6_takeInto_1 : decode cX6_takeInto 1 = .ok (.getfield 25, 3) := by decide +kernel
theorem dX6_takeInto_4 : decode cX6_takeInto 4 = .ok (.aload_n 0, 1) := by decide +kernel
theorem dX6_takeInto_5 : decode cX6_takeInto 5 = .ok (.getfield 21, 3) := by decide +kernel
theorem dX6_takeInto_8 : decode cX6_takeInto 8 = .ok (.if_icmp .ge 41, 3) := by decide +kernel
theorem dX6_takeInto_11 : decode cX6_takeInto 11 = .ok (.aload_n 0, 1) := by decide +kernel
theorem dX6_takeInto_12 : decode cX6_takeInto 12 = .ok (.getfield 17, 3) := by decide +kernel
theorem dX6_takeInto_15 : decode cX6_takeInto 15 = .ok (.iconst 5, 1) := by decide +kernel
theorem dX6_takeInto_16 : decode cX6_takeInto 16 = .ok (.aload_n 0, 1) := by decide +kernel
theorem dX6_takeInto_17 : decode cX6_takeInto 17 = .ok (.getfield 25, 3) := by decide +kernel
theorem dX6_takeInto_20 : decode cX6_takeInto 20 = .ok (.imul, 1) := by decide +kernel
theorem dX6_takeInto_21 : decode cX6_takeInto 21 = .ok (.iconst 1, 1) := by decide +kernel
theorem dX6_takeInto_22 : decode cX6_takeInto 22 = .ok (.iadd, 1) := by decide +kernel
theorem dX6_takeInto_23 : decode cX6_takeInto 23 = .ok (.aload_n 1, 1) := by decide +kernel
theorem dX6_takeInto_24 : decode cX6_takeInto 24 = .ok (.iload_n 2, 1) := by decide +kernel
theorem dX6_takeInto_25 : decode cX6_takeInto 25 = .ok (.aload_n 0, 1) := by decide +kernel
theorem dX6_takeInto_26 : decode cX6_takeInto 26 = .ok (.getfield 17, 3) := by decide +kernel
theorem dX6_takeInto_29 : decode cX6_takeInto 29 = .ok (.iconst 5, 1) := by decide +kernel
theorem dX6_takeInto_30 : decode cX6_takeInto 30 = .ok (.aload_n 0, 1) := by decide +kernel
theorem dX6_takeInto_31 : decode cX6_takeInto 31 = .ok (.getfield 25, 3) := by decide +kernel
theorem dX6_takeInto_34 : decode cX6_takeInto 34 = .ok (.imul, 1) := by decide +kernel
theorem dX6_takeInto_35 : decode cX6_takeInto 35 = .ok (.iaload, 1) := by decide +kernel
theorem dX6_takeInto_36 : decode cX6_takeInto 36 = .ok (.invokestatic 34, 3) := by decide +kernel
theorem dX6_takeInto_39 : decode cX6_takeInto 39 = .ok (.aload_n 0, 1) := by decide +kernel
theorem dX6_takeInto_40 : decode cX6_takeInto 40 = .ok (.dup, 1) := by decide +kernel
theorem dX6_takeInto_41 : decode cX6_takeInto 41 = .ok (.getfield 25, 3) := by decide +kernel
theorem dX6_takeInto_44 : decode cX6_takeInto 44 = .ok (.iconst 1, 1) := by decide +kernel
theorem dX6_takeInto_45 : decode cX6_takeInto 45 = .ok (.iadd, 1) := by decide +kernel
theorem dX6_takeInto_46 : decode cX6_takeInto 46 = .ok (.putfield 25, 3) := by decide +kernel
theorem dX6_takeInto_49 : decode cX6_takeInto 49 = .ok (.return_, 1) := by decide +kernel
theorem dX6_clear_0 : decode cX6_clear 0 = .ok (.aload_n 0, 1) := by decide +kernel
theorem dX6_clear_1 : decode cX6_clear 1 = .ok (.iconst 0, 1) := by decide +kernel
theorem dX6_clear_2 : decode cX6_clear 2 = .ok (.putfield 21, 3) := by decide +kernel
theorem dX6_clear_5 : decode cX6_clear 5 = .ok (.aload_n 0, 1) := by decide +kernel
theorem dX6_clear_6 : decode cX6_clear 6 = .ok (.iconst 0, 1) := by decide +kernel
theorem dX6_clear_7 : decode cX6_clear 7 = .ok (.putfield 25, 3) := by decide +kernel
theorem dX6_clear_10 : decode cX6_clear 10 = .ok (.return_, 1) := by decide +kernel
theorem dX6_isSame_0 : decode cX6_isSame 0 = .ok (.aload_n 0, 1) := by decide +kernel
theorem dX6_isSame_1 : decode cX6_isSame 1 = .ok (.invokevirtual 40, 3) := by decide +kernel
theorem dX6_isSame_4 : decode cX6_isSame 4 = .ok (.aload_n 1, 1) := by decide +kernel
theorem dX6_isSame_5 : decode cX6_isSame 5 = .ok (.invokevirtual 40, 3) := by decide +kernel
theorem dX6_isSame_8 : decode cX6_isSame 8 = .ok (.if_icmp .eq 5, 3) := by decide +kernel
theorem dX6_isSame_11 : decode cX6_isSame 11 = .ok (.iconst 0, 1) := by decide +kernel
theorem dX6_isSame_12 : decode cX6_isSame 12 = .ok (.ireturn, 1) := by decide +kernel
theorem dX6_isSame_13 : decode cX6_isSame 13 = .ok (.iconst 0, 1) := by decide +kernel
theorem dX6_isSame_14 : decode cX6_isSame 14 = .ok (.istore_n 2, 1) := by decide +kernel
theorem dX6_isSame_15 : decode cX6_isSame 15 = .ok (.iload_n 2, 1) := by decide +kernel
theorem dX6_isSame_16 : decode cX6_isSame 16 = .ok (.aload_n 0, 1) := by decide +kernel
theorem dX6_isSame_17 : decode cX6_isSame 17 = .ok (.invokevirtual 40, 3) := by decide +kernel
theorem dX6_isSame_20 : decode cX6_isSame 20 = .ok (.if_icmp .ge 35, 3) := by decide +kernel
theorem dX6_isSame_23 : decode cX6_isSame 23 = .ok (.aload_n 0, 1) := by decide +kernel
theorem dX6_isSame_24 : decode cX6_isSame 24 = .ok (.iconst 5, 1) := by decide +kernel
theorem dX6_isSame_25 : decode cX6_isSame 25 = .ok (.aload_n 0, 1) := by decide +kernel
theorem dX6_isSame_26 : decode cX6_isSame 26 = .ok (.getfield 25, 3) := by decide +kernel
theorem dX6_isSame_29 : decode cX6_isSame 29 = .ok (.iload_n 2, 1) := by decide +kernel
theorem dX6_isSame_30 : decode cX6_isSame 30 = .ok (.iadd, 1) := by decide +kernel
theorem dX6_isSame_31 : decode cX6_isSame 31 = .ok (.imul, 1) := by decide +kernel
theorem dX6_isSame_32 : decode cX6_isSame 32 = .ok (.aload_n 1, 1) := by decide +kernel
theorem dX6_isSame_33 : decode cX6_isSame 33 = .ok (.iconst 5, 1) := by decide +kernel
theorem dX6_isSame_34 : decode cX6_isSame 34 = .ok (.aload_n 1, 1) := by decide +kernel
theorem dX6_isSame_35 : decode cX6_isSame 35 = .ok (.getfield 25, 3) := by decide +kernel
theorem dX6_isSame_38 : decode cX6_isSame 38 = .ok (.iload_n 2, 1) := by decide +kernel
theorem dX6_isSame_39 : decode cX6_isSame 39 = .ok (.iadd, 1) := by decide +kernel
theorem dX6_isSame_40 : decode cX6_isSame 40 = .ok (.imul, 1) := by decide +kernel
theorem dX6_isSame_41 : decode cX6_isSame 41 = .ok (.invokevirtual 44, 3) := by decide +kernel
theorem dX6_isSame_44 : decode cX6_isSame 44 = .ok (.ifCond .ne 5, 3) := by decide +kernel
theorem dX6_isSame_47 : decode cX6_isSame 47 = .ok (.iconst 0, 1) := by decide +kernel
theorem dX6_isSame_48 : decode cX6_isSame 48 = .ok (.ireturn, 1) := by decide +kernel
theorem dX6_isSame_49 : decode cX6_isSame 49 = .ok (.iinc 2 1, 3) := by decide +kernel
theorem dX6_isSame_52 : decode cX6_isSame 52 = .ok (.goto (-37), 3) := by decide +kernel
theorem dX6_isSame_55 : decode cX6_isSame 55 = .ok (.iconst 1, 1) := by decide +kernel
theorem dX6_isSame_56 : decode cX6_isSame 56 = .ok (.ireturn, 1) := by decide +kernel
theorem dX6_isSameRecord_0 : decode cX6_isSameRecord 0 = .ok (.iconst 0, 1) := by decide +kernel
theorem dX6_isSameRecord_1 : decode cX6_isSameRecord 1 = .ok (.istore 4, 2) := by decide +kernel
theorem dX6_isSameRecord_3 : decode cX6_isSameRecord 3 = .ok (.iload 4, 2) := by decide +kernel
theorem dX6_isSameRecord_5 : decode cX6_isSameRecord 5 = .ok (.aload_n 0, 1) := by decide +kernel
theorem dX6_isSameRecord_6 : decode cX6_isSameRecord 6 = .ok (.getfield 17, 3) := by decide +kernel
theorem dX6_isSameRecord_9 : decode cX6_isSameRecord 9 = .ok (.iload_n 1, 1) := by decide +kernel
theorem dX6_isSameRecord_10 : decode cX6_isSameRecord 10 = .ok (.iaload, 1) := by decide +kernel
theorem dX6_isSameRecord_11 : decode cX6_isSameRecord 11 = .ok (.if_icmp .gt 32, 3) := by decide +kernel
theorem dX6_isSameRecord_14 : decode cX6_isSameRecord 14 = .ok (.aload_n 0, 1) := by decide +kernel
theorem dX6_isSameRecord_15 : decode cX6_isSameRecord 15 = .ok (.getfield 17, 3) := by decide +kernel
theorem dX6_isSameRecord_18 : decode cX6_isSameRecord 18 = .ok (.iload_n 1, 1) := by decide +kernel
theorem dX6_isSameRecord_19 : decode cX6_isSameRecord 19 = .ok (.iload 4, 2) := by decide +kernel
theorem dX6_isSameRecord_21 : decode cX6_isSameRecord 21 = .ok (.iadd, 1) := by decide +kernel
theorem dX6_isSameRecord_22 : decode cX6_isSameRecord 22 = .ok (.iaload, 1) := by decide +kernel
theorem dX6_isSameRecord_23 : decode cX6_isSameRecord 23 = .ok (.aload_n 2, 1) := by decide +kernel
theorem dX6_isSameRecord_24 : decode cX6_isSameRecord 24 = .ok (.getfield 17, 3) := by decide +kernel
theorem dX6_isSameRecord_27 : decode cX6_isSameRecord 27 = .ok (.iload_n 3, 1) := by decide +kernel
theorem dX6_isSameRecord_28 : decode cX6_isSameRecord 28 = .ok (.iload 4, 2) := by decide +kernel
theorem dX6_isSameRecord_30 : decode cX6_isSameRecord 30 = .ok (.iadd, 1) := by decide +kernel
theorem dX6_isSameRecord_31 : decode cX6_isSameRecord 31 = .ok (.iaload, 1) := by decide +kernel
theorem dX6_isSameRecord_32 : decode cX6_isSameRecord 32 = .ok (.if_icmp .eq 5, 3) := by decide +kernel
theorem dX6_isSameRecord_35 : decode cX6_isSameRecord 35 = .ok (.iconst 0, 1) := by decide +kernel
theorem dX6_isSameRecord_36 : decode cX6_isSameRecord 36 = .ok (.ireturn, 1) := by decide +kernel
theorem dX6_isSameRecord_37 : decode cX6_isSameRecord 37 = .ok (.iinc 4 1, 3) := by decide +kernel
theorem dX6_isSameRecord_40 : decode cX6_isSameRecord 40 = .ok (.goto (-37), 3) := by decide +kernel
theorem dX6_isSameRecord_43 : decode cX6_isSameRecord 43 = .ok (.iconst 1, 1) := by decide +kernel
theorem dX6_isSameRecord_44 : decode cX6_isSameRecord 44 = .ok (.ireturn, 1) := by decide +kernel
theorem dX7_init_0 : decode cX7_init 0 = .ok (.aload_n 0, 1) := by decide +kernel
theorem dX7_init_1 : decode cX7_init 1 = .ok (.invokespecial 3, 3) := by decide +kernel
theorem dX7_init_4 : decode cX7_init 4 = .ok (.aload_n 0, 1) := by decide +kernel
theorem dX7_init_5 : decode cX7_init 5 = .ok (.iload_n 1, 1) := by decide +kernel
theorem dX7_init_6 : decode cX7_init 6 = .ok (.putfield 9, 3) := by decide +kernel
theorem dX7_init_9 : decode cX7_init 9 = .ok (.aload_n 0, 1) := by decide +kernel
theorem dX7_init_10 : decode cX7_init 10 = .ok (.iload_n 1, 1) := by decide +kernel
theorem dX7_init_11 : decode cX7_init 11 = .ok (.newarray .int, 2) := by decide +kernel
theorem dX7_init_13 : decode cX7_init 13 = .ok (.putfield 15, 3) := by decide +kernel
theorem dX7_init_16 : decode cX7_init 16 = .ok (.aload_n 0, 1) := by decide +kernel
theorem dX7_init_17 : decode cX7_init 17 = .ok (.iload_n 1, 1) := by decide +kernel
theorem dX7_init_18 : decode cX7_init 18 = .ok (.anewarray 19, 3) := by decide +kernel
theorem dX7_init_21 : decode cX7_init 21 = .ok (.putfield 21, 3) := by decide +kernel
theorem dX7_init_24 : decode cX7_init 24 = .ok (.aload_n 0, 1) := by decide +kernel
theorem dX7_init_25 : decode cX7_init 25 = .ok (.iload_n 1, 1) := by decide +kernel
theorem dX7_init_26 : decode cX7_init 26 = .ok (.newarray .int, 2) := by decide +kernel
theorem dX7_init_28 : decode cX7_init 28 = .ok (.putfield 25, 3) := by decide +kernel
theorem dX7_init_31 : decode cX7_init 31 = .ok (.iconst 0, 1) := by decide +kernel
theorem dX7_init_32 : decode cX7_init 32 = .ok (.istore_n 2, 1) := by decide +kernel
theorem dX7_init_33 : decode cX7_init 33 = .ok (.iload_n 2, 1) := by decide +kernel
theorem dX7_init_34 : decode cX7_init 34 = .ok (.iload_n 1, 1) := by decide +kernel
theorem dX7_init_35 : decode cX7_init 35 = .ok (.if_icmp .ge 33, 3) := by decide +kernel
theorem dX7_init_38 : decode cX7_init 38 = .ok (.aload_n 0, 1) := by decide +kernel
theorem dX7_init_39 : decode cX7_init 39 = .ok (.getfield 15, 3) := by decide +kernel
theorem dX7_init_42 : decode cX7_init 42 = .ok (.iload_n 2, 1) := by decide +kernel
theorem dX7_init_43 : decode cX7_init 43 = .ok (.iconst 1, 1) := by decide +kernel
theorem dX7_init_44 : decode cX7_init 44 = .ok (.iload_n 2, 1) := by decide +kernel
theorem dX7_init_45 : decode cX7_init 45 = .ok (.ishl, 1) := by decide +kernel
theorem dX7_init_46 : decode cX7_init 46 = .ok (.iastore, 1) := by decide +kernel
theorem dX7_init_47 : decode cX7_init 47 = .ok (.aload_n 0, 1) := by decide +kernel
theorem dX7_init_48 : decode cX7_init 48 = .ok (.getfield 21, 3) := by decide +kernel
theorem dX7_init_51 : decode cX7_init 51 = .ok (.iload_n 2, 1) := by decide +kernel
theorem dX7_init_52 : decode cX7_init 52 = .ok (.new 19, 3) := by decide +kernel
theorem dX7_init_55 : decode cX7_init 55 = .ok (.dup, 1) := by decide +kernel
theorem dX7_init_56 : decode cX7_init 56 = .ok (.bipush 8, 2) := by decide +kernel
theorem dX7_init_58 : decode cX7_init 58 = .ok (.invokespecial 28, 3) := by decide +kernel
theorem dX7_init_61 : decode cX7_init 61 = .ok (.aastore, 1) := by decide +kernel
theorem dX7_init_62 : decode cX7_init 62 = .ok (.iinc 2 1, 3) := by decide +kernel
theorem dX7_init_65 : decode cX7_init 65 = .ok (.goto (-32), 3) := by decide +kernel
theorem dX7_init_68 : decode cX7_init 68 = .ok (.aload_n 0, 1) := by decide +kernel
theorem dX7_init_69 : decode cX7_init 69 = .ok (.bipush 12, 2) := by decide +kernel
theorem dX7_init_71 : decode cX7_init 71 = .ok (.anewarray 31, 3) := by decide +kernel
theorem dX7_init_74 : decode cX7_init 74 = .ok (.putfield 33, 3) := by decide +kernel
theorem dX7_init_77 : decode cX7_init 77 = .ok (.aload_n 0, 1) := by decide +kernel
theorem dX7_init_78 : decode cX7_init 78 = .ok (.iconst 3, 1) := by decide +kernel
theorem dX7_init_79 : decode cX7_init 79 = .ok (.anewarray 19, 3) := by decide +kernel
theorem dX7_init_82 : decode cX7_init 82 = .ok (.putfield 37, 3) := by decide +kernel
theorem dX7_init_85 : decode cX7_init 85 = .ok (.aload_n 0, 1) := by decide +kernel
theorem dX7_init_86 : decode cX7_init 86 = .ok (.iconst 3, 1) := by decide +kernel
theorem dX7_init_87 : decode cX7_init 87 = .ok (.anewarray 19, 3) := by decide +kernel
theorem dX7_init_90 : decode cX7_init 90 = .ok (.putfield 40, 3) := by decide +kernel
theorem dX7_init_93 : decode cX7_init 93 = .ok (.iconst 0, 1) := by decide +kernel
theorem dX7_init_94 : decode cX7_init 94 = .ok (.istore_n 2, 1) := by decide +kernel
theorem dX7_init_95 : decode cX7_init 95 = .ok (.iload_n 2, 1) := by decide +kernel
theorem dX7_init_96 : decode cX7_init 96 = .ok (.iconst 3, 1) := by decide +kernel
theorem dX7_init_97 : decode cX7_init 97 = .ok (.if_icmp .ge 37, 3) := by decide +kernel
theorem dX7_init_100 : decode cX7_init 100 = .ok (.aload_n 0, 1) := by decide +kernel
theorem dX7_init_101 : decode cX7_init 101 = .ok (.getfield 37, 3) := by decide +kernel
theorem dX7_init_104 : decode cX7_init 104 = .ok (.iload_n 2, 1) := by decide +kernel
theorem dX7_init_105 : decode cX7_init 105 = .ok (.new 19, 3) := by decide +kernel
theorem dX7_init_108 : decode cX7_init 108 = .ok (.dup, 1) := by decide +kernel
theorem dX7_init_109 : decode cX7_init 109 = .ok (.iconst 4, 1) := by decide +kernel
theorem dX7_init_110 : decode cX7_init 110 = .ok (.invokespecial 28, 3) := by decide +kernel
theorem dX7_init_113 : decode cX7_init 113 = .ok (.aastore, 1) := by decide +kernel
theorem dX7_init_114 : decode cX7_init 114 = .ok (.aload_n 0, 1) := by decide +kernel
theorem dX7_init_115 : decode cX7_init 115 = .ok (.getfield 40, 3) := by decide +kernel
theorem dX7_init_118 : decode cX7_init 118 = .ok (.iload_n 2, 1) := by decide +kernel
theorem dX7_init_119 : decode cX7_init 119 = .ok (.new 19, 3) := by decide +kernel
theorem dX7_init_122 : decode cX7_init 122 = .ok (.dup, 1) := by decide +kernel
theorem dX7_init_123 : decode cX7_init 123 = .ok (.iconst 4, 1) := by decide +kernel
theorem dX7_init_124 : decode cX7_init 124 = .ok (.invokespecial 28, 3) := by decide +kernel
theorem dX7_init_127 : decode cX7_init 127 = .ok (.aastore, 1) := by decide +kernel
theorem dX7_init_128 : decode cX7_init 128 = .ok (.iinc 2 1, 3) := by decide +kernel
theorem dX7_init_131 : decode cX7_init 131 = .ok (.goto (-36), 3) := by decide +kernel
theorem dX7_init_134 : decode cX7_init 134 = .ok (.return_, 1) := by decide +kernel
theorem dX7_hasDomain_0 : decode cX7_hasDomain 0 = .ok (.iload_n 1, 1) := by decide +kernel
theorem dX7_hasDomain_1 : decode cX7_hasDomain 1 = .ok (.ifCond .lt 15, 3) := by decide +kernel
theorem dX7_hasDomain_4 : decode cX7_hasDomain 4 = .ok (.iload_n 1, 1) := by decide +kernel
theorem dX7_hasDomain_5 : decode cX7_hasDomain 5 = .ok (.aload_n 0, 1) := by decide +kernel
theorem dX7_hasDomain_6 : decode cX7_hasDomain 6 = .ok (.getfield 9, 3) := by decide +kernel
theorem dX7_hasDomain_9 : decode cX7_hasDomain 9 = .ok (.if_icmp .ge 7, 3) := by decide +kernel
theorem dX7_hasDomain_12 : decode cX7_hasDomain 12 = .ok (.iconst 1, 1) := by decide +kernel
theorem dX7_hasDomain_13 : decode cX7_hasDomain 13 = .ok (.goto 4, 3) := by decide +kernel
theorem dX7_hasDomain_16 : decode cX7_hasDomain 16 = .ok (.iconst 0, 1) := by decide +kernel
theorem dX7_hasDomain_17 : decode cX7_hasDomain 17 = .ok (.ireturn, 1) := by decide +kernel
theorem dX7_mayFlow_0 : decode cX7_mayFlow 0 = .ok (.aload_n 0, 1) := by decide +kernel
theorem dX7_mayFlow_1 : decode cX7_mayFlow 1 = .ok (.getfield 15, 3) := by decide +kernel
theorem dX7_mayFlow_4 : decode cX7_mayFlow 4 = .ok (.iload_n 1, 1) := by decide +kernel
theorem dX7_mayFlow_5 : decode cX7_mayFlow 5 = .ok (.iaload, 1) := by decide +kernel
theorem dX7_mayFlow_6 : decode cX7_mayFlow 6 = .ok (.iconst 1, 1) := by decide +kernel
theorem dX7_mayFlow_7 : decode cX7_mayFlow 7 = .ok (.iload_n 2, 1) := by decide +kernel
theorem dX7_mayFlow_8 : decode cX7_mayFlow 8 = .ok (.ishl, 1) := by decide +kernel
theorem dX7_mayFlow_9 : decode cX7_mayFlow 9 = .ok (.iand, 1) := by decide +kernel
theorem dX7_mayFlow_10 : decode cX7_mayFlow 10 = .ok (.ifCond .eq 7, 3) := by decide +kernel
theorem dX7_mayFlow_13 : decode cX7_mayFlow 13 = .ok (.iconst 1, 1) := by decide +kernel
theorem dX7_mayFlow_14 : decode cX7_mayFlow 14 = .ok (.goto 4, 3) := by decide +kernel
theorem dX7_mayFlow_17 : decode cX7_mayFlow 17 = .ok (.iconst 0, 1) := by decide +kernel
theorem dX7_mayFlow_18 : decode cX7_mayFlow 18 = .ok (.ireturn, 1) := by decide +kernel
theorem dX7_setFlow_0 : decode cX7_setFlow 0 = .ok (.aload_n 0, 1) := by decide +kernel
theorem dX7_setFlow_1 : decode cX7_setFlow 1 = .ok (.getfield 15, 3) := by decide +kernel
theorem dX7_setFlow_4 : decode cX7_setFlow 4 = .ok (.iload_n 1, 1) := by decide +kernel
theorem dX7_setFlow_5 : decode cX7_setFlow 5 = .ok (.iload_n 3, 1) := by decide +kernel
theorem dX7_setFlow_6 : decode cX7_setFlow 6 = .ok (.ifCond .eq 16, 3) := by decide +kernel
theorem dX7_setFlow_9 : decode cX7_setFlow 9 = .ok (.aload_n 0, 1) := by decide +kernel
theorem dX7_setFlow_10 : decode cX7_setFlow 10 = .ok (.getfield 15, 3) := by decide +kernel
theorem dX7_setFlow_13 : decode cX7_setFlow 13 = .ok (.iload_n 1, 1) := by decide +kernel
theorem dX7_setFlow_14 : decode cX7_setFlow 14 = .ok (.iaload, 1) := by decide +kernel
theorem dX7_setFlow_15 : decode cX7_setFlow 15 = .ok (.iconst 1, 1) := by decide +kernel
theorem dX7_setFlow_16 : decode cX7_setFlow 16 = .ok (.iload_n 2, 1) := by decide +kernel
theorem dX7_setFlow_17 : decode cX7_setFlow 17 = .ok (.ishl, 1) := by decide +kernel
theorem dX7_setFlow_18 : decode cX7_setFlow 18 = .ok (.ior, 1) := by decide +kernel
theorem dX7_setFlow_19 : decode cX7_setFlow 19 = .ok (.goto 15, 3) := by decide +kernel
theorem dX7_setFlow_22 : decode cX7_setFlow 22 = .ok (.aload_n 0, 1) := by decide +kernel
theorem dX7_setFlow_23 : decode cX7_setFlow 23 = .ok (.getfield 15, 3) := by decide +kernel
theorem dX7_setFlow_26 : decode cX7_setFlow 26 = .ok (.iload_n 1, 1) := by decide +kernel
theorem dX7_setFlow_27 : decode cX7_setFlow 27 = .ok (.iaload, 1) := by decide +kernel
theorem dX7_setFlow_28 : decode cX7_setFlow 28 = .ok (.iconst 1, 1) := by decide +kernel
theorem dX7_setFlow_29 : decode cX7_setFlow 29 = .ok (.iload_n 2, 1) := by decide +kernel
theorem dX7_setFlow_30 : decode cX7_setFlow 30 = .ok (.ishl, 1) := by decide +kernel
theorem dX7_setFlow_31 : decode cX7_setFlow 31 = .ok (.iconst (-1), 1) := by decide +kernel
theorem dX7_setFlow_32 : decode cX7_setFlow 32 = .ok (.ixor, 1) := by decide +kernel
theorem dX7_setFlow_33 : decode cX7_setFlow 33 = .ok (.iand, 1) := by decide +kernel
theorem dX7_setFlow_34 : decode cX7_setFlow 34 = .ok (.iastore, 1) := by decide +kernel
theorem dX7_setFlow_35 : decode cX7_setFlow 35 = .ok (.return_, 1) := by decide +kernel
theorem dX7_reigns_0 : decode cX7_reigns 0 = .ok (.aload_n 0, 1) := by decide +kernel
theorem dX7_reigns_1 : decode cX7_reigns 1 = .ok (.getfield 15, 3) := by decide +kernel
theorem dX7_reigns_4 : decode cX7_reigns 4 = .ok (.iload_n 1, 1) := by decide +kernel
theorem dX7_reigns_5 : decode cX7_reigns 5 = .ok (.iaload, 1) := by decide +kernel
theorem dX7_reigns_6 : decode cX7_reigns 6 = .ok (.iconst 1, 1) := by decide +kernel
theorem dX7_reigns_7 : decode cX7_reigns 7 = .ok (.aload_n 0, 1) := by decide +kernel
theorem dX7_reigns_8 : decode cX7_reigns 8 = .ok (.getfield 9, 3) := by decide +kernel
theorem dX7_reigns_11 : decode cX7_reigns 11 = .ok (.ishl, 1) := by decide +kernel
theorem dX7_reigns_12 : decode cX7_reigns 12 = .ok (.iconst 1, 1) := by decide +kernel
theorem dX7_reigns_13 : decode cX7_reigns 13 = .ok (.isub, 1) := by decide +kernel
theorem dX7_reigns_14 : decode cX7_reigns 14 = .ok (.if_icmp .ne 7, 3) := by decide +kernel
theorem dX7_reigns_17 : decode cX7_reigns 17 = .ok (.iconst 1, 1) := by decide +kernel
theorem dX7_reigns_18 : decode cX7_reigns 18 = .ok (.goto 4, 3) := by decide +kernel
theorem dX7_reigns_21 : decode cX7_reigns 21 = .ok (.iconst 0, 1) := by decide +kernel
theorem dX7_reigns_22 : decode cX7_reigns 22 = .ok (.ireturn, 1) := by decide +kernel
theorem dX7_hasLink_0 : decode cX7_hasLink 0 = .ok (.iconst 0, 1) := by decide +kernel
theorem dX7_hasLink_1 : decode cX7_hasLink 1 = .ok (.istore_n 3, 1) := by decide +kernel
theorem dX7_hasLink_2 : decode cX7_hasLink 2 = .ok (.iload_n 3, 1) := by decide +kernel
theorem dX7_hasLink_3 : decode cX7_hasLink 3 = .ok (.aload_n 0, 1) := by decide +kernel
theorem dX7_hasLink_4 : decode cX7_hasLink 4 = .ok (.getfield 43, 3) := by decide +kernel
theorem dX7_hasLink_7 : decode cX7_hasLink 7 = .ok (.if_icmp .ge 37, 3) := by decide +kernel
theorem dX7_hasLink_10 : decode cX7_hasLink 10 = .ok (.aload_n 0, 1) := by decide +kernel
theorem dX7_hasLink_11 : decode cX7_hasLink 11 = .ok (.getfield 33, 3) := by decide +kernel
theorem dX7_hasLink_14 : decode cX7_hasLink 14 = .ok (.iload_n 3, 1) := by decide +kernel
theorem dX7_hasLink_15 : decode cX7_hasLink 15 = .ok (.aaload, 1) := by decide +kernel
theorem dX7_hasLink_16 : decode cX7_hasLink 16 = .ok (.getfield 46, 3) := by decide +kernel
theorem dX7_hasLink_19 : decode cX7_hasLink 19 = .ok (.iload_n 1, 1) := by decide +kernel
theorem dX7_hasLink_20 : decode cX7_hasLink 20 = .ok (.if_icmp .ne 18, 3) := by decide +kernel
theorem dX7_hasLink_23 : decode cX7_hasLink 23 = .ok (.aload_n 0, 1) := by decide +kernel
theorem dX7_hasLink_24 : decode cX7_hasLink 24 = .ok (.getfield 33, 3) := by decide +kernel
theorem dX7_hasLink_27 : decode cX7_hasLink 27 = .ok (.iload_n 3, 1) := by decide +kernel
theorem dX7_hasLink_28 : decode cX7_hasLink 28 = .ok (.aaload, 1) := by decide +kernel
theorem dX7_hasLink_29 : decode cX7_hasLink 29 = .ok (.getfield 49, 3) := by decide +kernel
theorem dX7_hasLink_32 : decode cX7_hasLink 32 = .ok (.iload_n 2, 1) := by decide +kernel
theorem dX7_hasLink_33 : decode cX7_hasLink 33 = .ok (.if_icmp .ne 5, 3) := by decide +kernel
theorem dX7_hasLink_36 : decode cX7_hasLink 36 = .ok (.iconst 1, 1) := by decide +kernel
theorem dX7_hasLink_37 : decode cX7_hasLink 37 = .ok (.ireturn, 1) := by decide +kernel
theorem dX7_hasLink_38 : decode cX7_hasLink 38 = .ok (.iinc 3 1, 3) := by decide +kernel
theorem dX7_hasLink_41 : decode cX7_hasLink 41 = .ok (.goto (-39), 3) := by decide +kernel
theorem dX7_hasLink_44 : decode cX7_hasLink 44 = .ok (.iconst 0, 1) := by decide +kernel
theorem dX7_hasLink_45 : decode cX7_hasLink 45 = .ok (.ireturn, 1) := by decide +kernel
theorem dX8_init_0 : decode cX8_init 0 = .ok (.aload_n 0, 1) := by decide +kernel
theorem dX8_init_1 : decode cX8_init 1 = .ok (.invokespecial 1, 3) := by decide +kernel
theorem dX8_init_4 : decode cX8_init 4 = .ok (.aload_n 0, 1) := by decide +kernel
theorem dX8_init_5 : decode cX8_init 5 = .ok (.aload_n 1, 1) := by decide +kernel
theorem dX8_init_6 : decode cX8_init 6 = .ok (.putfield 7, 3) := by decide +kernel
theorem dX8_init_9 : decode cX8_init 9 = .ok (.aload_n 0, 1) := by decide +kernel
theorem dX8_init_10 : decode cX8_init 10 = .ok (.new 13, 3) := by decide +kernel
theorem dX8_init_13 : decode cX8_init 13 = .ok (.dup, 1) := by decide +kernel
theorem dX8_init_14 : decode cX8_init 14 = .ok (.aload_n 1, 1) := by decide +kernel
theorem dX8_init_15 : decode cX8_init 15 = .ok (.invokespecial 15, 3) := by decide +kernel
theorem dX8_init_18 : decode cX8_init 18 = .ok (.putfield 18, 3) := by decide +kernel
theorem dX8_init_21 : decode cX8_init 21 = .ok (.aload_n 0, 1) := by decide +kernel
theorem dX8_init_22 : decode cX8_init 22 = .ok (.bipush 32, 2) := by decide +kernel
theorem dX8_init_24 : decode cX8_init 24 = .ok (.newarray .boolean, 2) := by decide +kernel
theorem dX8_init_26 : decode cX8_init 26 = .ok (.putfield 22, 3) := by decide +kernel
theorem dX8_init_29 : decode cX8_init 29 = .ok (.return_, 1) := by decide +kernel
theorem dX8_choose_0 : decode cX8_choose 0 = .ok (.aload_n 0, 1) := by decide +kernel
theorem dX8_choose_1 : decode cX8_choose 1 = .ok (.aload_n 1, 1) := by decide +kernel
theorem dX8_choose_2 : decode cX8_choose 2 = .ok (.invokevirtual 26, 3) := by decide +kernel
theorem dX8_choose_5 : decode cX8_choose 5 = .ok (.putfield 32, 3) := by decide +kernel
theorem dX8_choose_8 : decode cX8_choose 8 = .ok (.aload_n 0, 1) := by decide +kernel
theorem dX8_choose_9 : decode cX8_choose 9 = .ok (.getfield 22, 3) := by decide +kernel
theorem dX8_choose_12 : decode cX8_choose 12 = .ok (.arraylength, 1) := by decide +kernel
theorem dX8_choose_13 : decode cX8_choose 13 = .ok (.aload_n 0, 1) := by decide +kernel
theorem dX8_choose_14 : decode cX8_choose 14 = .ok (.getfield 32, 3) := by decide +kernel
theorem dX8_choose_17 : decode cX8_choose 17 = .ok (.if_icmp .ge 23, 3) := by decide +kernel
theorem dX8_choose_20 : decode cX8_choose 20 = .ok (.aload_n 0, 1) := by decide +kernel
theorem dX8_choose_21 : decode cX8_choose 21 = .ok (.aload_n 0, 1) := by decide +kernel
theorem dX8_choose_22 : decode cX8_choose 22 = .ok (.getfield 32, 3) := by decide +kernel
theorem dX8_choose_25 : decode cX8_choose 25 = .ok (.iconst 2, 1) := by decide +kernel
theorem dX8_choose_26 : decode cX8_choose 26 = .ok (.aload_n 0, 1) := by decide +kernel
theorem dX8_choose_27 : decode cX8_choose 27 = .ok (.getfield 22, 3) := by decide +kernel
theorem dX8_choose_30 : decode cX8_choose 30 = .ok (.arraylength, 1) := by decide +kernel
theorem dX8_choose_31 : decode cX8_choose 31 = .ok (.imul, 1) := by decide +kernel
theorem dX8_choose_32 : decode cX8_choose 32 = .ok (.invokestatic 36, 3) := by decide +kernel
theorem dX8_choose_35 : decode cX8_choose 35 = .ok (.newarray .boolean, 2) := by decide +kernel
theorem dX8_choose_37 : decode cX8_choose 37 = .ok (.putfield 22, 3) := by decide +kernel
theorem dX8_choose_40 : decode cX8_choose 40 = .ok (.aload_n 0, 1) := by decide +kernel
theorem dX8_choose_41 : decode cX8_choose 41 = .ok (.iconst 0, 1) := by decide +kernel
theorem dX8_choose_42 : decode cX8_choose 42 = .ok (.putfield 42, 3) := by decide +kernel
theorem dX8_choose_45 : decode cX8_choose 45 = .ok (.iconst 1, 1) := by decide +kernel
theorem dX8_choose_46 : decode cX8_choose 46 = .ok (.iload_n 2, 1) := by decide +kernel
theorem dX8_choose_47 : decode cX8_choose 47 = .ok (.ishl, 1) := by decide +kernel
theorem dX8_choose_48 : decode cX8_choose 48 = .ok (.istore_n 3, 1) := by decide +kernel
theorem dX8_choose_49 : decode cX8_choose 49 = .ok (.aload_n 0, 1) := by decide +kernel
theorem dX8_choose_50 : decode cX8_choose 50 = .ok (.getfield 32, 3) := by decide +kernel
theorem dX8_choose_53 : decode cX8_choose 53 = .ok (.iconst 1, 1) := by decide +kernel
theorem dX8_choose_54 : decode cX8_choose 54 = .ok (.isub, 1) := by decide +kernel
theorem dX8_choose_55 : decode cX8_choose 55 = .ok (.istore 4, 2) := by decide +kernel
theorem dX8_choose_57 : decode cX8_choose 57 = .ok (.iload 4, 2) := by decide +kernel
theorem dX8_choose_59 : decode cX8_choose 59 = .ok (.ifCond .lt 74, 3) := by decide +kernel
theorem dX8_choose_62 : decode cX8_choose 62 = .ok (.aload_n 1, 1) := by decide +kernel
theorem dX8_choose_63 : decode cX8_choose 63 = .ok (.getfield 45, 3) := by decide +kernel
theorem dX8_choose_66 : decode cX8_choose 66 = .ok (.iload 4, 2) := by decide +kernel
theorem dX8_choose_68 : decode cX8_choose 68 = .ok (.invokevirtual 49, 3) := by decide +kernel
theorem dX8_choose_71 : decode cX8_choose 71 = .ok (.istore 5, 2) := by decide +kernel
theorem dX8_choose_73 : decode cX8_choose 73 = .ok (.aload_n 0, 1) := by decide +kernel
theorem dX8_choose_74 : decode cX8_choose 74 = .ok (.getfield 22, 3) := by decide +kernel
theorem dX8_choose_77 : decode cX8_choose 77 = .ok (.iload 4, 2) := by decide +kernel
theorem dX8_choose_79 : decode cX8_choose 79 = .ok (.aload_n 0, 1) := by decide +kernel
theorem dX8_choose_80 : decode cX8_choose 80 = .ok (.getfield 7, 3) := by decide +kernel
theorem dX8_choose_83 : decode cX8_choose 83 = .ok (.getfield 55, 3) := by decide +kernel
theorem dX8_choose_86 : decode cX8_choose 86 = .ok (.iload 5, 2) := by decide +kernel
theorem dX8_choose_88 : decode cX8_choose 88 = .ok (.iaload, 1) := by decide +kernel
theorem dX8_choose_89 : decode cX8_choose 89 = .ok (.iload_n 3, 1) := by decide +kernel
theorem dX8_choose_90 : decode cX8_choose 90 = .ok (.iand, 1) := by decide +kernel
theorem dX8_choose_91 : decode cX8_choose 91 = .ok (.ifCond .eq 7, 3) := by decide +kernel
theorem dX8_choose_94 : decode cX8_choose 94 = .ok (.iconst 1, 1) := by decide +kernel
theorem dX8_choose_95 : decode cX8_choose 95 = .ok (.goto 4, 3) := by decide +kernel
theorem dX8_choose_98 : decode cX8_choose 98 = .ok (.iconst 0, 1) := by decide +kernel
theorem dX8_choose_99 : decode cX8_choose 99 = .ok (.bastore, 1) := by decide +kernel
theorem dX8_choose_100 : decode cX8_choose 100 = .ok (.aload_n 0, 1) := by decide +kernel
theorem dX8_choose_101 : decode cX8_choose 101 = .ok (.getfield 22, 3) := by decide +kernel
theorem dX8_choose_104 : decode cX8_choose 104 = .ok (.iload 4, 2) := by decide +kernel
theorem dX8_choose_106 : decode cX8_choose 106 = .ok (.baload, 1) := by decide +kernel
theorem dX8_choose_107 : decode cX8_choose 107 = .ok (.ifCond .eq 20, 3) := by decide +kernel
theorem dX8_choose_110 : decode cX8_choose 110 = .ok (.iload_n 3, 1) := by decide +kernel
theorem dX8_choose_111 : decode cX8_choose 111 = .ok (.iconst 1, 1) := by decide +kernel
theorem dX8_choose_112 : decode cX8_choose 112 = .ok (.iload 5, 2) := by decide +kernel
theorem dX8_choose_114 : decode cX8_choose 114 = .ok (.ishl, 1) := by decide +kernel
theorem dX8_choose_115 : decode cX8_choose 115 = .ok (.ior, 1) := by decide +kernel
theorem dX8_choose_116 : decode cX8_choose 116 = .ok (.istore_n 3, 1) := by decide +kernel
theorem dX8_choose_117 : decode cX8_choose 117 = .ok (.aload_n 0, 1) := by decide +kernel
theorem dX8_choose_118 : decode cX8_choose 118 = .ok (.dup, 1) := by decide +kernel
theorem dX8_choose_119 : decode cX8_choose 119 = .ok (.getfield 42, 3) := by decide +kernel
theorem dX8_choose_122 : decode cX8_choose 122 = .ok (.iconst 1, 1) := by decide +kernel
theorem dX8_choose_123 : decode cX8_choose 123 = .ok (.iadd, 1) := by decide +kernel
theorem dX8_choose_124 : decode cX8_choose 124 = .ok (.putfield 42, 3) := by decide +kernel
theorem dX8_choose_127 : decode cX8_choose 127 = .ok (.iinc 4 (-1), 3) := by decide +kernel
theorem dX8_choose_130 : decode cX8_choose 130 = .ok (.goto (-73), 3) := by decide +kernel
theorem dX8_choose_133 : decode cX8_choose 133 = .ok (.return_, 1) := by decide +kernel
theorem dX8_redo_0 : decode cX8_redo 0 = .ok (.aload_n 0, 1) := by decide +kernel
theorem dX8_redo_1 : decode cX8_redo 1 = .ok (.getfield 18, 3) := by decide +kernel
theorem dX8_redo_4 : decode cX8_redo 4 = .ok (.invokevirtual 61, 3) := by decide +kernel
theorem dX8_redo_7 : decode cX8_redo 7 = .ok (.iconst 0, 1) := by decide +kernel
theorem dX8_redo_8 : decode cX8_redo 8 = .ok (.istore_n 3, 1) := by decide +kernel
theorem dX8_redo_9 : decode cX8_redo 9 = .ok (.iload_n 3, 1) := by decide +kernel
theorem dX8_redo_10 : decode cX8_redo 10 = .ok (.aload_n 0, 1) := by decide +kernel
theorem dX8_redo_11 : decode cX8_redo 11 = .ok (.getfield 32, 3) := by decide +kernel
theorem dX8_redo_14 : decode cX8_redo 14 = .ok (.if_icmp .ge 88, 3) := by decide +kernel
theorem dX8_redo_17 : decode cX8_redo 17 = .ok (.aload_n 0, 1) := by decide +kernel
theorem dX8_redo_18 : decode cX8_redo 18 = .ok (.getfield 22, 3) := by decide +kernel
theorem dX8_redo_21 : decode cX8_redo 21 = .ok (.iload_n 3, 1) := by decide +kernel
theorem dX8_redo_22 : decode cX8_redo 22 = .ok (.baload, 1) := by decide +kernel
theorem dX8_redo_23 : decode cX8_redo 23 = .ok (.ifCond .ne 6, 3) := by decide +kernel
theorem dX8_redo_26 : decode cX8_redo 26 = .ok (.goto 70, 3) := by decide +kernel
theorem dX8_redo_29 : decode cX8_redo 29 = .ok (.aload_n 0, 1) := by decide +kernel
theorem dX8_redo_30 : decode cX8_redo 30 = .ok (.getfield 18, 3) := by decide +kernel
theorem dX8_redo_33 : decode cX8_redo 33 = .ok (.aload_n 1, 1) := by decide +kernel
theorem dX8_redo_34 : decode cX8_redo 34 = .ok (.getfield 64, 3) := by decide +kernel
theorem dX8_redo_37 : decode cX8_redo 37 = .ok (.iload_n 3, 1) := by decide +kernel
theorem dX8_redo_38 : decode cX8_redo 38 = .ok (.invokevirtual 49, 3) := by decide +kernel
theorem dX8_redo_41 : decode cX8_redo 41 = .ok (.invokevirtual 67, 3) := by decide +kernel
theorem dX8_redo_44 : decode cX8_redo 44 = .ok (.aload_n 1, 1) := by decide +kernel
theorem dX8_redo_45 : decode cX8_redo 45 = .ok (.getfield 71, 3) := by decide +kernel
theorem dX8_redo_48 : decode cX8_redo 48 = .ok (.iload_n 3, 1) := by decide +kernel
theorem dX8_redo_49 : decode cX8_redo 49 = .ok (.invokevirtual 49, 3) := by decide +kernel
theorem dX8_redo_52 : decode cX8_redo 52 = .ok (.iconst 1, 1) := by decide +kernel
theorem dX8_redo_53 : decode cX8_redo 53 = .ok (.if_icmp .ne 36, 3) := by decide +kernel
theorem dX8_redo_56 : decode cX8_redo 56 = .ok (.aload_n 0, 1) := by decide +kernel
theorem dX8_redo_57 : decode cX8_redo 57 = .ok (.getfield 18, 3) := by decide +kernel
theorem dX8_redo_60 : decode cX8_redo 60 = .ok (.getfield 74, 3) := by decide +kernel
theorem dX8_redo_63 : decode cX8_redo 63 = .ok (.aload_n 1, 1) := by decide +kernel
theorem dX8_redo_64 : decode cX8_redo 64 = .ok (.getfield 45, 3) := by decide +kernel
theorem dX8_redo_67 : decode cX8_redo 67 = .ok (.iload_n 3, 1) := by decide +kernel
theorem dX8_redo_68 : decode cX8_redo 68 = .ok (.invokevirtual 49, 3) := by decide +kernel
theorem dX8_redo_71 : decode cX8_redo 71 = .ok (.aaload, 1) := by decide +kernel
theorem dX8_redo_72 : decode cX8_redo 72 = .ok (.getfield 77, 3) := by decide +kernel
theorem dX8_redo_75 : decode cX8_redo 75 = .ok (.aload_n 1, 1) := by decide +kernel
theorem dX8_redo_76 : decode cX8_redo 76 = .ok (.getfield 82, 3) := by decide +kernel
theorem dX8_redo_79 : decode cX8_redo 79 = .ok (.iload_n 3, 1) := by decide +kernel
theorem dX8_redo_80 : decode cX8_redo 80 = .ok (.invokevirtual 49, 3) := by decide +kernel
theorem dX8_redo_83 : decode cX8_redo 83 = .ok (.invokevirtual 85, 3) := by decide +kernel
theorem dX8_redo_86 : decode cX8_redo 86 = .ok (.goto 10, 3) := by decide +kernel
theorem dX8_redo_89 : decode cX8_redo 89 = .ok (.aload_n 0, 1) := by decide +kernel
theorem dX8_redo_90 : decode cX8_redo 90 = .ok (.getfield 18, 3) := by decide +kernel
theorem dX8_redo_93 : decode cX8_redo 93 = .ok (.invokevirtual 88, 3) := by decide +kernel
theorem dX8_redo_96 : decode cX8_redo 96 = .ok (.iinc 3 1, 3) := by decide +kernel
theorem dX8_redo_99 : decode cX8_redo 99 = .ok (.goto (-90), 3) := by decide +kernel
theorem dX8_redo_102 : decode cX8_redo 102 = .ok (.aload_n 0, 1) := by decide +kernel
theorem dX8_redo_103 : decode cX8_redo 103 = .ok (.getfield 18, 3) := by decide +kernel
theorem dX8_redo_106 : decode cX8_redo 106 = .ok (.iload_n 2, 1) := by decide +kernel
theorem dX8_redo_107 : decode cX8_redo 107 = .ok (.invokevirtual 67, 3) := by decide +kernel
theorem dX8_redo_110 : decode cX8_redo 110 = .ok (.return_, 1) := by decide +kernel
theorem dX9_init_0 : decode cX9_init 0 = .ok (.aload_n 0, 1) := by decide +kernel
theorem dX9_init_1 : decode cX9_init 1 = .ok (.invokespecial 1, 3) := by decide +kernel
theorem dX9_init_4 : decode cX9_init 4 = .ok (.aload_n 0, 1) := by decide +kernel
theorem dX9_init_5 : decode cX9_init 5 = .ok (.iconst 1, 1) := by decide +kernel
theorem dX9_init_6 : decode cX9_init 6 = .ok (.iload_n 1, 1) := by decide +kernel
theorem dX9_init_7 : decode cX9_init 7 = .ok (.invokestatic 7, 3) := by decide +kernel
theorem dX9_init_10 : decode cX9_init 10 = .ok (.newarray .int, 2) := by decide +kernel
theorem dX9_init_12 : decode cX9_init 12 = .ok (.putfield 13, 3) := by decide +kernel
theorem dX9_init_15 : decode cX9_init 15 = .ok (.return_, 1) := by decide +kernel
theorem dX9_add_0 : decode cX9_add 0 = .ok (.aload_n 0, 1) := by decide +kernel
theorem dX9_add_1 : decode cX9_add 1 = .ok (.getfield 19, 3) := by decide +kernel
theorem dX9_add_4 : decode cX9_add 4 = .ok (.aload_n 0, 1) := by decide +kernel
theorem dX9_add_5 : decode cX9_add 5 = .ok (.getfield 13, 3) := by decide +kernel
theorem dX9_add_8 : decode cX9_add 8 = .ok (.arraylength, 1) := by decide +kernel
theorem dX9_add_9 : decode cX9_add 9 = .ok (.if_icmp .ne 20, 3) := by decide +kernel
theorem dX9_add_12 : decode cX9_add 12 = .ok (.aload_n 0, 1) := by decide +kernel
theorem dX9_add_13 : decode cX9_add 13 = .ok (.aload_n 0, 1) := by decide +kernel
theorem dX9_add_14 : decode cX9_add 14 = .ok (.getfield 13, 3) := by decide +kernel
theorem dX9_add_17 : decode cX9_add 17 = .ok (.iconst 2, 1) := by decide +kernel
theorem dX9_add_18 : decode cX9_add 18 = .ok (.aload_n 0, 1) := by decide +kernel
theorem dX9_add_19 : decode cX9_add 19 = .ok (.getfield 19, 3) := by decide +kernel
theorem dX9_add_22 : decode cX9_add 22 = .ok (.imul, 1) := by decide +kernel
theorem dX9_add_23 : decode cX9_add 23 = .ok (.invokestatic 23, 3) := by decide +kernel
theorem dX9_add_26 : decode cX9_add 26 = .ok (.putfield 13, 3) := by decide +kernel
theorem dX9_add_29 : decode cX9_add 29 = .ok (.aload_n 0, 1) := by decide +kernel
theorem dX9_add_30 : decode cX9_add 30 = .ok (.getfield 13, 3) := by decide +kernel
theorem dX9_add_33 : decode cX9_add 33 = .ok (.aload_n 0, 1) := by decide +kernel
theorem dX9_add_34 : decode cX9_add 34 = .ok (.getfield 19, 3) := by decide +kernel
theorem dX9_add_37 : decode cX9_add 37 = .ok (.iload_n 1, 1) := by decide +kernel
theorem dX9_add_38 : decode cX9_add 38 = .ok (.iastore, 1) := by decide +kernel
theorem dX9_add_39 : decode cX9_add 39 = .ok (.aload_n 0, 1) := by decide +kernel
theorem dX9_add_40 : decode cX9_add 40 = .ok (.dup, 1) := by decide +kernel
theorem dX9_add_41 : decode cX9_add 41 = .ok (.getfield 19, 3) := by decide +kernel
theorem dX9_add_44 : decode cX9_add 44 = .ok (.iconst 1, 1) := by decide +kernel
theorem dX9_add_45 : decode cX9_add 45 = .ok (.iadd, 1) := by decide +kernel
theorem dX9_add_46 : decode cX9_add 46 = .ok (.putfield 19, 3) := by decide +kernel
theorem dX9_add_49 : decode cX9_add 49 = .ok (.return_, 1) := by decide +kernel
theorem dX9_get_0 : decode cX9_get 0 = .ok (.iload_n 1, 1) := by decide +kernel
theorem dX9_get_1 : decode cX9_get 1 = .ok (.ifCond .lt 20, 3) := by decide +kernel
theorem dX9_get_4 : decode cX9_get 4 = .ok (.iload_n 1, 1) := by decide +kernel
theorem dX9_get_5 : decode cX9_get 5 = .ok (.aload_n 0, 1) := by decide +kernel
theorem dX9_get_6 : decode cX9_get 6 = .ok (.getfield 19, 3) := by decide +kernel
theorem dX9_get_9 : decode cX9_get 9 = .ok (.if_icmp .ge 12, 3) := by decide +kernel
theorem dX9_get_12 : decode cX9_get 12 = .ok (.aload_n 0, 1) := by decide +kernel
theorem dX9_get_13 : decode cX9_get 13 = .ok (.getfield 13, 3) := by decide +kernel
theorem dX9_get_16 : decode cX9_get 16 = .ok (.iload_n 1, 1) := by decide +kernel
theorem dX9_get_17 : decode cX9_get 17 = .ok (.iaload, 1) := by decide +kernel
theorem dX9_get_18 : decode cX9_get 18 = .ok (.goto 4, 3) := by decide +kernel
theorem dX9_get_21 : decode cX9_get 21 = .ok (.iconst 0, 1) := by decide +kernel
theorem dX9_get_22 : decode cX9_get 22 = .ok (.ireturn, 1) := by decide +kernel
theorem dX9_removeFirst_0 : decode cX9_removeFirst 0 = .ok (.aload_n 0, 1) := by decide +kernel
theorem dX9_removeFirst_1 : decode cX9_removeFirst 1 = .ok (.getfield 19, 3) := by decide +kernel
theorem dX9_removeFirst_4 : decode cX9_removeFirst 4 = .ok (.ifCond .le 32, 3) := by decide +kernel
theorem dX9_removeFirst_7 : decode cX9_removeFirst 7 = .ok (.aload_n 0, 1) := by decide +kernel
theorem dX9_removeFirst_8 : decode cX9_removeFirst 8 = .ok (.getfield 13, 3) := by decide +kernel
theorem dX9_removeFirst_11 : decode cX9_removeFirst 11 = .ok (.iconst 1, 1) := by decide +kernel
theorem dX9_removeFirst_12 : decode cX9_removeFirst 12 = .ok (.aload_n 0, 1) := by decide +kernel
theorem dX9_removeFirst_13 : decode cX9_removeFirst 13 = .ok (.getfield 13, 3) := by decide +kernel
theorem dX9_removeFirst_16 : decode cX9_removeFirst 16 = .ok (.iconst 0, 1) := by decide +kernel
theorem dX9_removeFirst_17 : decode cX9_removeFirst 17 = .ok (.aload_n 0, 1) := by decide +kernel
theorem dX9_removeFirst_18 : decode cX9_removeFirst 18 = .ok (.getfield 19, 3) := by decide +kernel
theorem dX9_removeFirst_21 : decode cX9_removeFirst 21 = .ok (.iconst 1, 1) := by decide +kernel
theorem dX9_removeFirst_22 : decode cX9_removeFirst 22 = .ok (.isub, 1) := by decide +kernel
theorem dX9_removeFirst_23 : decode cX9_removeFirst 23 = .ok (.invokestatic 29, 3) := by decide +kernel
theorem dX9_removeFirst_26 : decode cX9_removeFirst 26 = .ok (.aload_n 0, 1) := by decide +kernel
theorem dX9_removeFirst_27 : decode cX9_removeFirst 27 = .ok (.dup, 1) := by decide +kernel
theorem dX9_removeFirst_28 : decode cX9_removeFirst 28 = .ok (.getfield 19, 3) := by decide +kernel
theorem dX9_removeFirst_31 : decode cX9_removeFirst 31 = .ok (.iconst 1, 1) := by decide +kernel
theorem dX9_removeFirst_32 : decode cX9_removeFirst 32 = .ok (.isub, 1) := by decide +kernel
theorem dX9_removeFirst_33 : decode cX9_removeFirst 33 = .ok (.putfield 19, 3) := by decide +kernel
theorem dX9_removeFirst_36 : decode cX9_removeFirst 36 = .ok (.return_, 1) := by decide +kernel
theorem dX9_clear_0 : decode cX9_clear 0 = .ok (.aload_n 0, 1) := by decide +kernel
theorem dX9_clear_1 : decode cX9_clear 1 = .ok (.iconst 0, 1) := by decide +kernel
theorem dX9_clear_2 : decode cX9_clear 2 = .ok (.putfield 19, 3) := by decide +kernel
theorem dX9_clear_5 : decode cX9_clear 5 = .ok (.return_, 1) := by decide +kernel
theorem dX9_isSame_0 : decode cX9_isSame 0 = .ok (.aload_n 0, 1) := by decide +kernel
theorem dX9_isSame_1 : decode cX9_isSame 1 = .ok (.getfield 19, 3) := by decide +kernel
theorem dX9_isSame_4 : decode cX9_isSame 4 = .ok (.aload_n 1, 1) := by decide +kernel
theorem dX9_isSame_5 : decode cX9_isSame 5 = .ok (.getfield 19, 3) := by decide +kernel
theorem dX9_isSame_8 : decode cX9_isSame 8 = .ok (.if_icmp .eq 5, 3) := by decide +kernel
theorem dX9_isSame_11 : decode cX9_isSame 11 = .ok (.iconst 0, 1) := by decide +kernel
theorem dX9_isSame_12 : decode cX9_isSame 12 = .ok (.ireturn, 1) := by decide +kernel
theorem dX9_isSame_13 : decode cX9_isSame 13 = .ok (.iconst 0, 1) := by decide +kernel
theorem dX9_isSame_14 : decode cX9_isSame 14 = .ok (.istore_n 2, 1) := by decide +kernel
theorem dX9_isSame_15 : decode cX9_isSame 15 = .ok (.iload_n 2, 1) := by decide +kernel
theorem dX9_isSame_16 : decode cX9_isSame 16 = .ok (.aload_n 0, 1) := by decide +kernel
theorem dX9_isSame_17 : decode cX9_isSame 17 = .ok (.getfield 19, 3) := by decide +kernel
theorem dX9_isSame_20 : decode cX9_isSame 20 = .ok (.if_icmp .ge 26, 3) := by decide +kernel
theorem dX9_isSame_23 : decode cX9_isSame 23 = .ok (.aload_n 0, 1) := by decide +kernel
theorem dX9_isSame_24 : decode cX9_isSame 24 = .ok (.getfield 13, 3) := by decide +kernel
theorem dX9_isSame_27 : decode cX9_isSame 27 = .ok (.iload_n 2, 1) := by decide +kernel
theorem dX9_isSame_28 : decode cX9_isSame 28 = .ok (.iaload, 1) := by decide +kernel
theorem dX9_isSame_29 : decode cX9_isSame 29 = .ok (.aload_n 1, 1) := by decide +kernel
theorem dX9_isSame_30 : decode cX9_isSame 30 = .ok (.getfield 13, 3) := by decide +kernel
theorem dX9_isSame_33 : decode cX9_isSame 33 = .ok (.iload_n 2, 1) := by decide +kernel
theorem dX9_isSame_34 : decode cX9_isSame 34 = .ok (.iaload, 1) := by decide +kernel
theorem dX9_isSame_35 : decode cX9_isSame 35 = .ok (.if_icmp .eq 5, 3) := by decide +kernel
theorem dX9_isSame_38 : decode cX9_isSame 38 = .ok (.iconst 0, 1) := by decide +kernel
theorem dX9_isSame_39 : decode cX9_isSame 39 = .ok (.ireturn, 1) := by decide +kernel
theorem dX9_isSame_40 : decode cX9_isSame 40 = .ok (.iinc 2 1, 3) := by decide +kernel
theorem dX9_isSame_43 : decode cX9_isSame 43 = .ok (.goto (-28), 3) := by decide +kernel
theorem dX9_isSame_46 : decode cX9_isSame 46 = .ok (.iconst 1, 1) := by decide +kernel
theorem dX9_isSame_47 : decode cX9_isSame 47 = .ok (.ireturn, 1) := by decide +kernel
theorem dX10_init_0 : decode cX10_init 0 = .ok (.aload_n 0, 1) := by decide +kernel
theorem dX10_init_1 : decode cX10_init 1 = .ok (.invokespecial 1, 3) := by decide +kernel
theorem dX10_init_4 : decode cX10_init 4 = .ok (.aload_n 0, 1) := by decide +kernel
theorem dX10_init_5 : decode cX10_init 5 = .ok (.new 7, 3) := by decide +kernel
theorem dX10_init_8 : decode cX10_init 8 = .ok (.dup, 1) := by decide +kernel
theorem dX10_init_9 : decode cX10_init 9 = .ok (.iconst 2, 1) := by decide +kernel
theorem dX10_init_10 : decode cX10_init 10 = .ok (.bipush 6, 2) := by decide +kernel
theorem dX10_init_12 : decode cX10_init 12 = .ok (.iload_n 1, 1) := by decide +kernel
theorem dX10_init_13 : decode cX10_init 13 = .ok (.invokestatic 11, 3) := by decide +kernel
theorem dX10_init_16 : decode cX10_init 16 = .ok (.invokestatic 17, 3) := by decide +kernel
theorem dX10_init_19 : decode cX10_init 19 = .ok (.invokespecial 20, 3) := by decide +kernel
theorem dX10_init_22 : decode cX10_init 22 = .ok (.putfield 23, 3) := by decide +kernel
theorem dX10_init_25 : decode cX10_init 25 = .ok (.aload_n 0, 1) := by decide +kernel
theorem dX10_init_26 : decode cX10_init 26 = .ok (.new 27, 3) := by decide +kernel
theorem dX10_init_29 : decode cX10_init 29 = .ok (.dup, 1) := by decide +kernel
theorem dX10_init_30 : decode cX10_init 30 = .ok (.aload_n 0, 1) := by decide +kernel
theorem dX10_init_31 : decode cX10_init 31 = .ok (.getfield 23, 3) := by decide +kernel
theorem dX10_init_34 : decode cX10_init 34 = .ok (.invokespecial 29, 3) := by decide +kernel
theorem dX10_init_37 : decode cX10_init 37 = .ok (.putfield 32, 3) := by decide +kernel
theorem dX10_init_40 : decode cX10_init 40 = .ok (.aload_n 0, 1) := by decide +kernel
theorem dX10_init_41 : decode cX10_init 41 = .ok (.new 36, 3) := by decide +kernel
theorem dX10_init_44 : decode cX10_init 44 = .ok (.dup, 1) := by decide +kernel
theorem dX10_init_45 : decode cX10_init 45 = .ok (.invokespecial 38, 3) := by decide +kernel
theorem dX10_init_48 : decode cX10_init 48 = .ok (.putfield 39, 3) := by decide +kernel
theorem dX10_init_51 : decode cX10_init 51 = .ok (.return_, 1) := by decide +kernel
theorem dX10_flow_0 : decode cX10_flow 0 = .ok (.aload_n 0, 1) := by decide +kernel
theorem dX10_flow_1 : decode cX10_flow 1 = .ok (.getfield 23, 3) := by decide +kernel
theorem dX10_flow_4 : decode cX10_flow 4 = .ok (.getfield 43, 3) := by decide +kernel
theorem dX10_flow_7 : decode cX10_flow 7 = .ok (.ifCond .ne 30, 3) := by decide +kernel
theorem dX10_flow_10 : decode cX10_flow 10 = .ok (.aload_n 0, 1) := by decide +kernel
theorem dX10_flow_11 : decode cX10_flow 11 = .ok (.getfield 23, 3) := by decide +kernel
theorem dX10_flow_14 : decode cX10_flow 14 = .ok (.iload_n 1, 1) := by decide +kernel
theorem dX10_flow_15 : decode cX10_flow 15 = .ok (.invokevirtual 47, 3) := by decide +kernel
theorem dX10_flow_18 : decode cX10_flow 18 = .ok (.ifCond .eq 19, 3) := by decide +kernel
theorem dX10_flow_21 : decode cX10_flow 21 = .ok (.aload_n 0, 1) := by decide +kernel
theorem dX10_flow_22 : decode cX10_flow 22 = .ok (.getfield 23, 3) := by decide +kernel
theorem dX10_flow_25 : decode cX10_flow 25 = .ok (.iload_n 2, 1) := by decide +kernel
theorem dX10_flow_26 : decode cX10_flow 26 = .ok (.invokevirtual 47, 3) := by decide +kernel
theorem dX10_flow_29 : decode cX10_flow 29 = .ok (.ifCond .eq 8, 3) := by decide +kernel
theorem dX10_flow_32 : decode cX10_flow 32 = .ok (.iload_n 1, 1) := by decide +kernel
theorem dX10_flow_33 : decode cX10_flow 33 = .ok (.iload_n 2, 1) := by decide +kernel
theorem dX10_flow_34 : decode cX10_flow 34 = .ok (.if_icmp .ne 5, 3) := by decide +kernel
theorem dX10_flow_37 : decode cX10_flow 37 = .ok (.iconst 0, 1) := by decide +kernel
theorem dX10_flow_38 : decode cX10_flow 38 = .ok (.ireturn, 1) := by decide +kernel
theorem dX10_flow_39 : decode cX10_flow 39 = .ok (.iload_n 3, 1) := by decide +kernel
theorem dX10_flow_40 : decode cX10_flow 40 = .ok (.ifCond .ne 17, 3) := by decide +kernel
theorem dX10_flow_43 : decode cX10_flow 43 = .ok (.aload_n 0, 1) := by decide +kernel
theorem dX10_flow_44 : decode cX10_flow 44 = .ok (.getfield 23, 3) := by decide +kernel
theorem dX10_flow_47 : decode cX10_flow 47 = .ok (.iload_n 1, 1) := by decide +kernel
theorem dX10_flow_48 : decode cX10_flow 48 = .ok (.iload_n 2, 1) := by decide +kernel
theorem dX10_flow_49 : decode cX10_flow 49 = .ok (.invokevirtual 51, 3) := by decide +kernel
theorem dX10_flow_52 : decode cX10_flow 52 = .ok (.ifCond .eq 5, 3) := by decide +kernel
theorem dX10_flow_55 : decode cX10_flow 55 = .ok (.iconst 0, 1) := by decide +kernel
theorem dX10_flow_56 : decode cX10_flow 56 = .ok (.ireturn, 1) := by decide +kernel
theorem dX10_flow_57 : decode cX10_flow 57 = .ok (.aload_n 0, 1) := by decide +kernel
theorem dX10_flow_58 : decode cX10_flow 58 = .ok (.getfield 23, 3) := by decide +kernel
theorem dX10_flow_61 : decode cX10_flow 61 = .ok (.iload_n 1, 1) := by decide +kernel
theorem dX10_flow_62 : decode cX10_flow 62 = .ok (.iload_n 2, 1) := by decide +kernel
theorem dX10_flow_63 : decode cX10_flow 63 = .ok (.iload_n 3, 1) := by decide +kernel
theorem dX10_flow_64 : decode cX10_flow 64 = .ok (.invokevirtual 55, 3) := by decide +kernel
theorem dX10_flow_67 : decode cX10_flow 67 = .ok (.iconst 1, 1) := by decide +kernel
theorem dX10_flow_68 : decode cX10_flow 68 = .ok (.ireturn, 1) := by decide +kernel
theorem dX10_channel_0 : decode cX10_channel 0 = .ok (.aload_n 0, 1) := by decide +kernel
theorem dX10_channel_1 : decode cX10_channel 1 = .ok (.getfield 23, 3) := by decide +kernel
theorem dX10_channel_4 : decode cX10_channel 4 = .ok (.getfield 43, 3) := by decide +kernel
theorem dX10_channel_7 : decode cX10_channel 7 = .ok (.ifCond .ne 30, 3) := by decide +kernel
theorem dX10_channel_10 : decode cX10_channel 10 = .ok (.aload_n 0, 1) := by decide +kernel
theorem dX10_channel_11 : decode cX10_channel 11 = .ok (.getfield 23, 3) := by decide +kernel
theorem dX10_channel_14 : decode cX10_channel 14 = .ok (.iload_n 1, 1) := by decide +kernel
theorem dX10_channel_15 : decode cX10_channel 15 = .ok (.invokevirtual 47, 3) := by decide +kernel
theorem dX10_channel_18 : decode cX10_channel 18 = .ok (.ifCond .eq 19, 3) := by decide +kernel
theorem dX10_channel_21 : decode cX10_channel 21 = .ok (.aload_n 0, 1) := by decide +kernel
theorem dX10_channel_22 : decode cX10_channel 22 = .ok (.getfield 23, 3) := by decide +kernel
theorem dX10_channel_25 : decode cX10_channel 25 = .ok (.iload_n 2, 1) := by decide +kernel
theorem dX10_channel_26 : decode cX10_channel 26 = .ok (.invokevirtual 47, 3) := by decide +kernel
theorem dX10_channel_29 : decode cX10_channel 29 = .ok (.ifCond .eq 8, 3) := by decide +kernel
theorem dX10_channel_32 : decode cX10_channel 32 = .ok (.iload_n 1, 1) := by decide +kernel
theorem dX10_channel_33 : decode cX10_channel 33 = .ok (.iload_n 2, 1) := by decide +kernel
theorem dX10_channel_34 : decode cX10_channel 34 = .ok (.if_icmp .ne 5, 3) := by decide +kernel
theorem dX10_channel_37 : decode cX10_channel 37 = .ok (.iconst (-1), 1) := by decide +kernel
theorem dX10_channel_38 : decode cX10_channel 38 = .ok (.ireturn, 1) := by decide +kernel
theorem dX10_channel_39 : decode cX10_channel 39 = .ok (.aload_n 0, 1) := by decide +kernel
theorem dX10_channel_40 : decode cX10_channel 40 = .ok (.getfield 23, 3) := by decide +kernel
theorem dX10_channel_43 : decode cX10_channel 43 = .ok (.iload_n 1, 1) := by decide +kernel
theorem dX10_channel_44 : decode cX10_channel 44 = .ok (.iload_n 2, 1) := by decide +kernel
theorem dX10_channel_45 : decode cX10_channel 45 = .ok (.invokevirtual 59, 3) := by decide +kernel
theorem dX10_channel_48 : decode cX10_channel 48 = .ok (.ifCond .eq 27, 3) := by decide +kernel
theorem dX10_channel_51 : decode cX10_channel 51 = .ok (.iload 4, 2) := by decide +kernel
theorem dX10_channel_53 : decode cX10_channel 53 = .ok (.iconst 1, 1) := by decide +kernel
theorem dX10_channel_54 : decode cX10_channel 54 = .ok (.if_icmp .lt 21, 3) := by decide +kernel
theorem dX10_channel_57 : decode cX10_channel 57 = .ok (.iload 4, 2) := by decide +kernel
theorem dX10_channel_59 : decode cX10_channel 59 = .ok (.iconst 4, 1) := by decide +kernel
theorem dX10_channel_60 : decode cX10_channel 60 = .ok (.if_icmp .gt 15, 3) := by decide +kernel
theorem dX10_channel_63 : decode cX10_channel 63 = .ok (.aload_n 0, 1) := by decide +kernel
theorem dX10_channel_64 : decode cX10_channel 64 = .ok (.getfield 23, 3) := by decide +kernel
theorem dX10_channel_67 : decode cX10_channel 67 = .ok (.getfield 62, 3) := by decide +kernel
theorem dX10_channel_70 : decode cX10_channel 70 = .ok (.bipush 12, 2) := by decide +kernel
theorem dX10_channel_72 : decode cX10_channel 72 = .ok (.if_icmp .ne 5, 3) := by decide +kernel
theorem dX10_channel_75 : decode cX10_channel 75 = .ok (.iconst (-1), 1) := by decide +kernel
theorem dX10_channel_76 : decode cX10_channel 76 = .ok (.ireturn, 1) := by decide +kernel
theorem dX10_channel_77 : decode cX10_channel 77 = .ok (.new 66, 3) := by decide +kernel
theorem dX10_channel_80 : decode cX10_channel 80 = .ok (.dup, 1) := by decide +kernel
theorem dX10_channel_81 : decode cX10_channel 81 = .ok (.iload_n 1, 1) := by decide +kernel
theorem dX10_channel_82 : decode cX10_channel 82 = .ok (.iload_n 2, 1) := by decide +kernel
theorem dX10_channel_83 : decode cX10_channel 83 = .ok (.iload_n 3, 1) := by decide +kernel
theorem dX10_channel_84 : decode cX10_channel 84 = .ok (.iload 4, 2) := by decide +kernel
theorem dX10_channel_86 : decode cX10_channel 86 = .ok (.invokespecial 68, 3) := by decide +kernel
theorem dX10_channel_89 : decode cX10_channel 89 = .ok (.astore 5, 2) := by decide +kernel
theorem dX10_channel_91 : decode cX10_channel 91 = .ok (.aload_n 0, 1) := by decide +kernel
theorem dX10_channel_92 : decode cX10_channel 92 = .ok (.getfield 23, 3) := by decide +kernel
theorem dX10_channel_95 : decode cX10_channel 95 = .ok (.getfield 71, 3) := by decide +kernel
theorem dX10_channel_98 : decode cX10_channel 98 = .ok (.aload_n 0, 1) := by decide +kernel
theorem dX10_channel_99 : decode cX10_channel 99 = .ok (.getfield 23, 3) := by decide +kernel
theorem dX10_channel_102 : decode cX10_channel 102 = .ok (.getfield 62, 3) := by decide +kernel
theorem dX10_channel_105 : decode cX10_channel 105 = .ok (.aload 5, 2) := by decide +kernel
theorem dX10_channel_107 : decode cX10_channel 107 = .ok (.aastore, 1) := by decide +kernel
theorem dX10_channel_108 : decode cX10_channel 108 = .ok (.aload_n 0, 1) := by decide +kernel
theorem dX10_channel_109 : decode cX10_channel 109 = .ok (.getfield 32, 3) := by decide +kernel
theorem dX10_channel_112 : decode cX10_channel 112 = .ok (.getfield 75, 3) := by decide +kernel
theorem dX10_channel_115 : decode cX10_channel 115 = .ok (.aload_n 0, 1) := by decide +kernel
theorem dX10_channel_116 : decode cX10_channel 116 = .ok (.getfield 23, 3) := by decide +kernel
theorem dX10_channel_119 : decode cX10_channel 119 = .ok (.getfield 62, 3) := by decide +kernel
theorem dX10_channel_122 : decode cX10_channel 122 = .ok (.new 79, 3) := by decide +kernel
theorem dX10_channel_125 : decode cX10_channel 125 = .ok (.dup, 1) := by decide +kernel
theorem dX10_channel_126 : decode cX10_channel 126 = .ok (.aload 5, 2) := by decide +kernel
theorem dX10_channel_128 : decode cX10_channel 128 = .ok (.invokespecial 81, 3) := by decide +kernel
theorem dX10_channel_131 : decode cX10_channel 131 = .ok (.aastore, 1) := by decide +kernel
theorem dX10_channel_132 : decode cX10_channel 132 = .ok (.aload_n 0, 1) := by decide +kernel
theorem dX10_channel_133 : decode cX10_channel 133 = .ok (.getfield 23, 3) := by decide +kernel
theorem dX10_channel_136 : decode cX10_channel 136 = .ok (.dup, 1) := by decide +kernel
theorem dX10_channel_137 : decode cX10_channel 137 = .ok (.getfield 62, 3) := by decide +kernel
theorem dX10_channel_140 : decode cX10_channel 140 = .ok (.iconst 1, 1) := by decide +kernel
theorem dX10_channel_141 : decode cX10_channel 141 = .ok (.iadd, 1) := by decide +kernel
theorem dX10_channel_142 : decode cX10_channel 142 = .ok (.putfield 62, 3) := by decide +kernel
theorem dX10_channel_145 : decode cX10_channel 145 = .ok (.aload_n 0, 1) := by decide +kernel
theorem dX10_channel_146 : decode cX10_channel 146 = .ok (.getfield 23, 3) := by decide +kernel
theorem dX10_channel_149 : decode cX10_channel 149 = .ok (.getfield 62, 3) := by decide +kernel
theorem dX10_channel_152 : decode cX10_channel 152 = .ok (.iconst 1, 1) := by decide +kernel
theorem dX10_channel_153 : decode cX10_channel 153 = .ok (.isub, 1) := by decide +kernel
theorem dX10_channel_154 : decode cX10_channel 154 = .ok (.ireturn, 1) := by decide +kernel
theorem dX10_code_0 : decode cX10_code 0 = .ok (.aload_n 0, 1) := by decide +kernel
theorem dX10_code_1 : decode cX10_code 1 = .ok (.getfield 23, 3) := by decide +kernel
theorem dX10_code_4 : decode cX10_code 4 = .ok (.getfield 43, 3) := by decide +kernel
theorem dX10_code_7 : decode cX10_code 7 = .ok (.ifCond .ne 31, 3) := by decide +kernel
theorem dX10_code_10 : decode cX10_code 10 = .ok (.aload_n 0, 1) := by decide +kernel
theorem dX10_code_11 : decode cX10_code 11 = .ok (.getfield 23, 3) := by decide +kernel
theorem dX10_code_14 : decode cX10_code 14 = .ok (.iload_n 1, 1) := by decide +kernel
theorem dX10_code_15 : decode cX10_code 15 = .ok (.invokevirtual 47, 3) := by decide +kernel
theorem dX10_code_18 : decode cX10_code 18 = .ok (.ifCond .eq 20, 3) := by decide +kernel
theorem dX10_code_21 : decode cX10_code 21 = .ok (.aload_n 0, 1) := by decide +kernel
theorem dX10_code_22 : decode cX10_code 22 = .ok (.getfield 23, 3) := by decide +kernel
theorem dX10_code_25 : decode cX10_code 25 = .ok (.getfield 84, 3) := by decide +kernel
theorem dX10_code_28 : decode cX10_code 28 = .ok (.iload_n 1, 1) := by decide +kernel
theorem dX10_code_29 : decode cX10_code 29 = .ok (.aaload, 1) := by decide +kernel
theorem dX10_code_30 : decode cX10_code 30 = .ok (.getfield 88, 3) := by decide +kernel
theorem dX10_code_33 : decode cX10_code 33 = .ok (.bipush 64, 2) := by decide +kernel
theorem dX10_code_35 : decode cX10_code 35 = .ok (.if_icmp .ne 5, 3) := by decide +kernel
theorem dX10_code_38 : decode cX10_code 38 = .ok (.iconst (-1), 1) := by decide +kernel
theorem dX10_code_39 : decode cX10_code 39 = .ok (.ireturn, 1) := by decide +kernel
theorem dX10_code_40 : decode cX10_code 40 = .ok (.aload_n 0, 1) := by decide +kernel
theorem dX10_code_41 : decode cX10_code 41 = .ok (.getfield 23, 3) := by decide +kernel
theorem dX10_code_44 : decode cX10_code 44 = .ok (.getfield 84, 3) := by decide +kernel
theorem dX10_code_47 : decode cX10_code 47 = .ok (.iload_n 1, 1) := by decide +kernel
theorem dX10_code_48 : decode cX10_code 48 = .ok (.aaload, 1) := by decide +kernel
theorem dX10_code_49 : decode cX10_code 49 = .ok (.iload_n 2, 1) := by decide +kernel
theorem dX10_code_50 : decode cX10_code 50 = .ok (.invokevirtual 93, 3) := by decide +kernel
theorem dX10_code_53 : decode cX10_code 53 = .ok (.aload_n 0, 1) := by decide +kernel
theorem dX10_code_54 : decode cX10_code 54 = .ok (.getfield 23, 3) := by decide +kernel
theorem dX10_code_57 : decode cX10_code 57 = .ok (.getfield 84, 3) := by decide +kernel
theorem dX10_code_60 : decode cX10_code 60 = .ok (.iload_n 1, 1) := by decide +kernel
theorem dX10_code_61 : decode cX10_code 61 = .ok (.aaload, 1) := by decide +kernel
theorem dX10_code_62 : decode cX10_code 62 = .ok (.getfield 88, 3) := by decide +kernel
theorem dX10_code_65 : decode cX10_code 65 = .ok (.ireturn, 1) := by decide +kernel
theorem dX10_onFail_0 : decode cX10_onFail 0 = .ok (.aload_n 0, 1) := by decide +kernel
theorem dX10_onFail_1 : decode cX10_onFail 1 = .ok (.getfield 23, 3) := by decide +kernel
theorem dX10_onFail_4 : decode cX10_onFail 4 = .ok (.getfield 43, 3) := by decide +kernel
theorem dX10_onFail_7 : decode cX10_onFail 7 = .ok (.ifCond .ne 23, 3) := by decide +kernel
theorem dX10_onFail_10 : decode cX10_onFail 10 = .ok (.aload_n 0, 1) := by decide +kernel
theorem dX10_onFail_11 : decode cX10_onFail 11 = .ok (.getfield 23, 3) := by decide +kernel
theorem dX10_onFail_14 : decode cX10_onFail 14 = .ok (.iload_n 1, 1) := by decide +kernel
theorem dX10_onFail_15 : decode cX10_onFail 15 = .ok (.invokevirtual 47, 3) := by decide +kernel
theorem dX10_onFail_18 : decode cX10_onFail 18 = .ok (.ifCond .eq 12, 3) := by decide +kernel
theorem dX10_onFail_21 : decode cX10_onFail 21 = .ok (.iload_n 2, 1) := by decide +kernel
theorem dX10_onFail_22 : decode cX10_onFail 22 = .ok (.ifCond .lt 8, 3) := by decide +kernel
theorem dX10_onFail_25 : decode cX10_onFail 25 = .ok (.iload_n 2, 1) := by decide +kernel
theorem dX10_onFail_26 : decode cX10_onFail 26 = .ok (.iconst 2, 1) := by decide +kernel
theorem dX10_onFail_27 : decode cX10_onFail 27 = .ok (.if_icmp .le 5, 3) := by decide +kernel
theorem dX10_onFail_30 : decode cX10_onFail 30 = .ok (.iconst 0, 1) := by decide +kernel
theorem dX10_onFail_31 : decode cX10_onFail 31 = .ok (.ireturn, 1) := by decide +kernel
theorem dX10_onFail_32 : decode cX10_onFail 32 = .ok (.aload_n 0, 1) := by decide +kernel
theorem dX10_onFail_33 : decode cX10_onFail 33 = .ok (.getfield 23, 3) := by decide +kernel
theorem dX10_onFail_36 : decode cX10_onFail 36 = .ok (.getfield 96, 3) := by decide +kernel
theorem dX10_onFail_39 : decode cX10_onFail 39 = .ok (.iload_n 1, 1) := by decide +kernel
theorem dX10_onFail_40 : decode cX10_onFail 40 = .ok (.iload_n 2, 1) := by decide +kernel
theorem dX10_onFail_41 : decode cX10_onFail 41 = .ok (.iastore, 1) := by decide +kernel
theorem dX10_onFail_42 : decode cX10_onFail 42 = .ok (.iconst 1, 1) := by decide +kernel
theorem dX10_onFail_43 : decode cX10_onFail 43 = .ok (.ireturn, 1) := by decide +kernel
theorem dX10_slot_0 : decode cX10_slot 0 = .ok (.aload_n 0, 1) := by decide +kernel
theorem dX10_slot_1 : decode cX10_slot 1 = .ok (.getfield 23, 3) := by decide +kernel
theorem dX10_slot_4 : decode cX10_slot 4 = .ok (.getfield 43, 3) := by decide +kernel
theorem dX10_slot_7 : decode cX10_slot 7 = .ok (.ifCond .ne 21, 3) := by decide +kernel
theorem dX10_slot_10 : decode cX10_slot 10 = .ok (.iload_n 1, 1) := by decide +kernel
theorem dX10_slot_11 : decode cX10_slot 11 = .ok (.invokestatic 100, 3) := by decide +kernel
theorem dX10_slot_14 : decode cX10_slot 14 = .ok (.ifCond .eq 14, 3) := by decide +kernel
theorem dX10_slot_17 : decode cX10_slot 17 = .ok (.aload_n 0, 1) := by decide +kernel
theorem dX10_slot_18 : decode cX10_slot 18 = .ok (.getfield 23, 3) := by decide +kernel
theorem dX10_slot_21 : decode cX10_slot 21 = .ok (.iload_n 2, 1) := by decide +kernel
theorem dX10_slot_22 : decode cX10_slot 22 = .ok (.invokevirtual 47, 3) := by decide +kernel
theorem dX10_slot_25 : decode cX10_slot 25 = .ok (.ifCond .ne 5, 3) := by decide +kernel
theorem dX10_slot_28 : decode cX10_slot 28 = .ok (.iconst (-1), 1) := by decide +kernel
theorem dX10_slot_29 : decode cX10_slot 29 = .ok (.ireturn, 1) := by decide +kernel
theorem dX10_slot_30 : decode cX10_slot 30 = .ok (.iload_n 3, 1) := by decide +kernel
theorem dX10_slot_31 : decode cX10_slot 31 = .ok (.iconst 1, 1) := by decide +kernel
theorem dX10_slot_32 : decode cX10_slot 32 = .ok (.if_icmp .lt 26, 3) := by decide +kernel
theorem dX10_slot_35 : decode cX10_slot 35 = .ok (.iload_n 3, 1) := by decide +kernel
theorem dX10_slot_36 : decode cX10_slot 36 = .ok (.bipush 20, 2) := by decide +kernel
theorem dX10_slot_38 : decode cX10_slot 38 = .ok (.if_icmp .gt 20, 3) := by decide +kernel
theorem dX10_slot_41 : decode cX10_slot 41 = .ok (.aload_n 0, 1) := by decide +kernel
theorem dX10_slot_42 : decode cX10_slot 42 = .ok (.getfield 23, 3) := by decide +kernel
theorem dX10_slot_45 : decode cX10_slot 45 = .ok (.getfield 103, 3) := by decide +kernel
theorem dX10_slot_48 : decode cX10_slot 48 = .ok (.iload_n 1, 1) := by decide +kernel
theorem dX10_slot_49 : decode cX10_slot 49 = .ok (.aaload, 1) := by decide +kernel
theorem dX10_slot_50 : decode cX10_slot 50 = .ok (.getfield 88, 3) := by decide +kernel
theorem dX10_slot_53 : decode cX10_slot 53 = .ok (.bipush 12, 2) := by decide +kernel
theorem dX10_slot_55 : decode cX10_slot 55 = .ok (.if_icmp .ne 5, 3) := by decide +kernel
theorem dX10_slot_58 : decode cX10_slot 58 = .ok (.iconst (-1), 1) := by decide +kernel
theorem dX10_slot_59 : decode cX10_slot 59 = .ok (.ireturn, 1) := by decide +kernel
theorem dX10_slot_60 : decode cX10_slot 60 = .ok (.aload_n 0, 1) := by decide +kernel
theorem dX10_slot_61 : decode cX10_slot 61 = .ok (.getfield 23, 3) := by decide +kernel
theorem dX10_slot_64 : decode cX10_slot 64 = .ok (.getfield 106, 3) := by decide +kernel
theorem dX10_slot_67 : decode cX10_slot 67 = .ok (.iload_n 1, 1) := by decide +kernel
theorem dX10_slot_68 : decode cX10_slot 68 = .ok (.aaload, 1) := by decide +kernel
theorem dX10_slot_69 : decode cX10_slot 69 = .ok (.iload_n 2, 1) := by decide +kernel
theorem dX10_slot_70 : decode cX10_slot 70 = .ok (.invokevirtual 93, 3) := by decide +kernel
theorem dX10_slot_73 : decode cX10_slot 73 = .ok (.aload_n 0, 1) := by decide +kernel
theorem dX10_slot_74 : decode cX10_slot 74 = .ok (.getfield 23, 3) := by decide +kernel
theorem dX10_slot_77 : decode cX10_slot 77 = .ok (.getfield 103, 3) := by decide +kernel
theorem dX10_slot_80 : decode cX10_slot 80 = .ok (.iload_n 1, 1) := by decide +kernel
theorem dX10_slot_81 : decode cX10_slot 81 = .ok (.aaload, 1) := by decide +kernel
theorem dX10_slot_82 : decode cX10_slot 82 = .ok (.iload_n 3, 1) := by decide +kernel
theorem dX10_slot_83 : decode cX10_slot 83 = .ok (.invokevirtual 93, 3) := by decide +kernel
theorem dX10_slot_86 : decode cX10_slot 86 = .ok (.aload_n 0, 1) := by decide +kernel
theorem dX10_slot_87 : decode cX10_slot 87 = .ok (.getfield 23, 3) := by decide +kernel
theorem dX10_slot_90 : decode cX10_slot 90 = .ok (.getfield 103, 3) := by decide +kernel
theorem dX10_slot_93 : decode cX10_slot 93 = .ok (.iload_n 1, 1) := by decide +kernel
theorem dX10_slot_94 : decode cX10_slot 94 = .ok (.aaload, 1) := by decide +kernel
theorem dX10_slot_95 : decode cX10_slot 95 = .ok (.getfield 88, 3) := by decide +kernel
theorem dX10_slot_98 : decode cX10_slot 98 = .ok (.ireturn, 1) := by decide +kernel
theorem dX10_seal_0 : decode cX10_seal 0 = .ok (.aload_n 0, 1) := by decide +kernel
theorem dX10_seal_1 : decode cX10_seal 1 = .ok (.getfield 23, 3) := by decide +kernel
theorem dX10_seal_4 : decode cX10_seal 4 = .ok (.getfield 43, 3) := by decide +kernel
theorem dX10_seal_7 : decode cX10_seal 7 = .ok (.ifCond .ne 18, 3) := by decide +kernel
theorem dX10_seal_10 : decode cX10_seal 10 = .ok (.aload_n 0, 1) := by decide +kernel
theorem dX10_seal_11 : decode cX10_seal 11 = .ok (.getfield 23, 3) := by decide +kernel
theorem dX10_seal_14 : decode cX10_seal 14 = .ok (.getfield 103, 3) := by decide +kernel
theorem dX10_seal_17 : decode cX10_seal 17 = .ok (.iconst 0, 1) := by decide +kernel
theorem dX10_seal_18 : decode cX10_seal 18 = .ok (.aaload, 1) := by decide +kernel
theorem dX10_seal_19 : decode cX10_seal 19 = .ok (.getfield 88, 3) := by decide +kernel
theorem dX10_seal_22 : decode cX10_seal 22 = .ok (.ifCond .ne 5, 3) := by decide +kernel
theorem dX10_seal_25 : decode cX10_seal 25 = .ok (.iconst (-1), 1) := by decide +kernel
theorem dX10_seal_26 : decode cX10_seal 26 = .ok (.ireturn, 1) := by decide +kernel
theorem dX10_seal_27 : decode cX10_seal 27 = .ok (.aload_n 0, 1) := by decide +kernel
theorem dX10_seal_28 : decode cX10_seal 28 = .ok (.getfield 23, 3) := by decide +kernel
theorem dX10_seal_31 : decode cX10_seal 31 = .ok (.iconst 1, 1) := by decide +kernel
theorem dX10_seal_32 : decode cX10_seal 32 = .ok (.putfield 43, 3) := by decide +kernel
theorem dX10_seal_35 : decode cX10_seal 35 = .ok (.aload_n 0, 1) := by decide +kernel
theorem dX10_seal_36 : decode cX10_seal 36 = .ok (.getfield 32, 3) := by decide +kernel
theorem dX10_seal_39 : decode cX10_seal 39 = .ok (.getfield 109, 3) := by decide +kernel
theorem dX10_seal_42 : decode cX10_seal 42 = .ok (.invokevirtual 113, 3) := by decide +kernel
theorem dX10_seal_45 : decode cX10_seal 45 = .ok (.iconst 1, 1) := by decide +kernel
theorem dX10_seal_46 : decode cX10_seal 46 = .ok (.ireturn, 1) := by decide +kernel
theorem dX10_input_0 : decode cX10_input 0 = .ok (.aload_n 0, 1) := by decide +kernel
theorem dX10_input_1 : decode cX10_input 1 = .ok (.getfield 23, 3) := by decide +kernel
theorem dX10_input_4 : decode cX10_input 4 = .ok (.getfield 43, 3) := by decide +kernel
theorem dX10_input_7 : decode cX10_input 7 = .ok (.ifCond .eq 27, 3) := by decide +kernel
theorem dX10_input_10 : decode cX10_input 10 = .ok (.aload_n 0, 1) := by decide +kernel
theorem dX10_input_11 : decode cX10_input 11 = .ok (.getfield 23, 3) := by decide +kernel
theorem dX10_input_14 : decode cX10_input 14 = .ok (.iload_n 1, 1) := by decide +kernel
theorem dX10_input_15 : decode cX10_input 15 = .ok (.invokevirtual 47, 3) := by decide +kernel
theorem dX10_input_18 : decode cX10_input 18 = .ok (.ifCond .eq 16, 3) := by decide +kernel
theorem dX10_input_21 : decode cX10_input 21 = .ok (.aload_n 0, 1) := by decide +kernel
theorem dX10_input_22 : decode cX10_input 22 = .ok (.getfield 39, 3) := by decide +kernel
theorem dX10_input_25 : decode cX10_input 25 = .ok (.invokevirtual 118, 3) := by decide +kernel
theorem dX10_input_28 : decode cX10_input 28 = .ok (.sipush 3000, 3) := by decide +kernel
theorem dX10_input_31 : decode cX10_input 31 = .ok (.if_icmp .ne 5, 3) := by decide +kernel
theorem dX10_input_34 : decode cX10_input 34 = .ok (.iconst (-1), 1) := by decide +kernel
theorem dX10_input_35 : decode cX10_input 35 = .ok (.ireturn, 1) := by decide +kernel
theorem dX10_input_36 : decode cX10_input 36 = .ok (.aload_n 0, 1) := by decide +kernel
theorem dX10_input_37 : decode cX10_input 37 = .ok (.getfield 32, 3) := by decide +kernel
theorem dX10_input_40 : decode cX10_input 40 = .ok (.getfield 122, 3) := by decide +kernel
theorem dX10_input_43 : decode cX10_input 43 = .ok (.iload_n 1, 1) := by decide +kernel
theorem dX10_input_44 : decode cX10_input 44 = .ok (.aaload, 1) := by decide +kernel
theorem dX10_input_45 : decode cX10_input 45 = .ok (.getfield 126, 3) := by decide +kernel
theorem dX10_input_48 : decode cX10_input 48 = .ok (.astore_n 3, 1) := by decide +kernel
theorem dX10_input_49 : decode cX10_input 49 = .ok (.aload_n 3, 1) := by decide +kernel
theorem dX10_input_50 : decode cX10_input 50 = .ok (.getfield 88, 3) := by decide +kernel
theorem dX10_input_53 : decode cX10_input 53 = .ok (.bipush 8, 2) := by decide +kernel
theorem dX10_input_55 : decode cX10_input 55 = .ok (.if_icmp .ne 5, 3) := by decide +kernel
theorem dX10_input_58 : decode cX10_input 58 = .ok (.iconst (-1), 1) := by decide +kernel
theorem dX10_input_59 : decode cX10_input 59 = .ok (.ireturn, 1) := by decide +kernel
theorem dX10_input_60 : decode cX10_input 60 = .ok (.aload_n 0, 1) := by decide +kernel
theorem dX10_input_61 : decode cX10_input 61 = .ok (.getfield 39, 3) := by decide +kernel
theorem dX10_input_64 : decode cX10_input 64 = .ok (.iload_n 1, 1) := by decide +kernel
theorem dX10_input_65 : decode cX10_input 65 = .ok (.iconst 1, 1) := by decide +kernel
theorem dX10_input_66 : decode cX10_input 66 = .ok (.aload_n 0, 1) := by decide +kernel
theorem dX10_input_67 : decode cX10_input 67 = .ok (.getfield 32, 3) := by decide +kernel
theorem dX10_input_70 : decode cX10_input 70 = .ok (.getfield 109, 3) := by decide +kernel
theorem dX10_input_73 : decode cX10_input 73 = .ok (.getfield 132, 3) := by decide +kernel
theorem dX10_input_76 : decode cX10_input 76 = .ok (.iload_n 2, 1) := by decide +kernel
theorem dX10_input_77 : decode cX10_input 77 = .ok (.invokevirtual 135, 3) := by decide +kernel
theorem dX10_input_80 : decode cX10_input 80 = .ok (.aload_n 3, 1) := by decide +kernel
theorem dX10_input_81 : decode cX10_input 81 = .ok (.iload_n 2, 1) := by decide +kernel
theorem dX10_input_82 : decode cX10_input 82 = .ok (.invokevirtual 93, 3) := by decide +kernel
theorem dX10_input_85 : decode cX10_input 85 = .ok (.aload_n 3, 1) := by decide +kernel
theorem dX10_input_86 : decode cX10_input 86 = .ok (.getfield 88, 3) := by decide +kernel
theorem dX10_input_89 : decode cX10_input 89 = .ok (.ireturn, 1) := by decide +kernel
theorem dX10_tick_0 : decode cX10_tick 0 = .ok (.aload_n 0, 1) := by decide +kernel
theorem dX10_tick_1 : decode cX10_tick 1 = .ok (.getfield 23, 3) := by decide +kernel
theorem dX10_tick_4 : decode cX10_tick 4 = .ok (.getfield 43, 3) := by decide +kernel
theorem dX10_tick_7 : decode cX10_tick 7 = .ok (.ifCond .eq 15, 3) := by decide +kernel
theorem dX10_tick_10 : decode cX10_tick 10 = .ok (.iload_n 1, 1) := by decide +kernel
theorem dX10_tick_11 : decode cX10_tick 11 = .ok (.iconst 1, 1) := by decide +kernel
theorem dX10_tick_12 : decode cX10_tick 12 = .ok (.if_icmp .lt 10, 3) := by decide +kernel
theorem dX10_tick_15 : decode cX10_tick 15 = .ok (.iload_n 1, 1) := by decide +kernel
theorem dX10_tick_16 : decode cX10_tick 16 = .ok (.sipush 200, 3) := by decide +kernel
theorem dX10_tick_19 : decode cX10_tick 19 = .ok (.if_icmp .le 5, 3) := by decide +kernel
theorem dX10_tick_22 : decode cX10_tick 22 = .ok (.iconst (-1), 1) := by decide +kernel
theorem dX10_tick_23 : decode cX10_tick 23 = .ok (.ireturn, 1) := by decide +kernel
theorem dX10_tick_24 : decode cX10_tick 24 = .ok (.iconst 0, 1) := by decide +kernel
theorem dX10_tick_25 : decode cX10_tick 25 = .ok (.istore_n 2, 1) := by decide +kernel
theorem dX10_tick_26 : decode cX10_tick 26 = .ok (.iconst 0, 1) := by decide +kernel
theorem dX10_tick_27 : decode cX10_tick 27 = .ok (.istore_n 3, 1) := by decide +kernel
theorem dX10_tick_28 : decode cX10_tick 28 = .ok (.iload_n 3, 1) := by decide +kernel
theorem dX10_tick_29 : decode cX10_tick 29 = .ok (.iload_n 1, 1) := by decide +kernel
theorem dX10_tick_30 : decode cX10_tick 30 = .ok (.if_icmp .ge 99, 3) := by decide +kernel
theorem dX10_tick_33 : decode cX10_tick 33 = .ok (.aload_n 0, 1) := by decide +kernel
theorem dX10_tick_34 : decode cX10_tick 34 = .ok (.getfield 32, 3) := by decide +kernel
theorem dX10_tick_37 : decode cX10_tick 37 = .ok (.invokevirtual 138, 3) := by decide +kernel
theorem dX10_tick_40 : decode cX10_tick 40 = .ok (.istore 4, 2) := by decide +kernel
theorem dX10_tick_42 : decode cX10_tick 42 = .ok (.iload 4, 2) := by decide +kernel
theorem dX10_tick_44 : decode cX10_tick 44 = .ok (.ifCond .eq 19, 3) := by decide +kernel
theorem dX10_tick_47 : decode cX10_tick 47 = .ok (.aload_n 0, 1) := by decide +kernel
theorem dX10_tick_48 : decode cX10_tick 48 = .ok (.getfield 39, 3) := by decide +kernel
theorem dX10_tick_51 : decode cX10_tick 51 = .ok (.invokevirtual 118, 3) := by decide +kernel
theorem dX10_tick_54 : decode cX10_tick 54 = .ok (.sipush 3000, 3) := by decide +kernel
theorem dX10_tick_57 : decode cX10_tick 57 = .ok (.if_icmp .ne 6, 3) := by decide +kernel
theorem dX10_tick_60 : decode cX10_tick 60 = .ok (.goto 69, 3) := by decide +kernel
theorem dX10_tick_63 : decode cX10_tick 63 = .ok (.iload 4, 2) := by decide +kernel
theorem dX10_tick_65 : decode cX10_tick 65 = .ok (.ifCond .eq 51, 3) := by decide +kernel
theorem dX10_tick_68 : decode cX10_tick 68 = .ok (.aload_n 0, 1) := by decide +kernel
theorem dX10_tick_69 : decode cX10_tick 69 = .ok (.getfield 39, 3) := by decide +kernel
theorem dX10_tick_72 : decode cX10_tick 72 = .ok (.aload_n 0, 1) := by decide +kernel
theorem dX10_tick_73 : decode cX10_tick 73 = .ok (.getfield 32, 3) := by decide +kernel
theorem dX10_tick_76 : decode cX10_tick 76 = .ok (.getfield 109, 3) := by decide +kernel
theorem dX10_tick_79 : decode cX10_tick 79 = .ok (.invokevirtual 142, 3) := by decide +kernel
theorem dX10_tick_82 : decode cX10_tick 82 = .ok (.iconst 0, 1) := by decide +kernel
theorem dX10_tick_83 : decode cX10_tick 83 = .ok (.aload_n 0, 1) := by decide +kernel
theorem dX10_tick_84 : decode cX10_tick 84 = .ok (.getfield 32, 3) := by decide +kernel
theorem dX10_tick_87 : decode cX10_tick 87 = .ok (.getfield 109, 3) := by decide +kernel
theorem dX10_tick_90 : decode cX10_tick 90 = .ok (.getfield 132, 3) := by decide +kernel
theorem dX10_tick_93 : decode cX10_tick 93 = .ok (.aload_n 0, 1) := by decide +kernel
theorem dX10_tick_94 : decode cX10_tick 94 = .ok (.getfield 32, 3) := by decide +kernel
theorem dX10_tick_97 : decode cX10_tick 97 = .ok (.invokevirtual 145, 3) := by decide +kernel
theorem dX10_tick_100 : decode cX10_tick 100 = .ok (.invokevirtual 135, 3) := by decide +kernel
theorem dX10_tick_103 : decode cX10_tick 103 = .ok (.aload_n 0, 1) := by decide +kernel
theorem dX10_tick_104 : decode cX10_tick 104 = .ok (.getfield 32, 3) := by decide +kernel
theorem dX10_tick_107 : decode cX10_tick 107 = .ok (.invokevirtual 148, 3) := by decide +kernel
theorem dX10_tick_110 : decode cX10_tick 110 = .ok (.iinc 2 1, 3) := by decide +kernel
theorem dX10_tick_113 : decode cX10_tick 113 = .ok (.goto 10, 3) := by decide +kernel
theorem dX10_tick_116 : decode cX10_tick 116 = .ok (.aload_n 0, 1) := by decide +kernel
theorem dX10_tick_117 : decode cX10_tick 117 = .ok (.getfield 32, 3) := by decide +kernel
theorem dX10_tick_120 : decode cX10_tick 120 = .ok (.invokevirtual 151, 3) := by decide +kernel
theorem dX10_tick_123 : decode cX10_tick 123 = .ok (.iinc 3 1, 3) := by decide +kernel
theorem dX10_tick_126 : decode cX10_tick 126 = .ok (.goto (-98), 3) := by decide +kernel
theorem dX10_tick_129 : decode cX10_tick 129 = .ok (.iload_n 2, 1) := by decide +kernel
theorem dX10_tick_130 : decode cX10_tick 130 = .ok (.ireturn, 1) := by decide +kernel
theorem dX10_register_0 : decode cX10_register 0 = .ok (.aload_n 0, 1) := by decide +kernel
theorem dX10_register_1 : decode cX10_register 1 = .ok (.getfield 23, 3) := by decide +kernel
theorem dX10_register_4 : decode cX10_register 4 = .ok (.iload_n 1, 1) := by decide +kernel
theorem dX10_register_5 : decode cX10_register 5 = .ok (.invokevirtual 47, 3) := by decide +kernel
theorem dX10_register_8 : decode cX10_register 8 = .ok (.ifCond .eq 19, 3) := by decide +kernel
theorem dX10_register_11 : decode cX10_register 11 = .ok (.aload_n 0, 1) := by decide +kernel
theorem dX10_register_12 : decode cX10_register 12 = .ok (.getfield 32, 3) := by decide +kernel
theorem dX10_register_15 : decode cX10_register 15 = .ok (.getfield 122, 3) := by decide +kernel
theorem dX10_register_18 : decode cX10_register 18 = .ok (.iload_n 1, 1) := by decide +kernel
theorem dX10_register_19 : decode cX10_register 19 = .ok (.aaload, 1) := by decide +kernel
theorem dX10_register_20 : decode cX10_register 20 = .ok (.iload_n 2, 1) := by decide +kernel
theorem dX10_register_21 : decode cX10_register 21 = .ok (.invokevirtual 154, 3) := by decide +kernel
theorem dX10_register_24 : decode cX10_register 24 = .ok (.goto 4, 3) := by decide +kernel
theorem dX10_register_27 : decode cX10_register 27 = .ok (.iconst 0, 1) := by decide +kernel
theorem dX10_register_28 : decode cX10_register 28 = .ok (.ireturn, 1) := by decide +kernel
theorem dX10_cell_0 : decode cX10_cell 0 = .ok (.aload_n 0, 1) := by decide +kernel
theorem dX10_cell_1 : decode cX10_cell 1 = .ok (.getfield 23, 3) := by decide +kernel
theorem dX10_cell_4 : decode cX10_cell 4 = .ok (.iload_n 1, 1) := by decide +kernel
theorem dX10_cell_5 : decode cX10_cell 5 = .ok (.invokevirtual 47, 3) := by decide +kernel
theorem dX10_cell_8 : decode cX10_cell 8 = .ok (.ifCond .eq 19, 3) := by decide +kernel
theorem dX10_cell_11 : decode cX10_cell 11 = .ok (.aload_n 0, 1) := by decide +kernel
theorem dX10_cell_12 : decode cX10_cell 12 = .ok (.getfield 32, 3) := by decide +kernel
theorem dX10_cell_15 : decode cX10_cell 15 = .ok (.getfield 122, 3) := by decide +kernel
theorem dX10_cell_18 : decode cX10_cell 18 = .ok (.iload_n 1, 1) := by decide +kernel
theorem dX10_cell_19 : decode cX10_cell 19 = .ok (.aaload, 1) := by decide +kernel
theorem dX10_cell_20 : decode cX10_cell 20 = .ok (.iload_n 2, 1) := by decide +kernel
theorem dX10_cell_21 : decode cX10_cell 21 = .ok (.invokevirtual 158, 3) := by decide +kernel
theorem dX10_cell_24 : decode cX10_cell 24 = .ok (.goto 4, 3) := by decide +kernel
theorem dX10_cell_27 : decode cX10_cell 27 = .ok (.iconst 0, 1) := by decide +kernel
theorem dX10_cell_28 : decode cX10_cell 28 = .ok (.ireturn, 1) := by decide +kernel
theorem dX10_of_0 : decode cX10_of 0 = .ok (.aload_n 0, 1) := by decide +kernel
theorem dX10_of_1 : decode cX10_of 1 = .ok (.getfield 23, 3) := by decide +kernel
theorem dX10_of_4 : decode cX10_of 4 = .ok (.iload_n 1, 1) := by decide +kernel
theorem dX10_of_5 : decode cX10_of 5 = .ok (.invokevirtual 47, 3) := by decide +kernel
theorem dX10_of_8 : decode cX10_of 8 = .ok (.ifCond .ne 5, 3) := by decide +kernel
theorem dX10_of_11 : decode cX10_of 11 = .ok (.iconst (-1), 1) := by decide +kernel
theorem dX10_of_12 : decode cX10_of 12 = .ok (.ireturn, 1) := by decide +kernel
theorem dX10_of_13 : decode cX10_of 13 = .ok (.aload_n 0, 1) := by decide +kernel
theorem dX10_of_14 : decode cX10_of 14 = .ok (.getfield 32, 3) := by decide +kernel
theorem dX10_of_17 : decode cX10_of 17 = .ok (.getfield 122, 3) := by decide +kernel
theorem dX10_of_20 : decode cX10_of 20 = .ok (.iload_n 1, 1) := by decide +kernel
theorem dX10_of_21 : decode cX10_of 21 = .ok (.aaload, 1) := by decide +kernel
theorem dX10_of_22 : decode cX10_of 22 = .ok (.astore_n 3, 1) := by decide +kernel
theorem dX10_of_23 : decode cX10_of 23 = .ok (.iload_n 2, 1) := by decide +kernel
theorem dX10_of_24 : decode cX10_of 24 = .ok (.tableswitch 106 0 7 #[48, 53, 58, 66, 74, 79, 84, 89], 48) := by decide +kernel
theorem dX10_of_72 : decode cX10_of 72 = .ok (.aload_n 3, 1) := by decide +kernel
theorem dX10_of_73 : decode cX10_of 73 = .ok (.getfield 161, 3) := by decide +kernel
theorem dX10_of_76 : decode cX10_of 76 = .ok (.ireturn, 1) := by decide +kernel
theorem dX10_of_77 : decode cX10_of 77 = .ok (.aload_n 3, 1) := by decide +kernel
theorem dX10_of_78 : decode cX10_of 78 = .ok (.getfield 164, 3) := by decide +kernel
theorem dX10_of_81 : decode cX10_of 81 = .ok (.ireturn, 1) := by decide +kernel
theorem dX10_of_82 : decode cX10_of 82 = .ok (.aload_n 3, 1) := by decide +kernel
theorem dX10_of_83 : decode cX10_of 83 = .ok (.getfield 126, 3) := by decide +kernel
theorem dX10_of_86 : decode cX10_of 86 = .ok (.getfield 88, 3) := by decide +kernel
theorem dX10_of_89 : decode cX10_of 89 = .ok (.ireturn, 1) := by decide +kernel
theorem dX10_of_90 : decode cX10_of 90 = .ok (.aload_n 3, 1) := by decide +kernel
theorem dX10_of_91 : decode cX10_of 91 = .ok (.getfield 167, 3) := by decide +kernel
theorem dX10_of_94 : decode cX10_of 94 = .ok (.getfield 88, 3) := by decide +kernel
theorem dX10_of_97 : decode cX10_of 97 = .ok (.ireturn, 1) := by decide +kernel
theorem dX10_of_98 : decode cX10_of 98 = .ok (.aload_n 3, 1) := by decide +kernel
theorem dX10_of_99 : decode cX10_of 99 = .ok (.getfield 170, 3) := by decide +kernel
theorem dX10_of_102 : decode cX10_of 102 = .ok (.ireturn, 1) := by decide +kernel
theorem dX10_of_103 : decode cX10_of 103 = .ok (.aload_n 3, 1) := by decide +kernel
theorem dX10_of_104 : decode cX10_of 104 = .ok (.getfield 173, 3) := by decide +kernel
theorem dX10_of_107 : decode cX10_of 107 = .ok (.ireturn, 1) := by decide +kernel
theorem dX10_of_108 : decode cX10_of 108 = .ok (.aload_n 3, 1) := by decide +kernel
theorem dX10_of_109 : decode cX10_of 109 = .ok (.getfield 176, 3) := by decide +kernel
theorem dX10_of_112 : decode cX10_of 112 = .ok (.ireturn, 1) := by decide +kernel
theorem dX10_of_113 : decode cX10_of 113 = .ok (.aload_n 0, 1) := by decide +kernel
theorem dX10_of_114 : decode cX10_of 114 = .ok (.getfield 23, 3) := by decide +kernel
theorem dX10_of_117 : decode cX10_of 117 = .ok (.iload_n 1, 1) := by decide +kernel
theorem dX10_of_118 : decode cX10_of 118 = .ok (.invokevirtual 179, 3) := by decide +kernel
theorem dX10_of_121 : decode cX10_of 121 = .ok (.ifCond .eq 7, 3) := by decide +kernel
theorem dX10_of_124 : decode cX10_of 124 = .ok (.iconst 1, 1) := by decide +kernel
theorem dX10_of_125 : decode cX10_of 125 = .ok (.goto 4, 3) := by decide +kernel
theorem dX10_of_128 : decode cX10_of 128 = .ok (.iconst 0, 1) := by decide +kernel
theorem dX10_of_129 : decode cX10_of 129 = .ok (.ireturn, 1) := by decide +kernel
theorem dX10_of_130 : decode cX10_of 130 = .ok (.iconst (-1), 1) := by decide +kernel
theorem dX10_of_131 : decode cX10_of 131 = .ok (.ireturn, 1) := by decide +kernel
theorem dX10_output_0 : decode cX10_output 0 = .ok (.aload_n 0, 1) := by decide +kernel
theorem dX10_output_1 : decode cX10_output 1 = .ok (.getfield 23, 3) := by decide +kernel
theorem dX10_output_4 : decode cX10_output 4 = .ok (.iload_n 1, 1) := by decide +kernel
theorem dX10_output_5 : decode cX10_output 5 = .ok (.invokevirtual 47, 3) := by decide +kernel
theorem dX10_output_8 : decode cX10_output 8 = .ok (.ifCond .eq 22, 3) := by decide +kernel
theorem dX10_output_11 : decode cX10_output 11 = .ok (.aload_n 0, 1) := by decide +kernel
theorem dX10_output_12 : decode cX10_output 12 = .ok (.getfield 32, 3) := by decide +kernel
theorem dX10_output_15 : decode cX10_output 15 = .ok (.getfield 122, 3) := by decide +kernel
theorem dX10_output_18 : decode cX10_output 18 = .ok (.iload_n 1, 1) := by decide +kernel
theorem dX10_output_19 : decode cX10_output 19 = .ok (.aaload, 1) := by decide +kernel
theorem dX10_output_20 : decode cX10_output 20 = .ok (.getfield 167, 3) := by decide +kernel
theorem dX10_output_23 : decode cX10_output 23 = .ok (.iload_n 2, 1) := by decide +kernel
theorem dX10_output_24 : decode cX10_output 24 = .ok (.invokevirtual 182, 3) := by decide +kernel
theorem dX10_output_27 : decode cX10_output 27 = .ok (.goto 4, 3) := by decide +kernel
theorem dX10_output_30 : decode cX10_output 30 = .ok (.iconst 0, 1) := by decide +kernel
theorem dX10_output_31 : decode cX10_output 31 = .ok (.ireturn, 1) := by decide +kernel
theorem dX10_at_0 : decode cX10_at 0 = .ok (.iload_n 1, 1) := by decide +kernel
theorem dX10_at_1 : decode cX10_at 1 = .ok (.ifCond .lt 14, 3) := by decide +kernel
theorem dX10_at_4 : decode cX10_at 4 = .ok (.iload_n 1, 1) := by decide +kernel
theorem dX10_at_5 : decode cX10_at 5 = .ok (.aload_n 0, 1) := by decide +kernel
theorem dX10_at_6 : decode cX10_at 6 = .ok (.getfield 23, 3) := by decide +kernel
theorem dX10_at_9 : decode cX10_at 9 = .ok (.getfield 62, 3) := by decide +kernel
theorem dX10_at_12 : decode cX10_at 12 = .ok (.if_icmp .lt 5, 3) := by decide +kernel
theorem dX10_at_15 : decode cX10_at 15 = .ok (.iconst (-1), 1) := by decide +kernel
theorem dX10_at_16 : decode cX10_at 16 = .ok (.ireturn, 1) := by decide +kernel
theorem dX10_at_17 : decode cX10_at 17 = .ok (.aload_n 0, 1) := by decide +kernel
theorem dX10_at_18 : decode cX10_at 18 = .ok (.getfield 32, 3) := by decide +kernel
theorem dX10_at_21 : decode cX10_at 21 = .ok (.getfield 75, 3) := by decide +kernel
theorem dX10_at_24 : decode cX10_at 24 = .ok (.iload_n 1, 1) := by decide +kernel
theorem dX10_at_25 : decode cX10_at 25 = .ok (.aaload, 1) := by decide +kernel
theorem dX10_at_26 : decode cX10_at 26 = .ok (.astore_n 3, 1) := by decide +kernel
theorem dX10_at_27 : decode cX10_at 27 = .ok (.iload_n 2, 1) := by decide +kernel
theorem dX10_at_28 : decode cX10_at 28 = .ok (.tableswitch 147 0 8 #[52, 60, 68, 84, 92, 100, 108, 113, 118], 52) := by decide +kernel
theorem dX10_at_80 : decode cX10_at 80 = .ok (.aload_n 3, 1) := by decide +kernel
theorem dX10_at_81 : decode cX10_at 81 = .ok (.getfield 185, 3) := by decide +kernel
theorem dX10_at_84 : decode cX10_at 84 = .ok (.getfield 189, 3) := by decide +kernel
theorem dX10_at_87 : decode cX10_at 87 = .ok (.ireturn, 1) := by decide +kernel
theorem dX10_at_88 : decode cX10_at 88 = .ok (.aload_n 3, 1) := by decide +kernel
theorem dX10_at_89 : decode cX10_at 89 = .ok (.getfield 185, 3) := by decide +kernel
theorem dX10_at_92 : decode cX10_at 92 = .ok (.getfield 192, 3) := by decide +kernel
theorem dX10_at_95 : decode cX10_at 95 = .ok (.ireturn, 1) := by decide +kernel
theorem dX10_at_96 : decode cX10_at 96 = .ok (.aload_n 3, 1) := by decide +kernel
theorem dX10_at_97 : decode cX10_at 97 = .ok (.getfield 185, 3) := by decide +kernel
theorem dX10_at_100 : decode cX10_at 100 = .ok (.getfield 195, 3) := by decide +kernel
theorem dX10_at_103 : decode cX10_at 103 = .ok (.ifCond .eq 7, 3) := by decide +kernel
theorem dX10_at_106 : decode cX10_at 106 = .ok (.iconst 1, 1) := by decide +kernel
theorem dX10_at_107 : decode cX10_at 107 = .ok (.goto 4, 3) := by decide +kernel
theorem dX10_at_110 : decode cX10_at 110 = .ok (.iconst 0, 1) := by decide +kernel
theorem dX10_at_111 : decode cX10_at 111 = .ok (.ireturn, 1) := by decide +kernel
theorem dX10_at_112 : decode cX10_at 112 = .ok (.aload_n 3, 1) := by decide +kernel
theorem dX10_at_113 : decode cX10_at 113 = .ok (.getfield 185, 3) := by decide +kernel
theorem dX10_at_116 : decode cX10_at 116 = .ok (.getfield 198, 3) := by decide +kernel
theorem dX10_at_119 : decode cX10_at 119 = .ok (.ireturn, 1) := by decide +kernel
theorem dX10_at_120 : decode cX10_at 120 = .ok (.aload_n 3, 1) := by decide +kernel
theorem dX10_at_121 : decode cX10_at 121 = .ok (.getfield 199, 3) := by decide +kernel
theorem dX10_at_124 : decode cX10_at 124 = .ok (.invokevirtual 203, 3) := by decide +kernel
theorem dX10_at_127 : decode cX10_at 127 = .ok (.ireturn, 1) := by decide +kernel
theorem dX10_at_128 : decode cX10_at 128 = .ok (.aload_n 3, 1) := by decide +kernel
theorem dX10_at_129 : decode cX10_at 129 = .ok (.getfield 208, 3) := by decide +kernel
theorem dX10_at_132 : decode cX10_at 132 = .ok (.invokevirtual 203, 3) := by decide +kernel
theorem dX10_at_135 : decode cX10_at 135 = .ok (.ireturn, 1) := by decide +kernel
theorem dX10_at_136 : decode cX10_at 136 = .ok (.aload_n 3, 1) := by decide +kernel
theorem dX10_at_137 : decode cX10_at 137 = .ok (.getfield 211, 3) := by decide +kernel
theorem dX10_at_140 : decode cX10_at 140 = .ok (.ireturn, 1) := by decide +kernel
theorem dX10_at_141 : decode cX10_at 141 = .ok (.aload_n 3, 1) := by decide +kernel
theorem dX10_at_142 : decode cX10_at 142 = .ok (.getfield 214, 3) := by decide +kernel
theorem dX10_at_145 : decode cX10_at 145 = .ok (.ireturn, 1) := by decide +kernel
theorem dX10_at_146 : decode cX10_at 146 = .ok (.aload_n 3, 1) := by decide +kernel
theorem dX10_at_147 : decode cX10_at 147 = .ok (.getfield 185, 3) := by decide +kernel
theorem dX10_at_150 : decode cX10_at 150 = .ok (.getfield 195, 3) := by decide +kernel
theorem dX10_at_153 : decode cX10_at 153 = .ok (.ifCond .eq 20, 3) := by decide +kernel
theorem dX10_at_156 : decode cX10_at 156 = .ok (.aload_n 3, 1) := by decide +kernel
theorem dX10_at_157 : decode cX10_at 157 = .ok (.aload_n 0, 1) := by decide +kernel
theorem dX10_at_158 : decode cX10_at 158 = .ok (.getfield 32, 3) := by decide +kernel
theorem dX10_at_161 : decode cX10_at 161 = .ok (.getfield 109, 3) := by decide +kernel
theorem dX10_at_164 : decode cX10_at 164 = .ok (.getfield 132, 3) := by decide +kernel
theorem dX10_at_167 : decode cX10_at 167 = .ok (.invokevirtual 217, 3) := by decide +kernel
theorem dX10_at_170 : decode cX10_at 170 = .ok (.goto 4, 3) := by decide +kernel
theorem dX10_at_173 : decode cX10_at 173 = .ok (.iconst 0, 1) := by decide +kernel
theorem dX10_at_174 : decode cX10_at 174 = .ok (.ireturn, 1) := by decide +kernel
theorem dX10_at_175 : decode cX10_at 175 = .ok (.iconst (-1), 1) := by decide +kernel
theorem dX10_at_176 : decode cX10_at 176 = .ok (.ireturn, 1) := by decide +kernel
theorem dX10_told_0 : decode cX10_told 0 = .ok (.aload_n 0, 1) := by decide +kernel
theorem dX10_told_1 : decode cX10_told 1 = .ok (.getfield 32, 3) := by decide +kernel
theorem dX10_told_4 : decode cX10_told 4 = .ok (.getfield 109, 3) := by decide +kernel
theorem dX10_told_7 : decode cX10_told 7 = .ok (.astore_n 2, 1) := by decide +kernel
theorem dX10_told_8 : decode cX10_told 8 = .ok (.iload_n 1, 1) := by decide +kernel
theorem dX10_told_9 : decode cX10_told 9 = .ok (.tableswitch 139 0 9 #[55, 60, 68, 87, 92, 97, 102, 107, 115, 123], 55) := by decide +kernel
theorem dX10_told_64 : decode cX10_told 64 = .ok (.aload_n 2, 1) := by decide +kernel
theorem dX10_told_65 : decode cX10_told 65 = .ok (.getfield 132, 3) := by decide +kernel
theorem dX10_told_68 : decode cX10_told 68 = .ok (.ireturn, 1) := by decide +kernel
theorem dX10_told_69 : decode cX10_told 69 = .ok (.aload_n 0, 1) := by decide +kernel
theorem dX10_told_70 : decode cX10_told 70 = .ok (.getfield 39, 3) := by decide +kernel
theorem dX10_told_73 : decode cX10_told 73 = .ok (.invokevirtual 118, 3) := by decide +kernel
theorem dX10_told_76 : decode cX10_told 76 = .ok (.ireturn, 1) := by decide +kernel
theorem dX10_told_77 : decode cX10_told 77 = .ok (.aload_n 0, 1) := by decide +kernel
theorem dX10_told_78 : decode cX10_told 78 = .ok (.getfield 23, 3) := by decide +kernel
theorem dX10_told_81 : decode cX10_told 81 = .ok (.getfield 43, 3) := by decide +kernel
theorem dX10_told_84 : decode cX10_told 84 = .ok (.ifCond .eq 10, 3) := by decide +kernel
theorem dX10_told_87 : decode cX10_told 87 = .ok (.aload_n 2, 1) := by decide +kernel
theorem dX10_told_88 : decode cX10_told 88 = .ok (.invokevirtual 142, 3) := by decide +kernel
theorem dX10_told_91 : decode cX10_told 91 = .ok (.goto 4, 3) := by decide +kernel
theorem dX10_told_94 : decode cX10_told 94 = .ok (.iconst (-1), 1) := by decide +kernel
theorem dX10_told_95 : decode cX10_told 95 = .ok (.ireturn, 1) := by decide +kernel
theorem dX10_told_96 : decode cX10_told 96 = .ok (.aload_n 2, 1) := by decide +kernel
theorem dX10_told_97 : decode cX10_told 97 = .ok (.getfield 220, 3) := by decide +kernel
theorem dX10_told_100 : decode cX10_told 100 = .ok (.ireturn, 1) := by decide +kernel
theorem dX10_told_101 : decode cX10_told 101 = .ok (.aload_n 2, 1) := by decide +kernel
theorem dX10_told_102 : decode cX10_told 102 = .ok (.getfield 223, 3) := by decide +kernel
theorem dX10_told_105 : decode cX10_told 105 = .ok (.ireturn, 1) := by decide +kernel
theorem dX10_told_106 : decode cX10_told 106 = .ok (.aload_n 2, 1) := by decide +kernel
theorem dX10_told_107 : decode cX10_told 107 = .ok (.getfield 226, 3) := by decide +kernel
theorem dX10_told_110 : decode cX10_told 110 = .ok (.ireturn, 1) := by decide +kernel
theorem dX10_told_111 : decode cX10_told 111 = .ok (.aload_n 2, 1) := by decide +kernel
theorem dX10_told_112 : decode cX10_told 112 = .ok (.getfield 228, 3) := by decide +kernel
theorem dX10_told_115 : decode cX10_told 115 = .ok (.ireturn, 1) := by decide +kernel
theorem dX10_told_116 : decode cX10_told 116 = .ok (.aload_n 0, 1) := by decide +kernel
theorem dX10_told_117 : decode cX10_told 117 = .ok (.getfield 23, 3) := by decide +kernel
theorem dX10_told_120 : decode cX10_told 120 = .ok (.getfield 62, 3) := by decide +kernel
theorem dX10_told_123 : decode cX10_told 123 = .ok (.ireturn, 1) := by decide +kernel
theorem dX10_told_124 : decode cX10_told 124 = .ok (.aload_n 0, 1) := by decide +kernel
theorem dX10_told_125 : decode cX10_told 125 = .ok (.getfield 23, 3) := by decide +kernel
theorem dX10_told_128 : decode cX10_told 128 = .ok (.getfield 231, 3) := by decide +kernel
theorem dX10_told_131 : decode cX10_told 131 = .ok (.ireturn, 1) := by decide +kernel
theorem dX10_told_132 : decode cX10_told 132 = .ok (.aload_n 0, 1) := by decide +kernel
theorem dX10_told_133 : decode cX10_told 133 = .ok (.getfield 23, 3) := by decide +kernel
theorem dX10_told_136 : decode cX10_told 136 = .ok (.getfield 43, 3) := by decide +kernel
theorem dX10_told_139 : decode cX10_told 139 = .ok (.ifCond .eq 7, 3) := by decide +kernel
theorem dX10_told_142 : decode cX10_told 142 = .ok (.iconst 1, 1) := by decide +kernel
theorem dX10_told_143 : decode cX10_told 143 = .ok (.goto 4, 3) := by decide +kernel
theorem dX10_told_146 : decode cX10_told 146 = .ok (.iconst 0, 1) := by decide +kernel
theorem dX10_told_147 : decode cX10_told 147 = .ok (.ireturn, 1) := by decide +kernel
theorem dX10_told_148 : decode cX10_told 148 = .ok (.iconst (-1), 1) := by decide +kernel
theorem dX10_told_149 : decode cX10_told 149 = .ok (.ireturn, 1) := by decide +kernel
theorem dX10_action_0 : decode cX10_action 0 = .ok (.iload_n 2, 1) := by decide +kernel
theorem dX10_action_1 : decode cX10_action 1 = .ok (.tableswitch 79 0 3 #[31, 43, 55, 67], 31) := by decide +kernel
theorem dX10_action_32 : decode cX10_action 32 = .ok (.aload_n 0, 1) := by decide +kernel
theorem dX10_action_33 : decode cX10_action 33 = .ok (.getfield 39, 3) := by decide +kernel
theorem dX10_action_36 : decode cX10_action 36 = .ok (.getfield 234, 3) := by decide +kernel
theorem dX10_action_39 : decode cX10_action 39 = .ok (.iload_n 1, 1) := by decide +kernel
theorem dX10_action_40 : decode cX10_action 40 = .ok (.invokevirtual 182, 3) := by decide +kernel
theorem dX10_action_43 : decode cX10_action 43 = .ok (.ireturn, 1) := by decide +kernel
theorem dX10_action_44 : decode cX10_action 44 = .ok (.aload_n 0, 1) := by decide +kernel
theorem dX10_action_45 : decode cX10_action 45 = .ok (.getfield 39, 3) := by decide +kernel
theorem dX10_action_48 : decode cX10_action 48 = .ok (.getfield 236, 3) := by decide +kernel
theorem dX10_action_51 : decode cX10_action 51 = .ok (.iload_n 1, 1) := by decide +kernel
theorem dX10_action_52 : decode cX10_action 52 = .ok (.invokevirtual 182, 3) := by decide +kernel
theorem dX10_action_55 : decode cX10_action 55 = .ok (.ireturn, 1) := by decide +kernel
theorem dX10_action_56 : decode cX10_action 56 = .ok (.aload_n 0, 1) := by decide +kernel
theorem dX10_action_57 : decode cX10_action 57 = .ok (.getfield 39, 3) := by decide +kernel
theorem dX10_action_60 : decode cX10_action 60 = .ok (.getfield 239, 3) := by decide +kernel
theorem dX10_action_63 : decode cX10_action 63 = .ok (.iload_n 1, 1) := by decide +kernel
theorem dX10_action_64 : decode cX10_action 64 = .ok (.invokevirtual 182, 3) := by decide +kernel
theorem dX10_action_67 : decode cX10_action 67 = .ok (.ireturn, 1) := by decide +kernel
theorem dX10_action_68 : decode cX10_action 68 = .ok (.aload_n 0, 1) := by decide +kernel
theorem dX10_action_69 : decode cX10_action 69 = .ok (.getfield 39, 3) := by decide +kernel
theorem dX10_action_72 : decode cX10_action 72 = .ok (.getfield 242, 3) := by decide +kernel
theorem dX10_action_75 : decode cX10_action 75 = .ok (.iload_n 1, 1) := by decide +kernel
theorem dX10_action_76 : decode cX10_action 76 = .ok (.invokevirtual 182, 3) := by decide +kernel
theorem dX10_action_79 : decode cX10_action 79 = .ok (.ireturn, 1) := by decide +kernel
theorem dX10_action_80 : decode cX10_action 80 = .ok (.iconst 0, 1) := by decide +kernel
theorem dX10_action_81 : decode cX10_action 81 = .ok (.ireturn, 1) := by decide +kernel
theorem dX10_purge_0 : decode cX10_purge 0 = .ok (.aload_n 0, 1) := by decide +kernel
theorem dX10_purge_1 : decode cX10_purge 1 = .ok (.getfield 23, 3) := by decide +kernel
theorem dX10_purge_4 : decode cX10_purge 4 = .ok (.getfield 43, 3) := by decide +kernel
theorem dX10_purge_7 : decode cX10_purge 7 = .ok (.ifCond .eq 14, 3) := by decide +kernel
theorem dX10_purge_10 : decode cX10_purge 10 = .ok (.aload_n 0, 1) := by decide +kernel
theorem dX10_purge_11 : decode cX10_purge 11 = .ok (.getfield 23, 3) := by decide +kernel
theorem dX10_purge_14 : decode cX10_purge 14 = .ok (.iload_n 1, 1) := by decide +kernel
theorem dX10_purge_15 : decode cX10_purge 15 = .ok (.invokevirtual 47, 3) := by decide +kernel
theorem dX10_purge_18 : decode cX10_purge 18 = .ok (.ifCond .ne 5, 3) := by decide +kernel
theorem dX10_purge_21 : decode cX10_purge 21 = .ok (.iconst (-1), 1) := by decide +kernel
theorem dX10_purge_22 : decode cX10_purge 22 = .ok (.ireturn, 1) := by decide +kernel
theorem dX10_purge_23 : decode cX10_purge 23 = .ok (.aload_n 0, 1) := by decide +kernel
theorem dX10_purge_24 : decode cX10_purge 24 = .ok (.getfield 245, 3) := by decide +kernel
theorem dX10_purge_27 : decode cX10_purge 27 = .ok (.ifnonnull 18, 3) := by decide +kernel
theorem dX10_purge_30 : decode cX10_purge 30 = .ok (.aload_n 0, 1) := by decide +kernel
theorem dX10_purge_31 : decode cX10_purge 31 = .ok (.new 249, 3) := by decide +kernel
theorem dX10_purge_34 : decode cX10_purge 34 = .ok (.dup, 1) := by decide +kernel
theorem dX10_purge_35 : decode cX10_purge 35 = .ok (.aload_n 0, 1) := by decide +kernel
theorem dX10_purge_36 : decode cX10_purge 36 = .ok (.getfield 23, 3) := by decide +kernel
theorem dX10_purge_39 : decode cX10_purge 39 = .ok (.invokespecial 251, 3) := by decide +kernel
theorem dX10_purge_42 : decode cX10_purge 42 = .ok (.putfield 245, 3) := by decide +kernel
theorem dX10_purge_45 : decode cX10_purge 45 = .ok (.aload_n 0, 1) := by decide +kernel
theorem dX10_purge_46 : decode cX10_purge 46 = .ok (.getfield 245, 3) := by decide +kernel
theorem dX10_purge_49 : decode cX10_purge 49 = .ok (.aload_n 0, 1) := by decide +kernel
theorem dX10_purge_50 : decode cX10_purge 50 = .ok (.getfield 39, 3) := by decide +kernel
theorem dX10_purge_53 : decode cX10_purge 53 = .ok (.iload_n 1, 1) := by decide +kernel
theorem dX10_purge_54 : decode cX10_purge 54 = .ok (.invokevirtual 252, 3) := by decide +kernel
theorem dX10_purge_57 : decode cX10_purge 57 = .ok (.aload_n 0, 1) := by decide +kernel
theorem dX10_purge_58 : decode cX10_purge 58 = .ok (.getfield 245, 3) := by decide +kernel
theorem dX10_purge_61 : decode cX10_purge 61 = .ok (.aload_n 0, 1) := by decide +kernel
theorem dX10_purge_62 : decode cX10_purge 62 = .ok (.getfield 39, 3) := by decide +kernel
theorem dX10_purge_65 : decode cX10_purge 65 = .ok (.aload_n 0, 1) := by decide +kernel
theorem dX10_purge_66 : decode cX10_purge 66 = .ok (.getfield 32, 3) := by decide +kernel
theorem dX10_purge_69 : decode cX10_purge 69 = .ok (.getfield 109, 3) := by decide +kernel
theorem dX10_purge_72 : decode cX10_purge 72 = .ok (.getfield 132, 3) := by decide +kernel
theorem dX10_purge_75 : decode cX10_purge 75 = .ok (.invokevirtual 256, 3) := by decide +kernel
theorem dX10_purge_78 : decode cX10_purge 78 = .ok (.aload_n 0, 1) := by decide +kernel
theorem dX10_purge_79 : decode cX10_purge 79 = .ok (.getfield 245, 3) := by decide +kernel
theorem dX10_purge_82 : decode cX10_purge 82 = .ok (.getfield 259, 3) := by decide +kernel
theorem dX10_purge_85 : decode cX10_purge 85 = .ok (.ireturn, 1) := by decide +kernel
theorem dX10_kept_0 : decode cX10_kept 0 = .ok (.aload_n 0, 1) := by decide +kernel
theorem dX10_kept_1 : decode cX10_kept 1 = .ok (.getfield 245, 3) := by decide +kernel
theorem dX10_kept_4 : decode cX10_kept 4 = .ok (.ifnull 18, 3) := by decide +kernel
theorem dX10_kept_7 : decode cX10_kept 7 = .ok (.iload_n 1, 1) := by decide +kernel
theorem dX10_kept_8 : decode cX10_kept 8 = .ok (.ifCond .lt 14, 3) := by decide +kernel
theorem dX10_kept_11 : decode cX10_kept 11 = .ok (.iload_n 1, 1) := by decide +kernel
theorem dX10_kept_12 : decode cX10_kept 12 = .ok (.aload_n 0, 1) := by decide +kernel
theorem dX10_kept_13 : decode cX10_kept 13 = .ok (.getfield 245, 3) := by decide +kernel
theorem dX10_kept_16 : decode cX10_kept 16 = .ok (.getfield 262, 3) := by decide +kernel
theorem dX10_kept_19 : decode cX10_kept 19 = .ok (.if_icmp .lt 5, 3) := by decide +kernel
theorem dX10_kept_22 : decode cX10_kept 22 = .ok (.iconst (-1), 1) := by decide +kernel
theorem dX10_kept_23 : decode cX10_kept 23 = .ok (.ireturn, 1) := by decide +kernel
theorem dX10_kept_24 : decode cX10_kept 24 = .ok (.aload_n 0, 1) := by decide +kernel
theorem dX10_kept_25 : decode cX10_kept 25 = .ok (.getfield 245, 3) := by decide +kernel
theorem dX10_kept_28 : decode cX10_kept 28 = .ok (.getfield 265, 3) := by decide +kernel
theorem dX10_kept_31 : decode cX10_kept 31 = .ok (.iload_n 1, 1) := by decide +kernel
theorem dX10_kept_32 : decode cX10_kept 32 = .ok (.baload, 1) := by decide +kernel
theorem dX10_kept_33 : decode cX10_kept 33 = .ok (.ifCond .eq 7, 3) := by decide +kernel
theorem dX10_kept_36 : decode cX10_kept 36 = .ok (.iconst 1, 1) := by decide +kernel
theorem dX10_kept_37 : decode cX10_kept 37 = .ok (.goto 4, 3) := by decide +kernel
theorem dX10_kept_40 : decode cX10_kept 40 = .ok (.iconst 0, 1) := by decide +kernel
theorem dX10_kept_41 : decode cX10_kept 41 = .ok (.ireturn, 1) := by decide +kernel
theorem dX10_purged_0 : decode cX10_purged 0 = .ok (.aload_n 0, 1) := by decide +kernel
theorem dX10_purged_1 : decode cX10_purged 1 = .ok (.getfield 245, 3) := by decide +kernel
theorem dX10_purged_4 : decode cX10_purged 4 = .ok (.ifnull 14, 3) := by decide +kernel
theorem dX10_purged_7 : decode cX10_purged 7 = .ok (.aload_n 0, 1) := by decide +kernel
theorem dX10_purged_8 : decode cX10_purged 8 = .ok (.getfield 23, 3) := by decide +kernel
theorem dX10_purged_11 : decode cX10_purged 11 = .ok (.iload_n 1, 1) := by decide +kernel
theorem dX10_purged_12 : decode cX10_purged 12 = .ok (.invokevirtual 47, 3) := by decide +kernel
theorem dX10_purged_15 : decode cX10_purged 15 = .ok (.ifCond .ne 5, 3) := by decide +kernel
theorem dX10_purged_18 : decode cX10_purged 18 = .ok (.iconst 0, 1) := by decide +kernel
theorem dX10_purged_19 : decode cX10_purged 19 = .ok (.ireturn, 1) := by decide +kernel
theorem dX10_purged_20 : decode cX10_purged 20 = .ok (.aload_n 0, 1) := by decide +kernel
theorem dX10_purged_21 : decode cX10_purged 21 = .ok (.getfield 245, 3) := by decide +kernel
theorem dX10_purged_24 : decode cX10_purged 24 = .ok (.getfield 269, 3) := by decide +kernel
theorem dX10_purged_27 : decode cX10_purged 27 = .ok (.getfield 122, 3) := by decide +kernel
theorem dX10_purged_30 : decode cX10_purged 30 = .ok (.iload_n 1, 1) := by decide +kernel
theorem dX10_purged_31 : decode cX10_purged 31 = .ok (.aaload, 1) := by decide +kernel
theorem dX10_purged_32 : decode cX10_purged 32 = .ok (.astore 4, 2) := by decide +kernel
theorem dX10_purged_34 : decode cX10_purged 34 = .ok (.iload_n 2, 1) := by decide +kernel
theorem dX10_purged_35 : decode cX10_purged 35 = .ok (.tableswitch 102 0 7 #[45, 52, 59, 69, 75, 81, 90, 96], 45) := by decide +kernel
theorem dX10_purged_80 : decode cX10_purged 80 = .ok (.aload 4, 2) := by decide +kernel
theorem dX10_purged_82 : decode cX10_purged 82 = .ok (.iload_n 3, 1) := by decide +kernel
theorem dX10_purged_83 : decode cX10_purged 83 = .ok (.invokevirtual 154, 3) := by decide +kernel
theorem dX10_purged_86 : decode cX10_purged 86 = .ok (.ireturn, 1) := by decide +kernel
theorem dX10_purged_87 : decode cX10_purged 87 = .ok (.aload 4, 2) := by decide +kernel
theorem dX10_purged_89 : decode cX10_purged 89 = .ok (.iload_n 3, 1) := by decide +kernel
theorem dX10_purged_90 : decode cX10_purged 90 = .ok (.invokevirtual 158, 3) := by decide +kernel
theorem dX10_purged_93 : decode cX10_purged 93 = .ok (.ireturn, 1) := by decide +kernel
theorem dX10_purged_94 : decode cX10_purged 94 = .ok (.aload 4, 2) := by decide +kernel
theorem dX10_purged_96 : decode cX10_purged 96 = .ok (.getfield 167, 3) := by decide +kernel
theorem dX10_purged_99 : decode cX10_purged 99 = .ok (.iload_n 3, 1) := by decide +kernel
theorem dX10_purged_100 : decode cX10_purged 100 = .ok (.invokevirtual 182, 3) := by decide +kernel
theorem dX10_purged_103 : decode cX10_purged 103 = .ok (.ireturn, 1) := by decide +kernel
theorem dX10_purged_104 : decode cX10_purged 104 = .ok (.aload 4, 2) := by decide +kernel
theorem dX10_purged_106 : decode cX10_purged 106 = .ok (.getfield 161, 3) := by decide +kernel
theorem dX10_purged_109 : decode cX10_purged 109 = .ok (.ireturn, 1) := by decide +kernel
theorem dX10_purged_110 : decode cX10_purged 110 = .ok (.aload 4, 2) := by decide +kernel
theorem dX10_purged_112 : decode cX10_purged 112 = .ok (.getfield 164, 3) := by decide +kernel
theorem dX10_purged_115 : decode cX10_purged 115 = .ok (.ireturn, 1) := by decide +kernel
theorem dX10_purged_116 : decode cX10_purged 116 = .ok (.aload 4, 2) := by decide +kernel
theorem dX10_purged_118 : decode cX10_purged 118 = .ok (.getfield 167, 3) := by decide +kernel
theorem dX10_purged_121 : decode cX10_purged 121 = .ok (.getfield 88, 3) := by decide +kernel
theorem dX10_purged_124 : decode cX10_purged 124 = .ok (.ireturn, 1) := by decide +kernel
theorem dX10_purged_125 : decode cX10_purged 125 = .ok (.aload 4, 2) := by decide +kernel
theorem dX10_purged_127 : decode cX10_purged 127 = .ok (.getfield 170, 3) := by decide +kernel
theorem dX10_purged_130 : decode cX10_purged 130 = .ok (.ireturn, 1) := by decide +kernel
theorem dX10_purged_131 : decode cX10_purged 131 = .ok (.aload 4, 2) := by decide +kernel
theorem dX10_purged_133 : decode cX10_purged 133 = .ok (.getfield 173, 3) := by decide +kernel
theorem dX10_purged_136 : decode cX10_purged 136 = .ok (.ireturn, 1) := by decide +kernel
theorem dX10_purged_137 : decode cX10_purged 137 = .ok (.iconst 0, 1) := by decide +kernel
theorem dX10_purged_138 : decode cX10_purged 138 = .ok (.ireturn, 1) := by decide +kernel
theorem dX10_undisturbed_0 : decode cX10_undisturbed 0 = .ok (.aload_n 0, 1) := by decide +kernel
theorem dX10_undisturbed_1 : decode cX10_undisturbed 1 = .ok (.getfield 23, 3) := by decide +kernel
theorem dX10_undisturbed_4 : decode cX10_undisturbed 4 = .ok (.getfield 43, 3) := by decide +kernel
theorem dX10_undisturbed_7 : decode cX10_undisturbed 7 = .ok (.ifCond .eq 14, 3) := by decide +kernel
theorem dX10_undisturbed_10 : decode cX10_undisturbed 10 = .ok (.aload_n 0, 1) := by decide +kernel
theorem dX10_undisturbed_11 : decode cX10_undisturbed 11 = .ok (.getfield 23, 3) := by decide +kernel
theorem dX10_undisturbed_14 : decode cX10_undisturbed 14 = .ok (.iload_n 1, 1) := by decide +kernel
theorem dX10_undisturbed_15 : decode cX10_undisturbed 15 = .ok (.invokevirtual 47, 3) := by decide +kernel
theorem dX10_undisturbed_18 : decode cX10_undisturbed 18 = .ok (.ifCond .ne 5, 3) := by decide +kernel
theorem dX10_undisturbed_21 : decode cX10_undisturbed 21 = .ok (.iconst (-1), 1) := by decide +kernel
theorem dX10_undisturbed_22 : decode cX10_undisturbed 22 = .ok (.ireturn, 1) := by decide +kernel
theorem dX10_undisturbed_23 : decode cX10_undisturbed 23 = .ok (.aload_n 0, 1) := by decide +kernel
theorem dX10_undisturbed_24 : decode cX10_undisturbed 24 = .ok (.getfield 270, 3) := by decide +kernel
theorem dX10_undisturbed_27 : decode cX10_undisturbed 27 = .ok (.ifnonnull 18, 3) := by decide +kernel
theorem dX10_undisturbed_30 : decode cX10_undisturbed 30 = .ok (.aload_n 0, 1) := by decide +kernel
theorem dX10_undisturbed_31 : decode cX10_undisturbed 31 = .ok (.new 249, 3) := by decide +kernel
theorem dX10_undisturbed_34 : decode cX10_undisturbed 34 = .ok (.dup, 1) := by decide +kernel
theorem dX10_undisturbed_35 : decode cX10_undisturbed 35 = .ok (.aload_n 0, 1) := by decide +kernel
theorem dX10_undisturbed_36 : decode cX10_undisturbed 36 = .ok (.getfield 23, 3) := by decide +kernel
theorem dX10_undisturbed_39 : decode cX10_undisturbed 39 = .ok (.invokespecial 251, 3) := by decide +kernel
theorem dX10_undisturbed_42 : decode cX10_undisturbed 42 = .ok (.putfield 270, 3) := by decide +kernel
theorem dX10_undisturbed_45 : decode cX10_undisturbed 45 = .ok (.aload_n 0, 1) := by decide +kernel
theorem dX10_undisturbed_46 : decode cX10_undisturbed 46 = .ok (.getfield 270, 3) := by decide +kernel
theorem dX10_undisturbed_49 : decode cX10_undisturbed 49 = .ok (.aload_n 0, 1) := by decide +kernel
theorem dX10_undisturbed_50 : decode cX10_undisturbed 50 = .ok (.getfield 39, 3) := by decide +kernel
theorem dX10_undisturbed_53 : decode cX10_undisturbed 53 = .ok (.iload_n 1, 1) := by decide +kernel
theorem dX10_undisturbed_54 : decode cX10_undisturbed 54 = .ok (.invokevirtual 252, 3) := by decide +kernel
theorem dX10_undisturbed_57 : decode cX10_undisturbed 57 = .ok (.aload_n 0, 1) := by decide +kernel
theorem dX10_undisturbed_58 : decode cX10_undisturbed 58 = .ok (.getfield 270, 3) := by decide +kernel
theorem dX10_undisturbed_61 : decode cX10_undisturbed 61 = .ok (.aload_n 0, 1) := by decide +kernel
theorem dX10_undisturbed_62 : decode cX10_undisturbed 62 = .ok (.getfield 39, 3) := by decide +kernel
theorem dX10_undisturbed_65 : decode cX10_undisturbed 65 = .ok (.aload_n 0, 1) := by decide +kernel
theorem dX10_undisturbed_66 : decode cX10_undisturbed 66 = .ok (.getfield 32, 3) := by decide +kernel
theorem dX10_undisturbed_69 : decode cX10_undisturbed 69 = .ok (.getfield 109, 3) := by decide +kernel
theorem dX10_undisturbed_72 : decode cX10_undisturbed 72 = .ok (.getfield 132, 3) := by decide +kernel
theorem dX10_undisturbed_75 : decode cX10_undisturbed 75 = .ok (.invokevirtual 256, 3) := by decide +kernel
theorem dX10_undisturbed_78 : decode cX10_undisturbed 78 = .ok (.aload_n 0, 1) := by decide +kernel
theorem dX10_undisturbed_79 : decode cX10_undisturbed 79 = .ok (.getfield 32, 3) := by decide +kernel
theorem dX10_undisturbed_82 : decode cX10_undisturbed 82 = .ok (.iload_n 1, 1) := by decide +kernel
theorem dX10_undisturbed_83 : decode cX10_undisturbed 83 = .ok (.aload_n 0, 1) := by decide +kernel
theorem dX10_undisturbed_84 : decode cX10_undisturbed 84 = .ok (.getfield 270, 3) := by decide +kernel
theorem dX10_undisturbed_87 : decode cX10_undisturbed 87 = .ok (.getfield 269, 3) := by decide +kernel
theorem dX10_undisturbed_90 : decode cX10_undisturbed 90 = .ok (.invokevirtual 273, 3) := by decide +kernel
theorem dX10_undisturbed_93 : decode cX10_undisturbed 93 = .ok (.ifCond .eq 7, 3) := by decide +kernel
theorem dX10_undisturbed_96 : decode cX10_undisturbed 96 = .ok (.iconst 1, 1) := by decide +kernel
theorem dX10_undisturbed_97 : decode cX10_undisturbed 97 = .ok (.goto 4, 3) := by decide +kernel
theorem dX10_undisturbed_100 : decode cX10_undisturbed 100 = .ok (.iconst 0, 1) := by decide +kernel
theorem dX10_undisturbed_101 : decode cX10_undisturbed 101 = .ok (.ireturn, 1) := by decide +kernel
theorem dX10_isSchedule_0 : decode cX10_isSchedule 0 = .ok (.iload_n 0, 1) := by decide +kernel
theorem dX10_isSchedule_1 : decode cX10_isSchedule 1 = .ok (.ifCond .lt 12, 3) := by decide +kernel
theorem dX10_isSchedule_4 : decode cX10_isSchedule 4 = .ok (.iload_n 0, 1) := by decide +kernel
theorem dX10_isSchedule_5 : decode cX10_isSchedule 5 = .ok (.iconst 3, 1) := by decide +kernel
theorem dX10_isSchedule_6 : decode cX10_isSchedule 6 = .ok (.if_icmp .ge 7, 3) := by decide +kernel
theorem dX10_isSchedule_9 : decode cX10_isSchedule 9 = .ok (.iconst 1, 1) := by decide +kernel
theorem dX10_isSchedule_10 : decode cX10_isSchedule 10 = .ok (.goto 4, 3) := by decide +kernel
theorem dX10_isSchedule_13 : decode cX10_isSchedule 13 = .ok (.iconst 0, 1) := by decide +kernel
theorem dX10_isSchedule_14 : decode cX10_isSchedule 14 = .ok (.ireturn, 1) := by decide +kernel
theorem dX10_operation_0 : decode cX10_operation 0 = .ok (.iload_n 0, 1) := by decide +kernel
theorem dX10_operation_1 : decode cX10_operation 1 = .ok (.sipush 255, 3) := by decide +kernel
theorem dX10_operation_4 : decode cX10_operation 4 = .ok (.iand, 1) := by decide +kernel
theorem dX10_operation_5 : decode cX10_operation 5 = .ok (.ireturn, 1) := by decide +kernel
theorem dX10_partA_0 : decode cX10_partA 0 = .ok (.iload_n 0, 1) := by decide +kernel
theorem dX10_partA_1 : decode cX10_partA 1 = .ok (.bipush 8, 2) := by decide +kernel
theorem dX10_partA_3 : decode cX10_partA 3 = .ok (.iushr, 1) := by decide +kernel
theorem dX10_partA_4 : decode cX10_partA 4 = .ok (.sipush 255, 3) := by decide +kernel
