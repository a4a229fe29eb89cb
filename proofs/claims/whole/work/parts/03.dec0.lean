theorem dX0_init_0 : decode cX0_init 0 = .ok (.aload_n 0, 1) := by decide +kernel
theorem dX0_init_1 : decode cX0_init 1 = .ok (.invokespecial 3, 3) := by decide +kernel
theorem dX0_init_4 : decode cX0_init 4 = .ok (.aload_n 0, 1) := by decide +kernel
theorem dX0_init_5 : decode cX0_init 5 = .ok (.bipush 7, 2) := by decide +kernel
theorem dX0_init_7 : decode cX0_init 7 = .ok (.newarray .int, 2) := by decide +kernel
theorem dX0_init_9 : decode cX0_init 9 = .ok (.putfield 9, 3) := by decide +kernel
theorem dX0_init_12 : decode cX0_init 12 = .ok (.aload_n 0, 1) := by decide +kernel
theorem dX0_init_13 : decode cX0_init 13 = .ok (.bipush 7, 2) := by decide +kernel
theorem dX0_init_15 : decode cX0_init 15 = .ok (.newarray .int, 2) := by decide +kernel
theorem dX0_init_17 : decode cX0_init 17 = .ok (.putfield 15, 3) := by decide +kernel
theorem dX0_init_20 : decode cX0_init 20 = .ok (.aload_n 0, 1) := by decide +kernel
theorem dX0_init_21 : decode cX0_init 21 = .ok (.bipush 7, 2) := by decide +kernel
theorem dX0_init_23 : decode cX0_init 23 = .ok (.newarray .int, 2) := by decide +kernel
theorem dX0_init_25 : decode cX0_init 25 = .ok (.putfield 18, 3) := by decide +kernel
theorem dX0_init_28 : decode cX0_init 28 = .ok (.aload_n 0, 1) := by decide +kernel
theorem dX0_init_29 : decode cX0_init 29 = .ok (.bipush 7, 2) := by decide +kernel
theorem dX0_init_31 : decode cX0_init 31 = .ok (.newarray .int, 2) := by decide +kernel
theorem dX0_init_33 : decode cX0_init 33 = .ok (.putfield 21, 3) := by decide +kernel
theorem dX0_init_36 : decode cX0_init 36 = .ok (.return_, 1) := by decide +kernel
theorem dX0_become_0 : decode cX0_become 0 = .ok (.aload_n 1, 1) := by decide +kernel
theorem dX0_become_1 : decode cX0_become 1 = .ok (.getfield 9, 3) := by decide +kernel
theorem dX0_become_4 : decode cX0_become 4 = .ok (.iconst 0, 1) := by decide +kernel
theorem dX0_become_5 : decode cX0_become 5 = .ok (.aload_n 0, 1) := by decide +kernel
theorem dX0_become_6 : decode cX0_become 6 = .ok (.getfield 9, 3) := by decide +kernel
theorem dX0_become_9 : decode cX0_become 9 = .ok (.iconst 0, 1) := by decide +kernel
theorem dX0_become_10 : decode cX0_become 10 = .ok (.aload_n 1, 1) := by decide +kernel
theorem dX0_become_11 : decode cX0_become 11 = .ok (.getfield 24, 3) := by decide +kernel
theorem dX0_become_14 : decode cX0_become 14 = .ok (.invokestatic 28, 3) := by decide +kernel
theorem dX0_become_17 : decode cX0_become 17 = .ok (.aload_n 1, 1) := by decide +kernel
theorem dX0_become_18 : decode cX0_become 18 = .ok (.getfield 15, 3) := by decide +kernel
theorem dX0_become_21 : decode cX0_become 21 = .ok (.iconst 0, 1) := by decide +kernel
theorem dX0_become_22 : decode cX0_become 22 = .ok (.aload_n 0, 1) := by decide +kernel
theorem dX0_become_23 : decode cX0_become 23 = .ok (.getfield 15, 3) := by decide +kernel
theorem dX0_become_26 : decode cX0_become 26 = .ok (.iconst 0, 1) := by decide +kernel
theorem dX0_become_27 : decode cX0_become 27 = .ok (.aload_n 1, 1) := by decide +kernel
theorem dX0_become_28 : decode cX0_become 28 = .ok (.getfield 24, 3) := by decide +kernel
theorem dX0_become_31 : decode cX0_become 31 = .ok (.invokestatic 28, 3) := by decide +kernel
theorem dX0_become_34 : decode cX0_become 34 = .ok (.aload_n 1, 1) := by decide +kernel
theorem dX0_become_35 : decode cX0_become 35 = .ok (.getfield 18, 3) := by decide +kernel
theorem dX0_become_38 : decode cX0_become 38 = .ok (.iconst 0, 1) := by decide +kernel
theorem dX0_become_39 : decode cX0_become 39 = .ok (.aload_n 0, 1) := by decide +kernel
theorem dX0_become_40 : decode cX0_become 40 = .ok (.getfield 18, 3) := by decide +kernel
theorem dX0_become_43 : decode cX0_become 43 = .ok (.iconst 0, 1) := by decide +kernel
theorem dX0_become_44 : decode cX0_become 44 = .ok (.aload_n 1, 1) := by decide +kernel
theorem dX0_become_45 : decode cX0_become 45 = .ok (.getfield 24, 3) := by decide +kernel
theorem dX0_become_48 : decode cX0_become 48 = .ok (.invokestatic 28, 3) := by decide +kernel
theorem dX0_become_51 : decode cX0_become 51 = .ok (.aload_n 1, 1) := by decide +kernel
theorem dX0_become_52 : decode cX0_become 52 = .ok (.getfield 21, 3) := by decide +kernel
theorem dX0_become_55 : decode cX0_become 55 = .ok (.iconst 0, 1) := by decide +kernel
theorem dX0_become_56 : decode cX0_become 56 = .ok (.aload_n 0, 1) := by decide +kernel
theorem dX0_become_57 : decode cX0_become 57 = .ok (.getfield 21, 3) := by decide +kernel
theorem dX0_become_60 : decode cX0_become 60 = .ok (.iconst 0, 1) := by decide +kernel
theorem dX0_become_61 : decode cX0_become 61 = .ok (.aload_n 1, 1) := by decide +kernel
theorem dX0_become_62 : decode cX0_become 62 = .ok (.getfield 24, 3) := by decide +kernel
theorem dX0_become_65 : decode cX0_become 65 = .ok (.invokestatic 28, 3) := by decide +kernel
theorem dX0_become_68 : decode cX0_become 68 = .ok (.aload_n 0, 1) := by decide +kernel
theorem dX0_become_69 : decode cX0_become 69 = .ok (.aload_n 1, 1) := by decide +kernel
theorem dX0_become_70 : decode cX0_become 70 = .ok (.getfield 24, 3) := by decide +kernel
theorem dX0_become_73 : decode cX0_become 73 = .ok (.putfield 24, 3) := by decide +kernel
theorem dX0_become_76 : decode cX0_become 76 = .ok (.aload_n 0, 1) := by decide +kernel
theorem dX0_become_77 : decode cX0_become 77 = .ok (.aload_n 1, 1) := by decide +kernel
theorem dX0_become_78 : decode cX0_become 78 = .ok (.getfield 34, 3) := by decide +kernel
theorem dX0_become_81 : decode cX0_become 81 = .ok (.putfield 34, 3) := by decide +kernel
theorem dX0_become_84 : decode cX0_become 84 = .ok (.aload_n 0, 1) := by decide +kernel
theorem dX0_become_85 : decode cX0_become 85 = .ok (.aload_n 1, 1) := by decide +kernel
theorem dX0_become_86 : decode cX0_become 86 = .ok (.getfield 37, 3) := by decide +kernel
theorem dX0_become_89 : decode cX0_become 89 = .ok (.putfield 37, 3) := by decide +kernel
theorem dX0_become_92 : decode cX0_become 92 = .ok (.aload_n 0, 1) := by decide +kernel
theorem dX0_become_93 : decode cX0_become 93 = .ok (.aload_n 1, 1) := by decide +kernel
theorem dX0_become_94 : decode cX0_become 94 = .ok (.getfield 40, 3) := by decide +kernel
theorem dX0_become_97 : decode cX0_become 97 = .ok (.putfield 40, 3) := by decide +kernel
theorem dX0_become_100 : decode cX0_become 100 = .ok (.aload_n 0, 1) := by decide +kernel
theorem dX0_become_101 : decode cX0_become 101 = .ok (.aload_n 1, 1) := by decide +kernel
theorem dX0_become_102 : decode cX0_become 102 = .ok (.getfield 43, 3) := by decide +kernel
theorem dX0_become_105 : decode cX0_become 105 = .ok (.putfield 43, 3) := by decide +kernel
theorem dX0_become_108 : decode cX0_become 108 = .ok (.return_, 1) := by decide +kernel
theorem dX0_begin_0 : decode cX0_begin 0 = .ok (.aload_n 0, 1) := by decide +kernel
theorem dX0_begin_1 : decode cX0_begin 1 = .ok (.iconst 0, 1) := by decide +kernel
theorem dX0_begin_2 : decode cX0_begin 2 = .ok (.putfield 24, 3) := by decide +kernel
theorem dX0_begin_5 : decode cX0_begin 5 = .ok (.aload_n 0, 1) := by decide +kernel
theorem dX0_begin_6 : decode cX0_begin 6 = .ok (.iload_n 1, 1) := by decide +kernel
theorem dX0_begin_7 : decode cX0_begin 7 = .ok (.putfield 34, 3) := by decide +kernel
theorem dX0_begin_10 : decode cX0_begin 10 = .ok (.aload_n 0, 1) := by decide +kernel
theorem dX0_begin_11 : decode cX0_begin 11 = .ok (.iconst 0, 1) := by decide +kernel
theorem dX0_begin_12 : decode cX0_begin 12 = .ok (.putfield 37, 3) := by decide +kernel
theorem dX0_begin_15 : decode cX0_begin 15 = .ok (.aload_n 0, 1) := by decide +kernel
theorem dX0_begin_16 : decode cX0_begin 16 = .ok (.iconst 0, 1) := by decide +kernel
theorem dX0_begin_17 : decode cX0_begin 17 = .ok (.putfield 40, 3) := by decide +kernel
theorem dX0_begin_20 : decode cX0_begin 20 = .ok (.aload_n 0, 1) := by decide +kernel
theorem dX0_begin_21 : decode cX0_begin 21 = .ok (.iconst 0, 1) := by decide +kernel
theorem dX0_begin_22 : decode cX0_begin 22 = .ok (.putfield 43, 3) := by decide +kernel
theorem dX0_begin_25 : decode cX0_begin 25 = .ok (.return_, 1) := by decide +kernel
theorem dX0_addDrum_0 : decode cX0_addDrum 0 = .ok (.aload_n 0, 1) := by decide +kernel
theorem dX0_addDrum_1 : decode cX0_addDrum 1 = .ok (.getfield 24, 3) := by decide +kernel
theorem dX0_addDrum_4 : decode cX0_addDrum 4 = .ok (.bipush 7, 2) := by decide +kernel
theorem dX0_addDrum_6 : decode cX0_addDrum 6 = .ok (.if_icmp .ge 53, 3) := by decide +kernel
theorem dX0_addDrum_9 : decode cX0_addDrum 9 = .ok (.aload_n 0, 1) := by decide +kernel
theorem dX0_addDrum_10 : decode cX0_addDrum 10 = .ok (.getfield 9, 3) := by decide +kernel
theorem dX0_addDrum_13 : decode cX0_addDrum 13 = .ok (.aload_n 0, 1) := by decide +kernel
theorem dX0_addDrum_14 : decode cX0_addDrum 14 = .ok (.getfield 24, 3) := by decide +kernel
theorem dX0_addDrum_17 : decode cX0_addDrum 17 = .ok (.iload_n 1, 1) := by decide +kernel
theorem dX0_addDrum_18 : decode cX0_addDrum 18 = .ok (.iastore, 1) := by decide +kernel
theorem dX0_addDrum_19 : decode cX0_addDrum 19 = .ok (.aload_n 0, 1) := by decide +kernel
theorem dX0_addDrum_20 : decode cX0_addDrum 20 = .ok (.getfield 15, 3) := by decide +kernel
theorem dX0_addDrum_23 : decode cX0_addDrum 23 = .ok (.aload_n 0, 1) := by decide +kernel
theorem dX0_addDrum_24 : decode cX0_addDrum 24 = .ok (.getfield 24, 3) := by decide +kernel
theorem dX0_addDrum_27 : decode cX0_addDrum 27 = .ok (.iload_n 2, 1) := by decide +kernel
theorem dX0_addDrum_28 : decode cX0_addDrum 28 = .ok (.iastore, 1) := by decide +kernel
theorem dX0_addDrum_29 : decode cX0_addDrum 29 = .ok (.aload_n 0, 1) := by decide +kernel
theorem dX0_addDrum_30 : decode cX0_addDrum 30 = .ok (.getfield 18, 3) := by decide +kernel
theorem dX0_addDrum_33 : decode cX0_addDrum 33 = .ok (.aload_n 0, 1) := by decide +kernel
theorem dX0_addDrum_34 : decode cX0_addDrum 34 = .ok (.getfield 24, 3) := by decide +kernel
theorem dX0_addDrum_37 : decode cX0_addDrum 37 = .ok (.iload_n 2, 1) := by decide +kernel
theorem dX0_addDrum_38 : decode cX0_addDrum 38 = .ok (.iastore, 1) := by decide +kernel
theorem dX0_addDrum_39 : decode cX0_addDrum 39 = .ok (.aload_n 0, 1) := by decide +kernel
theorem dX0_addDrum_40 : decode cX0_addDrum 40 = .ok (.getfield 21, 3) := by decide +kernel
theorem dX0_addDrum_43 : decode cX0_addDrum 43 = .ok (.aload_n 0, 1) := by decide +kernel
theorem dX0_addDrum_44 : decode cX0_addDrum 44 = .ok (.getfield 24, 3) := by decide +kernel
theorem dX0_addDrum_47 : decode cX0_addDrum 47 = .ok (.iload_n 3, 1) := by decide +kernel
theorem dX0_addDrum_48 : decode cX0_addDrum 48 = .ok (.iastore, 1) := by decide +kernel
theorem dX0_addDrum_49 : decode cX0_addDrum 49 = .ok (.aload_n 0, 1) := by decide +kernel
theorem dX0_addDrum_50 : decode cX0_addDrum 50 = .ok (.dup, 1) := by decide +kernel
theorem dX0_addDrum_51 : decode cX0_addDrum 51 = .ok (.getfield 24, 3) := by decide +kernel
theorem dX0_addDrum_54 : decode cX0_addDrum 54 = .ok (.iconst 1, 1) := by decide +kernel
theorem dX0_addDrum_55 : decode cX0_addDrum 55 = .ok (.iadd, 1) := by decide +kernel
theorem dX0_addDrum_56 : decode cX0_addDrum 56 = .ok (.putfield 24, 3) := by decide +kernel
theorem dX0_addDrum_59 : decode cX0_addDrum 59 = .ok (.return_, 1) := by decide +kernel
theorem dX0_isJammed_0 : decode cX0_isJammed 0 = .ok (.aload_n 0, 1) := by decide +kernel
theorem dX0_isJammed_1 : decode cX0_isJammed 1 = .ok (.getfield 43, 3) := by decide +kernel
theorem dX0_isJammed_4 : decode cX0_isJammed 4 = .ok (.iload_n 1, 1) := by decide +kernel
theorem dX0_isJammed_5 : decode cX0_isJammed 5 = .ok (.ishr, 1) := by decide +kernel
theorem dX0_isJammed_6 : decode cX0_isJammed 6 = .ok (.iconst 1, 1) := by decide +kernel
theorem dX0_isJammed_7 : decode cX0_isJammed 7 = .ok (.iand, 1) := by decide +kernel
theorem dX0_isJammed_8 : decode cX0_isJammed 8 = .ok (.ifCond .eq 7, 3) := by decide +kernel
theorem dX0_isJammed_11 : decode cX0_isJammed 11 = .ok (.iconst 1, 1) := by decide +kernel
theorem dX0_isJammed_12 : decode cX0_isJammed 12 = .ok (.goto 4, 3) := by decide +kernel
theorem dX0_isJammed_15 : decode cX0_isJammed 15 = .ok (.iconst 0, 1) := by decide +kernel
theorem dX0_isJammed_16 : decode cX0_isJammed 16 = .ok (.ireturn, 1) := by decide +kernel
theorem dX0_isReady_0 : decode cX0_isReady 0 = .ok (.aload_n 0, 1) := by decide +kernel
theorem dX0_isReady_1 : decode cX0_isReady 1 = .ok (.getfield 15, 3) := by decide +kernel
theorem dX0_isReady_4 : decode cX0_isReady 4 = .ok (.iload_n 1, 1) := by decide +kernel
theorem dX0_isReady_5 : decode cX0_isReady 5 = .ok (.iaload, 1) := by decide +kernel
theorem dX0_isReady_6 : decode cX0_isReady 6 = .ok (.aload_n 0, 1) := by decide +kernel
theorem dX0_isReady_7 : decode cX0_isReady 7 = .ok (.getfield 18, 3) := by decide +kernel
theorem dX0_isReady_10 : decode cX0_isReady 10 = .ok (.iload_n 1, 1) := by decide +kernel
theorem dX0_isReady_11 : decode cX0_isReady 11 = .ok (.iaload, 1) := by decide +kernel
theorem dX0_isReady_12 : decode cX0_isReady 12 = .ok (.if_icmp .eq 15, 3) := by decide +kernel
theorem dX0_isReady_15 : decode cX0_isReady 15 = .ok (.aload_n 0, 1) := by decide +kernel
theorem dX0_isReady_16 : decode cX0_isReady 16 = .ok (.iload_n 1, 1) := by decide +kernel
theorem dX0_isReady_17 : decode cX0_isReady 17 = .ok (.invokevirtual 46, 3) := by decide +kernel
theorem dX0_isReady_20 : decode cX0_isReady 20 = .ok (.ifCond .eq 7, 3) := by decide +kernel
theorem dX0_isReady_23 : decode cX0_isReady 23 = .ok (.iconst 1, 1) := by decide +kernel
theorem dX0_isReady_24 : decode cX0_isReady 24 = .ok (.goto 4, 3) := by decide +kernel
theorem dX0_isReady_27 : decode cX0_isReady 27 = .ok (.iconst 0, 1) := by decide +kernel
theorem dX0_isReady_28 : decode cX0_isReady 28 = .ok (.ireturn, 1) := by decide +kernel
theorem dX0_isDue_0 : decode cX0_isDue 0 = .ok (.aload_n 0, 1) := by decide +kernel
theorem dX0_isDue_1 : decode cX0_isDue 1 = .ok (.getfield 9, 3) := by decide +kernel
theorem dX0_isDue_4 : decode cX0_isDue 4 = .ok (.iload_n 1, 1) := by decide +kernel
theorem dX0_isDue_5 : decode cX0_isDue 5 = .ok (.iaload, 1) := by decide +kernel
theorem dX0_isDue_6 : decode cX0_isDue 6 = .ok (.iconst 4, 1) := by decide +kernel
theorem dX0_isDue_7 : decode cX0_isDue 7 = .ok (.if_icmp .ne 33, 3) := by decide +kernel
theorem dX0_isDue_10 : decode cX0_isDue 10 = .ok (.aload_n 0, 1) := by decide +kernel
theorem dX0_isDue_11 : decode cX0_isDue 11 = .ok (.getfield 15, 3) := by decide +kernel
theorem dX0_isDue_14 : decode cX0_isDue 14 = .ok (.iload_n 1, 1) := by decide +kernel
theorem dX0_isDue_15 : decode cX0_isDue 15 = .ok (.iaload, 1) := by decide +kernel
theorem dX0_isDue_16 : decode cX0_isDue 16 = .ok (.aload_n 0, 1) := by decide +kernel
theorem dX0_isDue_17 : decode cX0_isDue 17 = .ok (.getfield 21, 3) := by decide +kernel
theorem dX0_isDue_20 : decode cX0_isDue 20 = .ok (.iload_n 1, 1) := by decide +kernel
theorem dX0_isDue_21 : decode cX0_isDue 21 = .ok (.iaload, 1) := by decide +kernel
theorem dX0_isDue_22 : decode cX0_isDue 22 = .ok (.if_icmp .ne 18, 3) := by decide +kernel
theorem dX0_isDue_25 : decode cX0_isDue 25 = .ok (.aload_n 0, 1) := by decide +kernel
theorem dX0_isDue_26 : decode cX0_isDue 26 = .ok (.getfield 37, 3) := by decide +kernel
theorem dX0_isDue_29 : decode cX0_isDue 29 = .ok (.iconst 4, 1) := by decide +kernel
theorem dX0_isDue_30 : decode cX0_isDue 30 = .ok (.irem, 1) := by decide +kernel
theorem dX0_isDue_31 : decode cX0_isDue 31 = .ok (.ifCond .ne 7, 3) := by decide +kernel
theorem dX0_isDue_34 : decode cX0_isDue 34 = .ok (.iconst 1, 1) := by decide +kernel
theorem dX0_isDue_35 : decode cX0_isDue 35 = .ok (.goto 4, 3) := by decide +kernel
theorem dX0_isDue_38 : decode cX0_isDue 38 = .ok (.iconst 0, 1) := by decide +kernel
theorem dX0_isDue_39 : decode cX0_isDue 39 = .ok (.ireturn, 1) := by decide +kernel
theorem dX0_isDue_40 : decode cX0_isDue 40 = .ok (.aload_n 0, 1) := by decide +kernel
theorem dX0_isDue_41 : decode cX0_isDue 41 = .ok (.getfield 37, 3) := by decide +kernel
theorem dX0_isDue_44 : decode cX0_isDue 44 = .ok (.iconst 2, 1) := by decide +kernel
theorem dX0_isDue_45 : decode cX0_isDue 45 = .ok (.irem, 1) := by decide +kernel
theorem dX0_isDue_46 : decode cX0_isDue 46 = .ok (.ifCond .eq 23, 3) := by decide +kernel
theorem dX0_isDue_49 : decode cX0_isDue 49 = .ok (.aload_n 0, 1) := by decide +kernel
theorem dX0_isDue_50 : decode cX0_isDue 50 = .ok (.getfield 9, 3) := by decide +kernel
theorem dX0_isDue_53 : decode cX0_isDue 53 = .ok (.iload_n 1, 1) := by decide +kernel
theorem dX0_isDue_54 : decode cX0_isDue 54 = .ok (.iaload, 1) := by decide +kernel
theorem dX0_isDue_55 : decode cX0_isDue 55 = .ok (.iconst 1, 1) := by decide +kernel
theorem dX0_isDue_56 : decode cX0_isDue 56 = .ok (.if_icmp .eq 17, 3) := by decide +kernel
theorem dX0_isDue_59 : decode cX0_isDue 59 = .ok (.aload_n 0, 1) := by decide +kernel
theorem dX0_isDue_60 : decode cX0_isDue 60 = .ok (.getfield 9, 3) := by decide +kernel
theorem dX0_isDue_63 : decode cX0_isDue 63 = .ok (.iload_n 1, 1) := by decide +kernel
theorem dX0_isDue_64 : decode cX0_isDue 64 = .ok (.iaload, 1) := by decide +kernel
theorem dX0_isDue_65 : decode cX0_isDue 65 = .ok (.iconst 4, 1) := by decide +kernel
theorem dX0_isDue_66 : decode cX0_isDue 66 = .ok (.if_icmp .eq 7, 3) := by decide +kernel
theorem dX0_isDue_69 : decode cX0_isDue 69 = .ok (.iconst 1, 1) := by decide +kernel
theorem dX0_isDue_70 : decode cX0_isDue 70 = .ok (.goto 4, 3) := by decide +kernel
theorem dX0_isDue_73 : decode cX0_isDue 73 = .ok (.iconst 0, 1) := by decide +kernel
theorem dX0_isDue_74 : decode cX0_isDue 74 = .ok (.ireturn, 1) := by decide +kernel
theorem dX0_afterTurn_0 : decode cX0_afterTurn 0 = .ok (.aload_n 0, 1) := by decide +kernel
theorem dX0_afterTurn_1 : decode cX0_afterTurn 1 = .ok (.getfield 9, 3) := by decide +kernel
theorem dX0_afterTurn_4 : decode cX0_afterTurn 4 = .ok (.iload_n 1, 1) := by decide +kernel
theorem dX0_afterTurn_5 : decode cX0_afterTurn 5 = .ok (.iaload, 1) := by decide +kernel
theorem dX0_afterTurn_6 : decode cX0_afterTurn 6 = .ok (.tableswitch 90 2 5 #[45, 30, 90, 57], 30) := by decide +kernel
theorem dX0_afterTurn_36 : decode cX0_afterTurn 36 = .ok (.aload_n 0, 1) := by decide +kernel
theorem dX0_afterTurn_37 : decode cX0_afterTurn 37 = .ok (.getfield 15, 3) := by decide +kernel
theorem dX0_afterTurn_40 : decode cX0_afterTurn 40 = .ok (.iload_n 1, 1) := by decide +kernel
theorem dX0_afterTurn_41 : decode cX0_afterTurn 41 = .ok (.iaload, 1) := by decide +kernel
theorem dX0_afterTurn_42 : decode cX0_afterTurn 42 = .ok (.bipush 10, 2) := by decide +kernel
theorem dX0_afterTurn_44 : decode cX0_afterTurn 44 = .ok (.iadd, 1) := by decide +kernel
theorem dX0_afterTurn_45 : decode cX0_afterTurn 45 = .ok (.iconst 1, 1) := by decide +kernel
theorem dX0_afterTurn_46 : decode cX0_afterTurn 46 = .ok (.isub, 1) := by decide +kernel
theorem dX0_afterTurn_47 : decode cX0_afterTurn 47 = .ok (.bipush 10, 2) := by decide +kernel
theorem dX0_afterTurn_49 : decode cX0_afterTurn 49 = .ok (.irem, 1) := by decide +kernel
theorem dX0_afterTurn_50 : decode cX0_afterTurn 50 = .ok (.ireturn, 1) := by decide +kernel
theorem dX0_afterTurn_51 : decode cX0_afterTurn 51 = .ok (.aload_n 0, 1) := by decide +kernel
theorem dX0_afterTurn_52 : decode cX0_afterTurn 52 = .ok (.aload_n 0, 1) := by decide +kernel
theorem dX0_afterTurn_53 : decode cX0_afterTurn 53 = .ok (.getfield 15, 3) := by decide +kernel
theorem dX0_afterTurn_56 : decode cX0_afterTurn 56 = .ok (.iload_n 1, 1) := by decide +kernel
theorem dX0_afterTurn_57 : decode cX0_afterTurn 57 = .ok (.iaload, 1) := by decide +kernel
theorem dX0_afterTurn_58 : decode cX0_afterTurn 58 = .ok (.iload_n 1, 1) := by decide +kernel
theorem dX0_afterTurn_59 : decode cX0_afterTurn 59 = .ok (.invokevirtual 50, 3) := by decide +kernel
theorem dX0_afterTurn_62 : decode cX0_afterTurn 62 = .ok (.ireturn, 1) := by decide +kernel
theorem dX0_afterTurn_63 : decode cX0_afterTurn 63 = .ok (.aload_n 0, 1) := by decide +kernel
theorem dX0_afterTurn_64 : decode cX0_afterTurn 64 = .ok (.aload_n 0, 1) := by decide +kernel
theorem dX0_afterTurn_65 : decode cX0_afterTurn 65 = .ok (.getfield 15, 3) := by decide +kernel
theorem dX0_afterTurn_68 : decode cX0_afterTurn 68 = .ok (.iload_n 1, 1) := by decide +kernel
theorem dX0_afterTurn_69 : decode cX0_afterTurn 69 = .ok (.iaload, 1) := by decide +kernel
theorem dX0_afterTurn_70 : decode cX0_afterTurn 70 = .ok (.iload_n 1, 1) := by decide +kernel
theorem dX0_afterTurn_71 : decode cX0_afterTurn 71 = .ok (.invokevirtual 50, 3) := by decide +kernel
theorem dX0_afterTurn_74 : decode cX0_afterTurn 74 = .ok (.istore_n 2, 1) := by decide +kernel
theorem dX0_afterTurn_75 : decode cX0_afterTurn 75 = .ok (.iload_n 2, 1) := by decide +kernel
theorem dX0_afterTurn_76 : decode cX0_afterTurn 76 = .ok (.aload_n 0, 1) := by decide +kernel
theorem dX0_afterTurn_77 : decode cX0_afterTurn 77 = .ok (.getfield 18, 3) := by decide +kernel
theorem dX0_afterTurn_80 : decode cX0_afterTurn 80 = .ok (.iload_n 1, 1) := by decide +kernel
theorem dX0_afterTurn_81 : decode cX0_afterTurn 81 = .ok (.iaload, 1) := by decide +kernel
theorem dX0_afterTurn_82 : decode cX0_afterTurn 82 = .ok (.if_icmp .ne 7, 3) := by decide +kernel
theorem dX0_afterTurn_85 : decode cX0_afterTurn 85 = .ok (.iload_n 2, 1) := by decide +kernel
theorem dX0_afterTurn_86 : decode cX0_afterTurn 86 = .ok (.goto 9, 3) := by decide +kernel
theorem dX0_afterTurn_89 : decode cX0_afterTurn 89 = .ok (.aload_n 0, 1) := by decide +kernel
theorem dX0_afterTurn_90 : decode cX0_afterTurn 90 = .ok (.iload_n 2, 1) := by decide +kernel
theorem dX0_afterTurn_91 : decode cX0_afterTurn 91 = .ok (.iload_n 1, 1) := by decide +kernel
theorem dX0_afterTurn_92 : decode cX0_afterTurn 92 = .ok (.invokevirtual 50, 3) := by decide +kernel
theorem dX0_afterTurn_95 : decode cX0_afterTurn 95 = .ok (.ireturn, 1) := by decide +kernel
theorem dX0_afterTurn_96 : decode cX0_afterTurn 96 = .ok (.aload_n 0, 1) := by decide +kernel
theorem dX0_afterTurn_97 : decode cX0_afterTurn 97 = .ok (.getfield 15, 3) := by decide +kernel
theorem dX0_afterTurn_100 : decode cX0_afterTurn 100 = .ok (.iload_n 1, 1) := by decide +kernel
theorem dX0_afterTurn_101 : decode cX0_afterTurn 101 = .ok (.iaload, 1) := by decide +kernel
theorem dX0_afterTurn_102 : decode cX0_afterTurn 102 = .ok (.iconst 1, 1) := by decide +kernel
theorem dX0_afterTurn_103 : decode cX0_afterTurn 103 = .ok (.iadd, 1) := by decide +kernel
theorem dX0_afterTurn_104 : decode cX0_afterTurn 104 = .ok (.bipush 10, 2) := by decide +kernel
theorem dX0_afterTurn_106 : decode cX0_afterTurn 106 = .ok (.irem, 1) := by decide +kernel
theorem dX0_afterTurn_107 : decode cX0_afterTurn 107 = .ok (.ireturn, 1) := by decide +kernel
theorem dX0_skippedFrom_0 : decode cX0_skippedFrom 0 = .ok (.iload_n 1, 1) := by decide +kernel
theorem dX0_skippedFrom_1 : decode cX0_skippedFrom 1 = .ok (.iconst 1, 1) := by decide +kernel
theorem dX0_skippedFrom_2 : decode cX0_skippedFrom 2 = .ok (.iadd, 1) := by decide +kernel
theorem dX0_skippedFrom_3 : decode cX0_skippedFrom 3 = .ok (.bipush 10, 2) := by decide +kernel
theorem dX0_skippedFrom_5 : decode cX0_skippedFrom 5 = .ok (.irem, 1) := by decide +kernel
theorem dX0_skippedFrom_6 : decode cX0_skippedFrom 6 = .ok (.istore_n 3, 1) := by decide +kernel
theorem dX0_skippedFrom_7 : decode cX0_skippedFrom 7 = .ok (.iload_n 3, 1) := by decide +kernel
theorem dX0_skippedFrom_8 : decode cX0_skippedFrom 8 = .ok (.aload_n 0, 1) := by decide +kernel
theorem dX0_skippedFrom_9 : decode cX0_skippedFrom 9 = .ok (.getfield 21, 3) := by decide +kernel
theorem dX0_skippedFrom_12 : decode cX0_skippedFrom 12 = .ok (.iload_n 2, 1) := by decide +kernel
theorem dX0_skippedFrom_13 : decode cX0_skippedFrom 13 = .ok (.iaload, 1) := by decide +kernel
theorem dX0_skippedFrom_14 : decode cX0_skippedFrom 14 = .ok (.if_icmp .ne 27, 3) := by decide +kernel
theorem dX0_skippedFrom_17 : decode cX0_skippedFrom 17 = .ok (.aload_n 0, 1) := by decide +kernel
theorem dX0_skippedFrom_18 : decode cX0_skippedFrom 18 = .ok (.getfield 21, 3) := by decide +kernel
theorem dX0_skippedFrom_21 : decode cX0_skippedFrom 21 = .ok (.iload_n 2, 1) := by decide +kernel
theorem dX0_skippedFrom_22 : decode cX0_skippedFrom 22 = .ok (.iaload, 1) := by decide +kernel
theorem dX0_skippedFrom_23 : decode cX0_skippedFrom 23 = .ok (.aload_n 0, 1) := by decide +kernel
theorem dX0_skippedFrom_24 : decode cX0_skippedFrom 24 = .ok (.getfield 18, 3) := by decide +kernel
theorem dX0_skippedFrom_27 : decode cX0_skippedFrom 27 = .ok (.iload_n 2, 1) := by decide +kernel
theorem dX0_skippedFrom_28 : decode cX0_skippedFrom 28 = .ok (.iaload, 1) := by decide +kernel
theorem dX0_skippedFrom_29 : decode cX0_skippedFrom 29 = .ok (.if_icmp .eq 12, 3) := by decide +kernel
theorem dX0_skippedFrom_32 : decode cX0_skippedFrom 32 = .ok (.iload_n 3, 1) := by decide +kernel
theorem dX0_skippedFrom_33 : decode cX0_skippedFrom 33 = .ok (.iconst 1, 1) := by decide +kernel
theorem dX0_skippedFrom_34 : decode cX0_skippedFrom 34 = .ok (.iadd, 1) := by decide +kernel
theorem dX0_skippedFrom_35 : decode cX0_skippedFrom 35 = .ok (.bipush 10, 2) := by decide +kernel
theorem dX0_skippedFrom_37 : decode cX0_skippedFrom 37 = .ok (.irem, 1) := by decide +kernel
theorem dX0_skippedFrom_38 : decode cX0_skippedFrom 38 = .ok (.goto 4, 3) := by decide +kernel
theorem dX0_skippedFrom_41 : decode cX0_skippedFrom 41 = .ok (.iload_n 3, 1) := by decide +kernel
theorem dX0_skippedFrom_42 : decode cX0_skippedFrom 42 = .ok (.ireturn, 1) := by decide +kernel
theorem dX0_step_0 : decode cX0_step 0 = .ok (.aload_n 0, 1) := by decide +kernel
theorem dX0_step_1 : decode cX0_step 1 = .ok (.getfield 34, 3) := by decide +kernel
theorem dX0_step_4 : decode cX0_step 4 = .ok (.istore_n 1, 1) := by decide +kernel
theorem dX0_step_5 : decode cX0_step 5 = .ok (.iconst 0, 1) := by decide +kernel
theorem dX0_step_6 : decode cX0_step 6 = .ok (.istore_n 2, 1) := by decide +kernel
theorem dX0_step_7 : decode cX0_step 7 = .ok (.iload_n 2, 1) := by decide +kernel
theorem dX0_step_8 : decode cX0_step 8 = .ok (.aload_n 0, 1) := by decide +kernel
theorem dX0_step_9 : decode cX0_step 9 = .ok (.getfield 24, 3) := by decide +kernel
theorem dX0_step_12 : decode cX0_step 12 = .ok (.if_icmp .ge 53, 3) := by decide +kernel
theorem dX0_step_15 : decode cX0_step 15 = .ok (.iload_n 1, 1) := by decide +kernel
theorem dX0_step_16 : decode cX0_step 16 = .ok (.ifCond .le 49, 3) := by decide +kernel
theorem dX0_step_19 : decode cX0_step 19 = .ok (.aload_n 0, 1) := by decide +kernel
theorem dX0_step_20 : decode cX0_step 20 = .ok (.iload_n 2, 1) := by decide +kernel
theorem dX0_step_21 : decode cX0_step 21 = .ok (.invokevirtual 54, 3) := by decide +kernel
theorem dX0_step_24 : decode cX0_step 24 = .ok (.ifCond .eq 35, 3) := by decide +kernel
theorem dX0_step_27 : decode cX0_step 27 = .ok (.aload_n 0, 1) := by decide +kernel
theorem dX0_step_28 : decode cX0_step 28 = .ok (.iload_n 2, 1) := by decide +kernel
theorem dX0_step_29 : decode cX0_step 29 = .ok (.invokevirtual 57, 3) := by decide +kernel
theorem dX0_step_32 : decode cX0_step 32 = .ok (.ifCond .ne 27, 3) := by decide +kernel
theorem dX0_step_35 : decode cX0_step 35 = .ok (.aload_n 0, 1) := by decide +kernel
theorem dX0_step_36 : decode cX0_step 36 = .ok (.getfield 15, 3) := by decide +kernel
theorem dX0_step_39 : decode cX0_step 39 = .ok (.iload_n 2, 1) := by decide +kernel
theorem dX0_step_40 : decode cX0_step 40 = .ok (.aload_n 0, 1) := by decide +kernel
theorem dX0_step_41 : decode cX0_step 41 = .ok (.iload_n 2, 1) := by decide +kernel
theorem dX0_step_42 : decode cX0_step 42 = .ok (.invokevirtual 60, 3) := by decide +kernel
theorem dX0_step_45 : decode cX0_step 45 = .ok (.iastore, 1) := by decide +kernel
theorem dX0_step_46 : decode cX0_step 46 = .ok (.aload_n 0, 1) := by decide +kernel
theorem dX0_step_47 : decode cX0_step 47 = .ok (.dup, 1) := by decide +kernel
theorem dX0_step_48 : decode cX0_step 48 = .ok (.getfield 40, 3) := by decide +kernel
theorem dX0_step_51 : decode cX0_step 51 = .ok (.iconst 1, 1) := by decide +kernel
theorem dX0_step_52 : decode cX0_step 52 = .ok (.iadd, 1) := by decide +kernel
theorem dX0_step_53 : decode cX0_step 53 = .ok (.putfield 40, 3) := by decide +kernel
theorem dX0_step_56 : decode cX0_step 56 = .ok (.iinc 1 (-1), 3) := by decide +kernel
theorem dX0_step_59 : decode cX0_step 59 = .ok (.iinc 2 1, 3) := by decide +kernel
theorem dX0_step_62 : decode cX0_step 62 = .ok (.goto (-55), 3) := by decide +kernel
theorem dX0_step_65 : decode cX0_step 65 = .ok (.aload_n 0, 1) := by decide +kernel
theorem dX0_step_66 : decode cX0_step 66 = .ok (.dup, 1) := by decide +kernel
theorem dX0_step_67 : decode cX0_step 67 = .ok (.getfield 37, 3) := by decide +kernel
theorem dX0_step_70 : decode cX0_step 70 = .ok (.iconst 1, 1) := by decide +kernel
theorem dX0_step_71 : decode cX0_step 71 = .ok (.iadd, 1) := by decide +kernel
theorem dX0_step_72 : decode cX0_step 72 = .ok (.putfield 37, 3) := by decide +kernel
theorem dX0_step_75 : decode cX0_step 75 = .ok (.return_, 1) := by decide +kernel
theorem dX0_stepOn_0 : decode cX0_stepOn 0 = .ok (.iconst 0, 1) := by decide +kernel
theorem dX0_stepOn_1 : decode cX0_stepOn 1 = .ok (.istore_n 2, 1) := by decide +kernel
theorem dX0_stepOn_2 : decode cX0_stepOn 2 = .ok (.iload_n 2, 1) := by decide +kernel
theorem dX0_stepOn_3 : decode cX0_stepOn 3 = .ok (.iload_n 1, 1) := by decide +kernel
theorem dX0_stepOn_4 : decode cX0_stepOn 4 = .ok (.if_icmp .ge 13, 3) := by decide +kernel
theorem dX0_stepOn_7 : decode cX0_stepOn 7 = .ok (.aload_n 0, 1) := by decide +kernel
theorem dX0_stepOn_8 : decode cX0_stepOn 8 = .ok (.invokevirtual 64, 3) := by decide +kernel
theorem dX0_stepOn_11 : decode cX0_stepOn 11 = .ok (.iinc 2 1, 3) := by decide +kernel
theorem dX0_stepOn_14 : decode cX0_stepOn 14 = .ok (.goto (-12), 3) := by decide +kernel
theorem dX0_stepOn_17 : decode cX0_stepOn 17 = .ok (.return_, 1) := by decide +kernel
theorem dX0_isTold_0 : decode cX0_isTold 0 = .ok (.iconst 0, 1) := by decide +kernel
theorem dX0_isTold_1 : decode cX0_isTold 1 = .ok (.istore_n 1, 1) := by decide +kernel
theorem dX0_isTold_2 : decode cX0_isTold 2 = .ok (.iload_n 1, 1) := by decide +kernel
theorem dX0_isTold_3 : decode cX0_isTold 3 = .ok (.aload_n 0, 1) := by decide +kernel
theorem dX0_isTold_4 : decode cX0_isTold 4 = .ok (.getfield 24, 3) := by decide +kernel
theorem dX0_isTold_7 : decode cX0_isTold 7 = .ok (.if_icmp .ge 26, 3) := by decide +kernel
theorem dX0_isTold_10 : decode cX0_isTold 10 = .ok (.aload_n 0, 1) := by decide +kernel
theorem dX0_isTold_11 : decode cX0_isTold 11 = .ok (.getfield 15, 3) := by decide +kernel
theorem dX0_isTold_14 : decode cX0_isTold 14 = .ok (.iload_n 1, 1) := by decide +kernel
theorem dX0_isTold_15 : decode cX0_isTold 15 = .ok (.iaload, 1) := by decide +kernel
theorem dX0_isTold_16 : decode cX0_isTold 16 = .ok (.aload_n 0, 1) := by decide +kernel
theorem dX0_isTold_17 : decode cX0_isTold 17 = .ok (.getfield 18, 3) := by decide +kernel
theorem dX0_isTold_20 : decode cX0_isTold 20 = .ok (.iload_n 1, 1) := by decide +kernel
theorem dX0_isTold_21 : decode cX0_isTold 21 = .ok (.iaload, 1) := by decide +kernel
theorem dX0_isTold_22 : decode cX0_isTold 22 = .ok (.if_icmp .eq 5, 3) := by decide +kernel
theorem dX0_isTold_25 : decode cX0_isTold 25 = .ok (.iconst 0, 1) := by decide +kernel
theorem dX0_isTold_26 : decode cX0_isTold 26 = .ok (.ireturn, 1) := by decide +kernel
theorem dX0_isTold_27 : decode cX0_isTold 27 = .ok (.iinc 1 1, 3) := by decide +kernel
theorem dX0_isTold_30 : decode cX0_isTold 30 = .ok (.goto (-28), 3) := by decide +kernel
theorem dX0_isTold_33 : decode cX0_isTold 33 = .ok (.iconst 1, 1) := by decide +kernel
theorem dX0_isTold_34 : decode cX0_isTold 34 = .ok (.ireturn, 1) := by decide +kernel
theorem dX0_rightOnes_0 : decode cX0_rightOnes 0 = .ok (.iconst 0, 1) := by decide +kernel
theorem dX0_rightOnes_1 : decode cX0_rightOnes 1 = .ok (.istore_n 1, 1) := by decide +kernel
theorem dX0_rightOnes_2 : decode cX0_rightOnes 2 = .ok (.iconst 0, 1) := by decide +kernel
theorem dX0_rightOnes_3 : decode cX0_rightOnes 3 = .ok (.istore_n 2, 1) := by decide +kernel
theorem dX0_rightOnes_4 : decode cX0_rightOnes 4 = .ok (.iload_n 2, 1) := by decide +kernel
theorem dX0_rightOnes_5 : decode cX0_rightOnes 5 = .ok (.aload_n 0, 1) := by decide +kernel
theorem dX0_rightOnes_6 : decode cX0_rightOnes 6 = .ok (.getfield 24, 3) := by decide +kernel
theorem dX0_rightOnes_9 : decode cX0_rightOnes 9 = .ok (.if_icmp .ge 30, 3) := by decide +kernel
theorem dX0_rightOnes_12 : decode cX0_rightOnes 12 = .ok (.aload_n 0, 1) := by decide +kernel
theorem dX0_rightOnes_13 : decode cX0_rightOnes 13 = .ok (.getfield 15, 3) := by decide +kernel
theorem dX0_rightOnes_16 : decode cX0_rightOnes 16 = .ok (.iload_n 2, 1) := by decide +kernel
theorem dX0_rightOnes_17 : decode cX0_rightOnes 17 = .ok (.iaload, 1) := by decide +kernel
theorem dX0_rightOnes_18 : decode cX0_rightOnes 18 = .ok (.aload_n 0, 1) := by decide +kernel
theorem dX0_rightOnes_19 : decode cX0_rightOnes 19 = .ok (.getfield 18, 3) := by decide +kernel
theorem dX0_rightOnes_22 : decode cX0_rightOnes 22 = .ok (.iload_n 2, 1) := by decide +kernel
theorem dX0_rightOnes_23 : decode cX0_rightOnes 23 = .ok (.iaload, 1) := by decide +kernel
theorem dX0_rightOnes_24 : decode cX0_rightOnes 24 = .ok (.if_icmp .ne 9, 3) := by decide +kernel
theorem dX0_rightOnes_27 : decode cX0_rightOnes 27 = .ok (.iload_n 1, 1) := by decide +kernel
theorem dX0_rightOnes_28 : decode cX0_rightOnes 28 = .ok (.iconst 1, 1) := by decide +kernel
theorem dX0_rightOnes_29 : decode cX0_rightOnes 29 = .ok (.iload_n 2, 1) := by decide +kernel
theorem dX0_rightOnes_30 : decode cX0_rightOnes 30 = .ok (.ishl, 1) := by decide +kernel
theorem dX0_rightOnes_31 : decode cX0_rightOnes 31 = .ok (.ior, 1) := by decide +kernel
theorem dX0_rightOnes_32 : decode cX0_rightOnes 32 = .ok (.istore_n 1, 1) := by decide +kernel
theorem dX0_rightOnes_33 : decode cX0_rightOnes 33 = .ok (.iinc 2 1, 3) := by decide +kernel
theorem dX0_rightOnes_36 : decode cX0_rightOnes 36 = .ok (.goto (-32), 3) := by decide +kernel
theorem dX0_rightOnes_39 : decode cX0_rightOnes 39 = .ok (.iload_n 1, 1) := by decide +kernel
theorem dX0_rightOnes_40 : decode cX0_rightOnes 40 = .ok (.ireturn, 1) := by decide +kernel
theorem dX0_drumsOf_0 : decode cX0_drumsOf 0 = .ok (.iconst 0, 1) := by decide +kernel
theorem dX0_drumsOf_1 : decode cX0_drumsOf 1 = .ok (.istore_n 2, 1) := by decide +kernel
theorem dX0_drumsOf_2 : decode cX0_drumsOf 2 = .ok (.iconst 0, 1) := by decide +kernel
theorem dX0_drumsOf_3 : decode cX0_drumsOf 3 = .ok (.istore_n 3, 1) := by decide +kernel
theorem dX0_drumsOf_4 : decode cX0_drumsOf 4 = .ok (.iload_n 3, 1) := by decide +kernel
theorem dX0_drumsOf_5 : decode cX0_drumsOf 5 = .ok (.aload_n 0, 1) := by decide +kernel
theorem dX0_drumsOf_6 : decode cX0_drumsOf 6 = .ok (.getfield 24, 3) := by decide +kernel
theorem dX0_drumsOf_9 : decode cX0_drumsOf 9 = .ok (.if_icmp .ge 30, 3) := by decide +kernel
theorem dX0_drumsOf_12 : decode cX0_drumsOf 12 = .ok (.iload_n 2, 1) := by decide +kernel
theorem dX0_drumsOf_13 : decode cX0_drumsOf 13 = .ok (.aload_n 0, 1) := by decide +kernel
theorem dX0_drumsOf_14 : decode cX0_drumsOf 14 = .ok (.getfield 9, 3) := by decide +kernel
theorem dX0_drumsOf_17 : decode cX0_drumsOf 17 = .ok (.iload_n 3, 1) := by decide +kernel
theorem dX0_drumsOf_18 : decode cX0_drumsOf 18 = .ok (.iaload, 1) := by decide +kernel
theorem dX0_drumsOf_19 : decode cX0_drumsOf 19 = .ok (.iload_n 1, 1) := by decide +kernel
theorem dX0_drumsOf_20 : decode cX0_drumsOf 20 = .ok (.invokestatic 67, 3) := by decide +kernel
theorem dX0_drumsOf_23 : decode cX0_drumsOf 23 = .ok (.ifCond .eq 7, 3) := by decide +kernel
theorem dX0_drumsOf_26 : decode cX0_drumsOf 26 = .ok (.iconst 1, 1) := by decide +kernel
theorem dX0_drumsOf_27 : decode cX0_drumsOf 27 = .ok (.goto 4, 3) := by decide +kernel
theorem dX0_drumsOf_30 : decode cX0_drumsOf 30 = .ok (.iconst 0, 1) := by decide +kernel
theorem dX0_drumsOf_31 : decode cX0_drumsOf 31 = .ok (.iadd, 1) := by decide +kernel
theorem dX0_drumsOf_32 : decode cX0_drumsOf 32 = .ok (.istore_n 2, 1) := by decide +kernel
theorem dX0_drumsOf_33 : decode cX0_drumsOf 33 = .ok (.iinc 3 1, 3) := by decide +kernel
theorem dX0_drumsOf_36 : decode cX0_drumsOf 36 = .ok (.goto (-32), 3) := by decide +kernel
theorem dX0_drumsOf_39 : decode cX0_drumsOf 39 = .ok (.iload_n 2, 1) := by decide +kernel
theorem dX0_drumsOf_40 : decode cX0_drumsOf 40 = .ok (.ireturn, 1) := by decide +kernel
theorem dX0_number_0 : decode cX0_number 0 = .ok (.iconst 0, 1) := by decide +kernel
theorem dX0_number_1 : decode cX0_number 1 = .ok (.istore_n 1, 1) := by decide +kernel
theorem dX0_number_2 : decode cX0_number 2 = .ok (.iconst 0, 1) := by decide +kernel
theorem dX0_number_3 : decode cX0_number 3 = .ok (.istore_n 2, 1) := by decide +kernel
theorem dX0_number_4 : decode cX0_number 4 = .ok (.iload_n 2, 1) := by decide +kernel
theorem dX0_number_5 : decode cX0_number 5 = .ok (.aload_n 0, 1) := by decide +kernel
theorem dX0_number_6 : decode cX0_number 6 = .ok (.getfield 24, 3) := by decide +kernel
theorem dX0_number_9 : decode cX0_number 9 = .ok (.if_icmp .ge 21, 3) := by decide +kernel
theorem dX0_number_12 : decode cX0_number 12 = .ok (.iload_n 1, 1) := by decide +kernel
theorem dX0_number_13 : decode cX0_number 13 = .ok (.bipush 10, 2) := by decide +kernel
theorem dX0_number_15 : decode cX0_number 15 = .ok (.imul, 1) := by decide +kernel
theorem dX0_number_16 : decode cX0_number 16 = .ok (.aload_n 0, 1) := by decide +kernel
theorem dX0_number_17 : decode cX0_number 17 = .ok (.getfield 15, 3) := by decide +kernel
theorem dX0_number_20 : decode cX0_number 20 = .ok (.iload_n 2, 1) := by decide +kernel
theorem dX0_number_21 : decode cX0_number 21 = .ok (.iaload, 1) := by decide +kernel
theorem dX0_number_22 : decode cX0_number 22 = .ok (.iadd, 1) := by decide +kernel
theorem dX0_number_23 : decode cX0_number 23 = .ok (.istore_n 1, 1) := by decide +kernel
theorem dX0_number_24 : decode cX0_number 24 = .ok (.iinc 2 1, 3) := by decide +kernel
theorem dX0_number_27 : decode cX0_number 27 = .ok (.goto (-23), 3) := by decide +kernel
theorem dX0_number_30 : decode cX0_number 30 = .ok (.iload_n 1, 1) := by decide +kernel
theorem dX0_number_31 : decode cX0_number 31 = .ok (.ireturn, 1) := by decide +kernel
theorem dX0_aimAt_0 : decode cX0_aimAt 0 = .ok (.iload_n 1, 1) := by decide +kernel
theorem dX0_aimAt_1 : decode cX0_aimAt 1 = .ok (.istore_n 2, 1) := by decide +kernel
theorem dX0_aimAt_2 : decode cX0_aimAt 2 = .ok (.aload_n 0, 1) := by decide +kernel
theorem dX0_aimAt_3 : decode cX0_aimAt 3 = .ok (.getfield 24, 3) := by decide +kernel
theorem dX0_aimAt_6 : decode cX0_aimAt 6 = .ok (.iconst 1, 1) := by decide +kernel
theorem dX0_aimAt_7 : decode cX0_aimAt 7 = .ok (.isub, 1) := by decide +kernel
theorem dX0_aimAt_8 : decode cX0_aimAt 8 = .ok (.istore_n 3, 1) := by decide +kernel
theorem dX0_aimAt_9 : decode cX0_aimAt 9 = .ok (.iload_n 3, 1) := by decide +kernel
theorem dX0_aimAt_10 : decode cX0_aimAt 10 = .ok (.ifCond .lt 24, 3) := by decide +kernel
theorem dX0_aimAt_13 : decode cX0_aimAt 13 = .ok (.aload_n 0, 1) := by decide +kernel
theorem dX0_aimAt_14 : decode cX0_aimAt 14 = .ok (.getfield 18, 3) := by decide +kernel
theorem dX0_aimAt_17 : decode cX0_aimAt 17 = .ok (.iload_n 3, 1) := by decide +kernel
theorem dX0_aimAt_18 : decode cX0_aimAt 18 = .ok (.iload_n 2, 1) := by decide +kernel
theorem dX0_aimAt_19 : decode cX0_aimAt 19 = .ok (.bipush 10, 2) := by decide +kernel
theorem dX0_aimAt_21 : decode cX0_aimAt 21 = .ok (.irem, 1) := by decide +kernel
theorem dX0_aimAt_22 : decode cX0_aimAt 22 = .ok (.iastore, 1) := by decide +kernel
theorem dX0_aimAt_23 : decode cX0_aimAt 23 = .ok (.iload_n 2, 1) := by decide +kernel
theorem dX0_aimAt_24 : decode cX0_aimAt 24 = .ok (.bipush 10, 2) := by decide +kernel
theorem dX0_aimAt_26 : decode cX0_aimAt 26 = .ok (.idiv, 1) := by decide +kernel
theorem dX0_aimAt_27 : decode cX0_aimAt 27 = .ok (.istore_n 2, 1) := by decide +kernel
theorem dX0_aimAt_28 : decode cX0_aimAt 28 = .ok (.iinc 3 (-1), 3) := by decide +kernel
theorem dX0_aimAt_31 : decode cX0_aimAt 31 = .ok (.goto (-22), 3) := by decide +kernel
theorem dX0_aimAt_34 : decode cX0_aimAt 34 = .ok (.return_, 1) := by decide +kernel
theorem dX0_ticksTillTold_0 : decode cX0_ticksTillTold 0 = .ok (.aload_n 0, 1) := by decide +kernel
theorem dX0_ticksTillTold_1 : decode cX0_ticksTillTold 1 = .ok (.getfield 43, 3) := by decide +kernel
theorem dX0_ticksTillTold_4 : decode cX0_ticksTillTold 4 = .ok (.aload_n 0, 1) := by decide +kernel
theorem dX0_ticksTillTold_5 : decode cX0_ticksTillTold 5 = .ok (.invokevirtual 71, 3) := by decide +kernel
theorem dX0_ticksTillTold_8 : decode cX0_ticksTillTold 8 = .ok (.iconst (-1), 1) := by decide +kernel
theorem dX0_ticksTillTold_9 : decode cX0_ticksTillTold 9 = .ok (.ixor, 1) := by decide +kernel
theorem dX0_ticksTillTold_10 : decode cX0_ticksTillTold 10 = .ok (.iand, 1) := by decide +kernel
theorem dX0_ticksTillTold_11 : decode cX0_ticksTillTold 11 = .ok (.ifCond .eq 7, 3) := by decide +kernel
theorem dX0_ticksTillTold_14 : decode cX0_ticksTillTold 14 = .ok (.iload_n 1, 1) := by decide +kernel
theorem dX0_ticksTillTold_15 : decode cX0_ticksTillTold 15 = .ok (.iconst 1, 1) := by decide +kernel
theorem dX0_ticksTillTold_16 : decode cX0_ticksTillTold 16 = .ok (.iadd, 1) := by decide +kernel
theorem dX0_ticksTillTold_17 : decode cX0_ticksTillTold 17 = .ok (.ireturn, 1) := by decide +kernel
theorem dX0_ticksTillTold_18 : decode cX0_ticksTillTold 18 = .ok (.iconst 0, 1) := by decide +kernel
theorem dX0_ticksTillTold_19 : decode cX0_ticksTillTold 19 = .ok (.istore_n 2, 1) := by decide +kernel
theorem dX0_ticksTillTold_20 : decode cX0_ticksTillTold 20 = .ok (.iload_n 2, 1) := by decide +kernel
theorem dX0_ticksTillTold_21 : decode cX0_ticksTillTold 21 = .ok (.iload_n 1, 1) := by decide +kernel
theorem dX0_ticksTillTold_22 : decode cX0_ticksTillTold 22 = .ok (.if_icmp .gt 20, 3) := by decide +kernel
theorem dX0_ticksTillTold_25 : decode cX0_ticksTillTold 25 = .ok (.aload_n 0, 1) := by decide +kernel
theorem dX0_ticksTillTold_26 : decode cX0_ticksTillTold 26 = .ok (.invokevirtual 75, 3) := by decide +kernel
theorem dX0_ticksTillTold_29 : decode cX0_ticksTillTold 29 = .ok (.ifCond .ne 13, 3) := by decide +kernel
theorem dX0_ticksTillTold_32 : decode cX0_ticksTillTold 32 = .ok (.aload_n 0, 1) := by decide +kernel
theorem dX0_ticksTillTold_33 : decode cX0_ticksTillTold 33 = .ok (.invokevirtual 64, 3) := by decide +kernel
theorem dX0_ticksTillTold_36 : decode cX0_ticksTillTold 36 = .ok (.iinc 2 1, 3) := by decide +kernel
theorem dX0_ticksTillTold_39 : decode cX0_ticksTillTold 39 = .ok (.goto (-19), 3) := by decide +kernel
theorem dX0_ticksTillTold_42 : decode cX0_ticksTillTold 42 = .ok (.iload_n 2, 1) := by decide +kernel
theorem dX0_ticksTillTold_43 : decode cX0_ticksTillTold 43 = .ok (.ireturn, 1) := by decide +kernel
theorem dX0_carryOut_0 : decode cX0_carryOut 0 = .ok (.iload_n 1, 1) := by decide +kernel
theorem dX0_carryOut_1 : decode cX0_carryOut 1 = .ok (.invokestatic 79, 3) := by decide +kernel
theorem dX0_carryOut_4 : decode cX0_carryOut 4 = .ok (.istore_n 2, 1) := by decide +kernel
theorem dX0_carryOut_5 : decode cX0_carryOut 5 = .ok (.iload_n 1, 1) := by decide +kernel
theorem dX0_carryOut_6 : decode cX0_carryOut 6 = .ok (.invokestatic 84, 3) := by decide +kernel
theorem dX0_carryOut_9 : decode cX0_carryOut 9 = .ok (.tableswitch 77 0 3 #[31, 38, 51, 62], 31) := by decide +kernel
theorem dX0_carryOut_40 : decode cX0_carryOut 40 = .ok (.aload_n 0, 1) := by decide +kernel
theorem dX0_carryOut_41 : decode cX0_carryOut 41 = .ok (.invokevirtual 64, 3) := by decide +kernel
theorem dX0_carryOut_44 : decode cX0_carryOut 44 = .ok (.goto 42, 3) := by decide +kernel
theorem dX0_carryOut_47 : decode cX0_carryOut 47 = .ok (.aload_n 0, 1) := by decide +kernel
theorem dX0_carryOut_48 : decode cX0_carryOut 48 = .ok (.getfield 18, 3) := by decide +kernel
theorem dX0_carryOut_51 : decode cX0_carryOut 51 = .ok (.iload_n 2, 1) := by decide +kernel
theorem dX0_carryOut_52 : decode cX0_carryOut 52 = .ok (.iload_n 1, 1) := by decide +kernel
theorem dX0_carryOut_53 : decode cX0_carryOut 53 = .ok (.invokestatic 87, 3) := by decide +kernel
theorem dX0_carryOut_56 : decode cX0_carryOut 56 = .ok (.iastore, 1) := by decide +kernel
theorem dX0_carryOut_57 : decode cX0_carryOut 57 = .ok (.goto 29, 3) := by decide +kernel
theorem dX0_carryOut_60 : decode cX0_carryOut 60 = .ok (.aload_n 0, 1) := by decide +kernel
theorem dX0_carryOut_61 : decode cX0_carryOut 61 = .ok (.iload_n 1, 1) := by decide +kernel
theorem dX0_carryOut_62 : decode cX0_carryOut 62 = .ok (.invokestatic 87, 3) := by decide +kernel
theorem dX0_carryOut_65 : decode cX0_carryOut 65 = .ok (.putfield 34, 3) := by decide +kernel
theorem dX0_carryOut_68 : decode cX0_carryOut 68 = .ok (.goto 18, 3) := by decide +kernel
theorem dX0_carryOut_71 : decode cX0_carryOut 71 = .ok (.aload_n 0, 1) := by decide +kernel
theorem dX0_carryOut_72 : decode cX0_carryOut 72 = .ok (.dup, 1) := by decide +kernel
theorem dX0_carryOut_73 : decode cX0_carryOut 73 = .ok (.getfield 43, 3) := by decide +kernel
theorem dX0_carryOut_76 : decode cX0_carryOut 76 = .ok (.iconst 1, 1) := by decide +kernel
theorem dX0_carryOut_77 : decode cX0_carryOut 77 = .ok (.iload_n 2, 1) := by decide +kernel
theorem dX0_carryOut_78 : decode cX0_carryOut 78 = .ok (.ishl, 1) := by decide +kernel
theorem dX0_carryOut_79 : decode cX0_carryOut 79 = .ok (.ixor, 1) := by decide +kernel
theorem dX0_carryOut_80 : decode cX0_carryOut 80 = .ok (.putfield 43, 3) := by decide +kernel
theorem dX0_carryOut_83 : decode cX0_carryOut 83 = .ok (.goto 3, 3) := by decide +kernel
theorem dX0_carryOut_86 : decode cX0_carryOut 86 = .ok (.return_, 1) := by decide +kernel
theorem dX1_init_0 : decode cX1_init 0 = .ok (.aload_n 0, 1) := by decide +kernel
theorem dX1_init_1 : decode cX1_init 1 = .ok (.invokespecial 3, 3) := by decide +kernel
theorem dX1_init_4 : decode cX1_init 4 = .ok (.aload_n 0, 1) := by decide +kernel
theorem dX1_init_5 : decode cX1_init 5 = .ok (.bipush 40, 2) := by decide +kernel
theorem dX1_init_7 : decode cX1_init 7 = .ok (.newarray .int, 2) := by decide +kernel
theorem dX1_init_9 : decode cX1_init 9 = .ok (.putfield 9, 3) := by decide +kernel
theorem dX1_init_12 : decode cX1_init 12 = .ok (.return_, 1) := by decide +kernel
theorem dX1_packed_0 : decode cX1_packed 0 = .ok (.iload_n 0, 1) := by decide +kernel
theorem dX1_packed_1 : decode cX1_packed 1 = .ok (.bipush 8, 2) := by decide +kernel
theorem dX1_packed_3 : decode cX1_packed 3 = .ok (.ishl, 1) := by decide +kernel
theorem dX1_packed_4 : decode cX1_packed 4 = .ok (.iload_n 1, 1) := by decide +kernel
theorem dX1_packed_5 : decode cX1_packed 5 = .ok (.iconst 4, 1) := by decide +kernel
theorem dX1_packed_6 : decode cX1_packed 6 = .ok (.ishl, 1) := by decide +kernel
theorem dX1_packed_7 : decode cX1_packed 7 = .ok (.ior, 1) := by decide +kernel
theorem dX1_packed_8 : decode cX1_packed 8 = .ok (.iload_n 2, 1) := by decide +kernel
theorem dX1_packed_9 : decode cX1_packed 9 = .ok (.ior, 1) := by decide +kernel
theorem dX1_packed_10 : decode cX1_packed 10 = .ok (.ireturn, 1) := by decide +kernel
theorem dX1_whatOf_0 : decode cX1_whatOf 0 = .ok (.iload_n 0, 1) := by decide +kernel
theorem dX1_whatOf_1 : decode cX1_whatOf 1 = .ok (.bipush 8, 2) := by decide +kernel
theorem dX1_whatOf_3 : decode cX1_whatOf 3 = .ok (.ishr, 1) := by decide +kernel
theorem dX1_whatOf_4 : decode cX1_whatOf 4 = .ok (.ireturn, 1) := by decide +kernel
theorem dX1_drumOf_0 : decode cX1_drumOf 0 = .ok (.iload_n 0, 1) := by decide +kernel
theorem dX1_drumOf_1 : decode cX1_drumOf 1 = .ok (.iconst 4, 1) := by decide +kernel
theorem dX1_drumOf_2 : decode cX1_drumOf 2 = .ok (.ishr, 1) := by decide +kernel
theorem dX1_drumOf_3 : decode cX1_drumOf 3 = .ok (.bipush 15, 2) := by decide +kernel
theorem dX1_drumOf_5 : decode cX1_drumOf 5 = .ok (.iand, 1) := by decide +kernel
theorem dX1_drumOf_6 : decode cX1_drumOf 6 = .ok (.ireturn, 1) := by decide +kernel
theorem dX1_valueOf_0 : decode cX1_valueOf 0 = .ok (.iload_n 0, 1) := by decide +kernel
theorem dX1_valueOf_1 : decode cX1_valueOf 1 = .ok (.bipush 15, 2) := by decide +kernel
theorem dX1_valueOf_3 : decode cX1_valueOf 3 = .ok (.iand, 1) := by decide +kernel
theorem dX1_valueOf_4 : decode cX1_valueOf 4 = .ok (.ireturn, 1) := by decide +kernel
theorem dX1_isFull_0 : decode cX1_isFull 0 = .ok (.aload_n 0, 1) := by decide +kernel
theorem dX1_isFull_1 : decode cX1_isFull 1 = .ok (.getfield 15, 3) := by decide +kernel
theorem dX1_isFull_4 : decode cX1_isFull 4 = .ok (.iload_n 1, 1) := by decide +kernel
theorem dX1_isFull_5 : decode cX1_isFull 5 = .ok (.iadd, 1) := by decide +kernel
theorem dX1_isFull_6 : decode cX1_isFull 6 = .ok (.bipush 40, 2) := by decide +kernel
theorem dX1_isFull_8 : decode cX1_isFull 8 = .ok (.if_icmp .le 7, 3) := by decide +kernel
theorem dX1_isFull_11 : decode cX1_isFull 11 = .ok (.iconst 1, 1) := by decide +kernel
theorem dX1_isFull_12 : decode cX1_isFull 12 = .ok (.goto 4, 3) := by decide +kernel
theorem dX1_isFull_15 : decode cX1_isFull 15 = .ok (.iconst 0, 1) := by decide +kernel
theorem dX1_isFull_16 : decode cX1_isFull 16 = .ok (.ireturn, 1) := by decide +kernel
theorem dX1_add_0 : decode cX1_add 0 = .ok (.aload_n 0, 1) := by decide +kernel
theorem dX1_add_1 : decode cX1_add 1 = .ok (.getfield 15, 3) := by decide +kernel
theorem dX1_add_4 : decode cX1_add 4 = .ok (.bipush 40, 2) := by decide +kernel
theorem dX1_add_6 : decode cX1_add 6 = .ok (.if_icmp .ge 23, 3) := by decide +kernel
theorem dX1_add_9 : decode cX1_add 9 = .ok (.aload_n 0, 1) := by decide +kernel
theorem dX1_add_10 : decode cX1_add 10 = .ok (.getfield 9, 3) := by decide +kernel
theorem dX1_add_13 : decode cX1_add 13 = .ok (.aload_n 0, 1) := by decide +kernel
theorem dX1_add_14 : decode cX1_add 14 = .ok (.getfield 15, 3) := by decide +kernel
theorem dX1_add_17 : decode cX1_add 17 = .ok (.iload_n 1, 1) := by decide +kernel
theorem dX1_add_18 : decode cX1_add 18 = .ok (.iastore, 1) := by decide +kernel
theorem dX1_add_19 : decode cX1_add 19 = .ok (.aload_n 0, 1) := by decide +kernel
theorem dX1_add_20 : decode cX1_add 20 = .ok (.dup, 1) := by decide +kernel
theorem dX1_add_21 : decode cX1_add 21 = .ok (.getfield 15, 3) := by decide +kernel
theorem dX1_add_24 : decode cX1_add 24 = .ok (.iconst 1, 1) := by decide +kernel
theorem dX1_add_25 : decode cX1_add 25 = .ok (.iadd, 1) := by decide +kernel
theorem dX1_add_26 : decode cX1_add 26 = .ok (.putfield 15, 3) := by decide +kernel
theorem dX1_add_29 : decode cX1_add 29 = .ok (.return_, 1) := by decide +kernel
theorem dX1_become_0 : decode cX1_become 0 = .ok (.aload_n 1, 1) := by decide +kernel
theorem dX1_become_1 : decode cX1_become 1 = .ok (.getfield 9, 3) := by decide +kernel
theorem dX1_become_4 : decode cX1_become 4 = .ok (.iconst 0, 1) := by decide +kernel
theorem dX1_become_5 : decode cX1_become 5 = .ok (.aload_n 0, 1) := by decide +kernel
theorem dX1_become_6 : decode cX1_become 6 = .ok (.getfield 9, 3) := by decide +kernel
theorem dX1_become_9 : decode cX1_become 9 = .ok (.iconst 0, 1) := by decide +kernel
theorem dX1_become_10 : decode cX1_become 10 = .ok (.aload_n 1, 1) := by decide +kernel
theorem dX1_become_11 : decode cX1_become 11 = .ok (.getfield 15, 3) := by decide +kernel
theorem dX1_become_14 : decode cX1_become 14 = .ok (.invokestatic 19, 3) := by decide +kernel
theorem dX1_become_17 : decode cX1_become 17 = .ok (.aload_n 0, 1) := by decide +kernel
theorem dX1_become_18 : decode cX1_become 18 = .ok (.aload_n 1, 1) := by decide +kernel
theorem dX1_become_19 : decode cX1_become 19 = .ok (.getfield 15, 3) := by decide +kernel
theorem dX1_become_22 : decode cX1_become 22 = .ok (.putfield 15, 3) := by decide +kernel
theorem dX1_become_25 : decode cX1_become 25 = .ok (.return_, 1) := by decide +kernel
theorem dX2_init_0 : decode cX2_init 0 = .ok (.aload_n 0, 1) := by decide +kernel
theorem dX2_init_1 : decode cX2_init 1 = .ok (.invokespecial 3, 3) := by decide +kernel
theorem dX2_init_4 : decode cX2_init 4 = .ok (.aload_n 0, 1) := by decide +kernel
theorem dX2_init_5 : decode cX2_init 5 = .ok (.iconst 5, 1) := by decide +kernel
theorem dX2_init_6 : decode cX2_init 6 = .ok (.newarray .int, 2) := by decide +kernel
theorem dX2_init_8 : decode cX2_init 8 = .ok (.putfield 9, 3) := by decide +kernel
theorem dX2_init_11 : decode cX2_init 11 = .ok (.aload_n 0, 1) := by decide +kernel
theorem dX2_init_12 : decode cX2_init 12 = .ok (.iconst 5, 1) := by decide +kernel
theorem dX2_init_13 : decode cX2_init 13 = .ok (.newarray .int, 2) := by decide +kernel
theorem dX2_init_15 : decode cX2_init 15 = .ok (.putfield 15, 3) := by decide +kernel
theorem dX2_init_18 : decode cX2_init 18 = .ok (.aload_n 0, 1) := by decide +kernel
theorem dX2_init_19 : decode cX2_init 19 = .ok (.bipush 6, 2) := by decide +kernel
theorem dX2_init_21 : decode cX2_init 21 = .ok (.anewarray 18, 3) := by decide +kernel
theorem dX2_init_24 : decode cX2_init 24 = .ok (.putfield 20, 3) := by decide +kernel
theorem dX2_init_27 : decode cX2_init 27 = .ok (.iconst 0, 1) := by decide +kernel
theorem dX2_init_28 : decode cX2_init 28 = .ok (.istore_n 1, 1) := by decide +kernel
theorem dX2_init_29 : decode cX2_init 29 = .ok (.iload_n 1, 1) := by decide +kernel
theorem dX2_init_30 : decode cX2_init 30 = .ok (.iconst 5, 1) := by decide +kernel
theorem dX2_init_31 : decode cX2_init 31 = .ok (.if_icmp .gt 22, 3) := by decide +kernel
theorem dX2_init_34 : decode cX2_init 34 = .ok (.aload_n 0, 1) := by decide +kernel
theorem dX2_init_35 : decode cX2_init 35 = .ok (.getfield 20, 3) := by decide +kernel
theorem dX2_init_38 : decode cX2_init 38 = .ok (.iload_n 1, 1) := by decide +kernel
theorem dX2_init_39 : decode cX2_init 39 = .ok (.new 18, 3) := by decide +kernel
theorem dX2_init_42 : decode cX2_init 42 = .ok (.dup, 1) := by decide +kernel
theorem dX2_init_43 : decode cX2_init 43 = .ok (.invokespecial 24, 3) := by decide +kernel
theorem dX2_init_46 : decode cX2_init 46 = .ok (.aastore, 1) := by decide +kernel
theorem dX2_init_47 : decode cX2_init 47 = .ok (.iinc 1 1, 3) := by decide +kernel
theorem dX2_init_50 : decode cX2_init 50 = .ok (.goto (-21), 3) := by decide +kernel
theorem dX2_init_53 : decode cX2_init 53 = .ok (.return_, 1) := by decide +kernel
theorem dX2_search_0 : decode cX2_search 0 = .ok (.aload_n 0, 1) := by decide +kernel
theorem dX2_search_1 : decode cX2_search 1 = .ok (.sipush 301, 3) := by decide +kernel
theorem dX2_search_4 : decode cX2_search 4 = .ok (.putfield 25, 3) := by decide +kernel
theorem dX2_search_7 : decode cX2_search 7 = .ok (.aload_n 0, 1) := by decide +kernel
theorem dX2_search_8 : decode cX2_search 8 = .ok (.getfield 20, 3) := by decide +kernel
theorem dX2_search_11 : decode cX2_search 11 = .ok (.iconst 0, 1) := by decide +kernel
theorem dX2_search_12 : decode cX2_search 12 = .ok (.aaload, 1) := by decide +kernel
theorem dX2_search_13 : decode cX2_search 13 = .ok (.aload_n 1, 1) := by decide +kernel
theorem dX2_search_14 : decode cX2_search 14 = .ok (.invokevirtual 29, 3) := by decide +kernel
theorem dX2_search_17 : decode cX2_search 17 = .ok (.aload_n 0, 1) := by decide +kernel
theorem dX2_search_18 : decode cX2_search 18 = .ok (.aload_n 2, 1) := by decide +kernel
theorem dX2_search_19 : decode cX2_search 19 = .ok (.iconst 0, 1) := by decide +kernel
theorem dX2_search_20 : decode cX2_search 20 = .ok (.iconst 0, 1) := by decide +kernel
theorem dX2_search_21 : decode cX2_search 21 = .ok (.iconst 0, 1) := by decide +kernel
theorem dX2_search_22 : decode cX2_search 22 = .ok (.invokevirtual 33, 3) := by decide +kernel
theorem dX2_search_25 : decode cX2_search 25 = .ok (.aload_n 0, 1) := by decide +kernel
theorem dX2_search_26 : decode cX2_search 26 = .ok (.getfield 25, 3) := by decide +kernel
theorem dX2_search_29 : decode cX2_search 29 = .ok (.sipush 301, 3) := by decide +kernel
theorem dX2_search_32 : decode cX2_search 32 = .ok (.if_icmp .ne 8, 3) := by decide +kernel
theorem dX2_search_35 : decode cX2_search 35 = .ok (.bipush (-9), 2) := by decide +kernel
theorem dX2_search_37 : decode cX2_search 37 = .ok (.goto 7, 3) := by decide +kernel
theorem dX2_search_40 : decode cX2_search 40 = .ok (.aload_n 0, 1) := by decide +kernel
theorem dX2_search_41 : decode cX2_search 41 = .ok (.getfield 25, 3) := by decide +kernel
theorem dX2_search_44 : decode cX2_search 44 = .ok (.ireturn, 1) := by decide +kernel
theorem dX2_goOn_0 : decode cX2_goOn 0 = .ok (.iload_n 2, 1) := by decide +kernel
theorem dX2_goOn_1 : decode cX2_goOn 1 = .ok (.aload_n 1, 1) := by decide +kernel
theorem dX2_goOn_2 : decode cX2_goOn 2 = .ok (.getfield 37, 3) := by decide +kernel
theorem dX2_goOn_5 : decode cX2_goOn 5 = .ok (.if_icmp .ge 8, 3) := by decide +kernel
theorem dX2_goOn_8 : decode cX2_goOn 8 = .ok (.iload_n 2, 1) := by decide +kernel
theorem dX2_goOn_9 : decode cX2_goOn 9 = .ok (.iconst 5, 1) := by decide +kernel
theorem dX2_goOn_10 : decode cX2_goOn 10 = .ok (.if_icmp .lt 24, 3) := by decide +kernel
theorem dX2_goOn_13 : decode cX2_goOn 13 = .ok (.aload_n 0, 1) := by decide +kernel
theorem dX2_goOn_14 : decode cX2_goOn 14 = .ok (.iload 4, 2) := by decide +kernel
theorem dX2_goOn_16 : decode cX2_goOn 16 = .ok (.putfield 25, 3) := by decide +kernel
theorem dX2_goOn_19 : decode cX2_goOn 19 = .ok (.aload_n 0, 1) := by decide +kernel
theorem dX2_goOn_20 : decode cX2_goOn 20 = .ok (.getfield 15, 3) := by decide +kernel
theorem dX2_goOn_23 : decode cX2_goOn 23 = .ok (.iconst 0, 1) := by decide +kernel
theorem dX2_goOn_24 : decode cX2_goOn 24 = .ok (.aload_n 0, 1) := by decide +kernel
theorem dX2_goOn_25 : decode cX2_goOn 25 = .ok (.getfield 9, 3) := by decide +kernel
theorem dX2_goOn_28 : decode cX2_goOn 28 = .ok (.iconst 0, 1) := by decide +kernel
theorem dX2_goOn_29 : decode cX2_goOn 29 = .ok (.iload_n 2, 1) := by decide +kernel
theorem dX2_goOn_30 : decode cX2_goOn 30 = .ok (.invokestatic 42, 3) := by decide +kernel
theorem dX2_goOn_33 : decode cX2_goOn 33 = .ok (.return_, 1) := by decide +kernel
theorem dX2_goOn_34 : decode cX2_goOn 34 = .ok (.aload_n 0, 1) := by decide +kernel
theorem dX2_goOn_35 : decode cX2_goOn 35 = .ok (.getfield 20, 3) := by decide +kernel
theorem dX2_goOn_38 : decode cX2_goOn 38 = .ok (.iload_n 2, 1) := by decide +kernel
theorem dX2_goOn_39 : decode cX2_goOn 39 = .ok (.iconst 1, 1) := by decide +kernel
theorem dX2_goOn_40 : decode cX2_goOn 40 = .ok (.iadd, 1) := by decide +kernel
theorem dX2_goOn_41 : decode cX2_goOn 41 = .ok (.aaload, 1) := by decide +kernel
theorem dX2_goOn_42 : decode cX2_goOn 42 = .ok (.astore 5, 2) := by decide +kernel
theorem dX2_goOn_44 : decode cX2_goOn 44 = .ok (.iconst 0, 1) := by decide +kernel
theorem dX2_goOn_45 : decode cX2_goOn 45 = .ok (.istore 6, 2) := by decide +kernel
theorem dX2_goOn_47 : decode cX2_goOn 47 = .ok (.iload 6, 2) := by decide +kernel
theorem dX2_goOn_49 : decode cX2_goOn 49 = .ok (.aload_n 1, 1) := by decide +kernel
theorem dX2_goOn_50 : decode cX2_goOn 50 = .ok (.getfield 37, 3) := by decide +kernel
theorem dX2_goOn_53 : decode cX2_goOn 53 = .ok (.if_icmp .ge 96, 3) := by decide +kernel
theorem dX2_goOn_56 : decode cX2_goOn 56 = .ok (.iload_n 3, 1) := by decide +kernel
theorem dX2_goOn_57 : decode cX2_goOn 57 = .ok (.iload 6, 2) := by decide +kernel
theorem dX2_goOn_59 : decode cX2_goOn 59 = .ok (.ishr, 1) := by decide +kernel
theorem dX2_goOn_60 : decode cX2_goOn 60 = .ok (.iconst 1, 1) := by decide +kernel
theorem dX2_goOn_61 : decode cX2_goOn 61 = .ok (.iand, 1) := by decide +kernel
theorem dX2_goOn_62 : decode cX2_goOn 62 = .ok (.ifCond .ne 81, 3) := by decide +kernel
theorem dX2_goOn_65 : decode cX2_goOn 65 = .ok (.aload 5, 2) := by decide +kernel
theorem dX2_goOn_67 : decode cX2_goOn 67 = .ok (.aload_n 0, 1) := by decide +kernel
theorem dX2_goOn_68 : decode cX2_goOn 68 = .ok (.getfield 20, 3) := by decide +kernel
theorem dX2_goOn_71 : decode cX2_goOn 71 = .ok (.iload_n 2, 1) := by decide +kernel
theorem dX2_goOn_72 : decode cX2_goOn 72 = .ok (.aaload, 1) := by decide +kernel
theorem dX2_goOn_73 : decode cX2_goOn 73 = .ok (.invokevirtual 29, 3) := by decide +kernel
theorem dX2_goOn_76 : decode cX2_goOn 76 = .ok (.aload 5, 2) := by decide +kernel
theorem dX2_goOn_78 : decode cX2_goOn 78 = .ok (.aload_n 1, 1) := by decide +kernel
theorem dX2_goOn_79 : decode cX2_goOn 79 = .ok (.getfield 48, 3) := by decide +kernel
theorem dX2_goOn_82 : decode cX2_goOn 82 = .ok (.iload 6, 2) := by decide +kernel
theorem dX2_goOn_84 : decode cX2_goOn 84 = .ok (.iaload, 1) := by decide +kernel
theorem dX2_goOn_85 : decode cX2_goOn 85 = .ok (.invokevirtual 51, 3) := by decide +kernel
theorem dX2_goOn_88 : decode cX2_goOn 88 = .ok (.aload 5, 2) := by decide +kernel
theorem dX2_goOn_90 : decode cX2_goOn 90 = .ok (.bipush 60, 2) := by decide +kernel
theorem dX2_goOn_92 : decode cX2_goOn 92 = .ok (.invokevirtual 55, 3) := by decide +kernel
theorem dX2_goOn_95 : decode cX2_goOn 95 = .ok (.istore 7, 2) := by decide +kernel
theorem dX2_goOn_97 : decode cX2_goOn 97 = .ok (.iload 7, 2) := by decide +kernel
theorem dX2_goOn_99 : decode cX2_goOn 99 = .ok (.bipush 60, 2) := by decide +kernel
theorem dX2_goOn_101 : decode cX2_goOn 101 = .ok (.if_icmp .gt 42, 3) := by decide +kernel
theorem dX2_goOn_104 : decode cX2_goOn 104 = .ok (.iload 4, 2) := by decide +kernel
theorem dX2_goOn_106 : decode cX2_goOn 106 = .ok (.iload 7, 2) := by decide +kernel
theorem dX2_goOn_108 : decode cX2_goOn 108 = .ok (.iadd, 1) := by decide +kernel
theorem dX2_goOn_109 : decode cX2_goOn 109 = .ok (.aload_n 0, 1) := by decide +kernel
theorem dX2_goOn_110 : decode cX2_goOn 110 = .ok (.getfield 25, 3) := by decide +kernel
theorem dX2_goOn_113 : decode cX2_goOn 113 = .ok (.if_icmp .ge 30, 3) := by decide +kernel
theorem dX2_goOn_116 : decode cX2_goOn 116 = .ok (.aload_n 0, 1) := by decide +kernel
theorem dX2_goOn_117 : decode cX2_goOn 117 = .ok (.getfield 15, 3) := by decide +kernel
theorem dX2_goOn_120 : decode cX2_goOn 120 = .ok (.iload_n 2, 1) := by decide +kernel
theorem dX2_goOn_121 : decode cX2_goOn 121 = .ok (.iload 6, 2) := by decide +kernel
theorem dX2_goOn_123 : decode cX2_goOn 123 = .ok (.iastore, 1) := by decide +kernel
theorem dX2_goOn_124 : decode cX2_goOn 124 = .ok (.aload_n 0, 1) := by decide +kernel
theorem dX2_goOn_125 : decode cX2_goOn 125 = .ok (.aload_n 1, 1) := by decide +kernel
theorem dX2_goOn_126 : decode cX2_goOn 126 = .ok (.iload_n 2, 1) := by decide +kernel
theorem dX2_goOn_127 : decode cX2_goOn 127 = .ok (.iconst 1, 1) := by decide +kernel
theorem dX2_goOn_128 : decode cX2_goOn 128 = .ok (.iadd, 1) := by decide +kernel
theorem dX2_goOn_129 : decode cX2_goOn 129 = .ok (.iload_n 3, 1) := by decide +kernel
theorem dX2_goOn_130 : decode cX2_goOn 130 = .ok (.iconst 1, 1) := by decide +kernel
theorem dX2_goOn_131 : decode cX2_goOn 131 = .ok (.iload 6, 2) := by decide +kernel
theorem dX2_goOn_133 : decode cX2_goOn 133 = .ok (.ishl, 1) := by decide +kernel
theorem dX2_goOn_134 : decode cX2_goOn 134 = .ok (.ior, 1) := by decide +kernel
theorem dX2_goOn_135 : decode cX2_goOn 135 = .ok (.iload 4, 2) := by decide +kernel
theorem dX2_goOn_137 : decode cX2_goOn 137 = .ok (.iload 7, 2) := by decide +kernel
theorem dX2_goOn_139 : decode cX2_goOn 139 = .ok (.iadd, 1) := by decide +kernel
theorem dX2_goOn_140 : decode cX2_goOn 140 = .ok (.invokevirtual 33, 3) := by decide +kernel
theorem dX2_goOn_143 : decode cX2_goOn 143 = .ok (.iinc 6 1, 3) := by decide +kernel
theorem dX2_goOn_146 : decode cX2_goOn 146 = .ok (.goto (-99), 3) := by decide +kernel
theorem dX2_goOn_149 : decode cX2_goOn 149 = .ok (.return_, 1) := by decide +kernel
theorem dX3_read_0 : decode cX3_read 0 = .ok (.aload_n 0, 1) := by decide +kernel
theorem dX3_read_1 : decode cX3_read 1 = .ok (.iconst 0, 1) := by decide +kernel
theorem dX3_read_2 : decode cX3_read 2 = .ok (.invokevirtual 9, 3) := by decide +kernel
theorem dX3_read_5 : decode cX3_read 5 = .ok (.istore_n 2, 1) := by decide +kernel
theorem dX3_read_6 : decode cX3_read 6 = .ok (.aload_n 0, 1) := by decide +kernel
theorem dX3_read_7 : decode cX3_read 7 = .ok (.iload_n 2, 1) := by decide +kernel
theorem dX3_read_8 : decode cX3_read 8 = .ok (.iconst 1, 1) := by decide +kernel
theorem dX3_read_9 : decode cX3_read 9 = .ok (.invokevirtual 15, 3) := by decide +kernel
theorem dX3_read_12 : decode cX3_read 12 = .ok (.ifCond .ne 5, 3) := by decide +kernel
theorem dX3_read_15 : decode cX3_read 15 = .ok (.iload_n 2, 1) := by decide +kernel
theorem dX3_read_16 : decode cX3_read 16 = .ok (.ireturn, 1) := by decide +kernel
theorem dX3_read_17 : decode cX3_read 17 = .ok (.aload_n 1, 1) := by decide +kernel
theorem dX3_read_18 : decode cX3_read 18 = .ok (.aload_n 0, 1) := by decide +kernel
theorem dX3_read_19 : decode cX3_read 19 = .ok (.iload_n 2, 1) := by decide +kernel
theorem dX3_read_20 : decode cX3_read 20 = .ok (.invokevirtual 19, 3) := by decide +kernel
theorem dX3_read_23 : decode cX3_read 23 = .ok (.invokevirtual 22, 3) := by decide +kernel
theorem dX3_read_26 : decode cX3_read 26 = .ok (.aload_n 0, 1) := by decide +kernel
theorem dX3_read_27 : decode cX3_read 27 = .ok (.iload_n 2, 1) := by decide +kernel
theorem dX3_read_28 : decode cX3_read 28 = .ok (.iconst 1, 1) := by decide +kernel
theorem dX3_read_29 : decode cX3_read 29 = .ok (.iadd, 1) := by decide +kernel
theorem dX3_read_30 : decode cX3_read 30 = .ok (.invokevirtual 9, 3) := by decide +kernel
theorem dX3_read_33 : decode cX3_read 33 = .ok (.istore_n 2, 1) := by decide +kernel
theorem dX3_read_34 : decode cX3_read 34 = .ok (.iconst 0, 1) := by decide +kernel
theorem dX3_read_35 : decode cX3_read 35 = .ok (.istore_n 3, 1) := by decide +kernel
theorem dX3_read_36 : decode cX3_read 36 = .ok (.iload_n 3, 1) := by decide +kernel
theorem dX3_read_37 : decode cX3_read 37 = .ok (.bipush 7, 2) := by decide +kernel
theorem dX3_read_39 : decode cX3_read 39 = .ok (.if_icmp .ge 65, 3) := by decide +kernel
theorem dX3_read_42 : decode cX3_read 42 = .ok (.iload_n 2, 1) := by decide +kernel
theorem dX3_read_43 : decode cX3_read 43 = .ok (.aload_n 0, 1) := by decide +kernel
theorem dX3_read_44 : decode cX3_read 44 = .ok (.getfield 28, 3) := by decide +kernel
theorem dX3_read_47 : decode cX3_read 47 = .ok (.if_icmp .ge 57, 3) := by decide +kernel
theorem dX3_read_50 : decode cX3_read 50 = .ok (.aload_n 0, 1) := by decide +kernel
theorem dX3_read_51 : decode cX3_read 51 = .ok (.iload_n 2, 1) := by decide +kernel
theorem dX3_read_52 : decode cX3_read 52 = .ok (.invokestatic 32, 3) := by decide +kernel
theorem dX3_read_55 : decode cX3_read 55 = .ok (.istore 4, 2) := by decide +kernel
theorem dX3_read_57 : decode cX3_read 57 = .ok (.iload 4, 2) := by decide +kernel
theorem dX3_read_59 : decode cX3_read 59 = .ok (.bipush (-9), 2) := by decide +kernel
theorem dX3_read_61 : decode cX3_read 61 = .ok (.if_icmp .eq 6, 3) := by decide +kernel
theorem dX3_read_64 : decode cX3_read 64 = .ok (.iload 4, 2) := by decide +kernel
theorem dX3_read_66 : decode cX3_read 66 = .ok (.ireturn, 1) := by decide +kernel
theorem dX3_read_67 : decode cX3_read 67 = .ok (.aload_n 1, 1) := by decide +kernel
theorem dX3_read_68 : decode cX3_read 68 = .ok (.aload_n 0, 1) := by decide +kernel
theorem dX3_read_69 : decode cX3_read 69 = .ok (.iload_n 2, 1) := by decide +kernel
theorem dX3_read_70 : decode cX3_read 70 = .ok (.invokevirtual 38, 3) := by decide +kernel
theorem dX3_read_73 : decode cX3_read 73 = .ok (.aload_n 0, 1) := by decide +kernel
theorem dX3_read_74 : decode cX3_read 74 = .ok (.iload_n 2, 1) := by decide +kernel
theorem dX3_read_75 : decode cX3_read 75 = .ok (.iconst 1, 1) := by decide +kernel
theorem dX3_read_76 : decode cX3_read 76 = .ok (.iadd, 1) := by decide +kernel
theorem dX3_read_77 : decode cX3_read 77 = .ok (.invokevirtual 19, 3) := by decide +kernel
theorem dX3_read_80 : decode cX3_read 80 = .ok (.aload_n 0, 1) := by decide +kernel
theorem dX3_read_81 : decode cX3_read 81 = .ok (.iload_n 2, 1) := by decide +kernel
theorem dX3_read_82 : decode cX3_read 82 = .ok (.iconst 2, 1) := by decide +kernel
theorem dX3_read_83 : decode cX3_read 83 = .ok (.iadd, 1) := by decide +kernel
theorem dX3_read_84 : decode cX3_read 84 = .ok (.invokevirtual 19, 3) := by decide +kernel
theorem dX3_read_87 : decode cX3_read 87 = .ok (.invokevirtual 41, 3) := by decide +kernel
theorem dX3_read_90 : decode cX3_read 90 = .ok (.aload_n 0, 1) := by decide +kernel
theorem dX3_read_91 : decode cX3_read 91 = .ok (.iload_n 2, 1) := by decide +kernel
theorem dX3_read_92 : decode cX3_read 92 = .ok (.iconst 3, 1) := by decide +kernel
theorem dX3_read_93 : decode cX3_read 93 = .ok (.iadd, 1) := by decide +kernel
theorem dX3_read_94 : decode cX3_read 94 = .ok (.invokevirtual 9, 3) := by decide +kernel
theorem dX3_read_97 : decode cX3_read 97 = .ok (.istore_n 2, 1) := by decide +kernel
theorem dX3_read_98 : decode cX3_read 98 = .ok (.iinc 3 1, 3) := by decide +kernel
theorem dX3_read_101 : decode cX3_read 101 = .ok (.goto (-65), 3) := by decide +kernel
theorem dX3_read_104 : decode cX3_read 104 = .ok (.iload_n 2, 1) := by decide +kernel
theorem dX3_read_105 : decode cX3_read 105 = .ok (.aload_n 0, 1) := by decide +kernel
theorem dX3_read_106 : decode cX3_read 106 = .ok (.getfield 28, 3) := by decide +kernel
theorem dX3_read_109 : decode cX3_read 109 = .ok (.if_icmp .lt 11, 3) := by decide +kernel
theorem dX3_read_112 : decode cX3_read 112 = .ok (.aload_n 1, 1) := by decide +kernel
theorem dX3_read_113 : decode cX3_read 113 = .ok (.getfield 45, 3) := by decide +kernel
theorem dX3_read_116 : decode cX3_read 116 = .ok (.iconst 2, 1) := by decide +kernel
theorem dX3_read_117 : decode cX3_read 117 = .ok (.if_icmp .ge 7, 3) := by decide +kernel
theorem dX3_read_120 : decode cX3_read 120 = .ok (.iload_n 2, 1) := by decide +kernel
theorem dX3_read_121 : decode cX3_read 121 = .ok (.goto 5, 3) := by decide +kernel
theorem dX3_read_124 : decode cX3_read 124 = .ok (.bipush (-9), 2) := by decide +kernel
theorem dX3_read_126 : decode cX3_read 126 = .ok (.ireturn, 1) := by decide +kernel
theorem dX3_faultOfDrum_0 : decode cX3_faultOfDrum 0 = .ok (.aload_n 0, 1) := by decide +kernel
theorem dX3_faultOfDrum_1 : decode cX3_faultOfDrum 1 = .ok (.iload_n 1, 1) := by decide +kernel
theorem dX3_faultOfDrum_2 : decode cX3_faultOfDrum 2 = .ok (.invokevirtual 38, 3) := by decide +kernel
theorem dX3_faultOfDrum_5 : decode cX3_faultOfDrum 5 = .ok (.bipush (-9), 2) := by decide +kernel
theorem dX3_faultOfDrum_7 : decode cX3_faultOfDrum 7 = .ok (.if_icmp .ne 5, 3) := by decide +kernel
theorem dX3_faultOfDrum_10 : decode cX3_faultOfDrum 10 = .ok (.iload_n 1, 1) := by decide +kernel
theorem dX3_faultOfDrum_11 : decode cX3_faultOfDrum 11 = .ok (.ireturn, 1) := by decide +kernel
theorem dX3_faultOfDrum_12 : decode cX3_faultOfDrum 12 = .ok (.aload_n 0, 1) := by decide +kernel
theorem dX3_faultOfDrum_13 : decode cX3_faultOfDrum 13 = .ok (.iload_n 1, 1) := by decide +kernel
theorem dX3_faultOfDrum_14 : decode cX3_faultOfDrum 14 = .ok (.iconst 1, 1) := by decide +kernel
theorem dX3_faultOfDrum_15 : decode cX3_faultOfDrum 15 = .ok (.iadd, 1) := by decide +kernel
theorem dX3_faultOfDrum_16 : decode cX3_faultOfDrum 16 = .ok (.iconst 0, 1) := by decide +kernel
theorem dX3_faultOfDrum_17 : decode cX3_faultOfDrum 17 = .ok (.invokevirtual 15, 3) := by decide +kernel
theorem dX3_faultOfDrum_20 : decode cX3_faultOfDrum 20 = .ok (.ifCond .ne 7, 3) := by decide +kernel
theorem dX3_faultOfDrum_23 : decode cX3_faultOfDrum 23 = .ok (.iload_n 1, 1) := by decide +kernel
theorem dX3_faultOfDrum_24 : decode cX3_faultOfDrum 24 = .ok (.iconst 1, 1) := by decide +kernel
theorem dX3_faultOfDrum_25 : decode cX3_faultOfDrum 25 = .ok (.iadd, 1) := by decide +kernel
theorem dX3_faultOfDrum_26 : decode cX3_faultOfDrum 26 = .ok (.ireturn, 1) := by decide +kernel
theorem dX3_faultOfDrum_27 : decode cX3_faultOfDrum 27 = .ok (.aload_n 0, 1) := by decide +kernel
theorem dX3_faultOfDrum_28 : decode cX3_faultOfDrum 28 = .ok (.iload_n 1, 1) := by decide +kernel
theorem dX3_faultOfDrum_29 : decode cX3_faultOfDrum 29 = .ok (.iconst 2, 1) := by decide +kernel
theorem dX3_faultOfDrum_30 : decode cX3_faultOfDrum 30 = .ok (.iadd, 1) := by decide +kernel
theorem dX3_faultOfDrum_31 : decode cX3_faultOfDrum 31 = .ok (.iconst 0, 1) := by decide +kernel
theorem dX3_faultOfDrum_32 : decode cX3_faultOfDrum 32 = .ok (.invokevirtual 15, 3) := by decide +kernel
theorem dX3_faultOfDrum_35 : decode cX3_faultOfDrum 35 = .ok (.ifCond .eq 8, 3) := by decide +kernel
theorem dX3_faultOfDrum_38 : decode cX3_faultOfDrum 38 = .ok (.bipush (-9), 2) := by decide +kernel
theorem dX3_faultOfDrum_40 : decode cX3_faultOfDrum 40 = .ok (.goto 6, 3) := by decide +kernel
theorem dX3_faultOfDrum_43 : decode cX3_faultOfDrum 43 = .ok (.iload_n 1, 1) := by decide +kernel
theorem dX3_faultOfDrum_44 : decode cX3_faultOfDrum 44 = .ok (.iconst 2, 1) := by decide +kernel
theorem dX3_faultOfDrum_45 : decode cX3_faultOfDrum 45 = .ok (.iadd, 1) := by decide +kernel
theorem dX3_faultOfDrum_46 : decode cX3_faultOfDrum 46 = .ok (.ireturn, 1) := by decide +kernel
theorem dX4_init_0 : decode cX4_init 0 = .ok (.aload_n 0, 1) := by decide +kernel
theorem dX4_init_1 : decode cX4_init 1 = .ok (.invokespecial 3, 3) := by decide +kernel
theorem dX4_init_4 : decode cX4_init 4 = .ok (.aload_n 0, 1) := by decide +kernel
theorem dX4_init_5 : decode cX4_init 5 = .ok (.bipush 40, 2) := by decide +kernel
theorem dX4_init_7 : decode cX4_init 7 = .ok (.newarray .int, 2) := by decide +kernel
theorem dX4_init_9 : decode cX4_init 9 = .ok (.putfield 9, 3) := by decide +kernel
theorem dX4_init_12 : decode cX4_init 12 = .ok (.aload_n 0, 1) := by decide +kernel
theorem dX4_init_13 : decode cX4_init 13 = .ok (.iconst (-1), 1) := by decide +kernel
theorem dX4_init_14 : decode cX4_init 14 = .ok (.putfield 15, 3) := by decide +kernel
theorem dX4_init_17 : decode cX4_init 17 = .ok (.return_, 1) := by decide +kernel
theorem dX4_isMissing_0 : decode cX4_isMissing 0 = .ok (.aload_n 0, 1) := by decide +kernel
theorem dX4_isMissing_1 : decode cX4_isMissing 1 = .ok (.getfield 15, 3) := by decide +kernel
theorem dX4_isMissing_4 : decode cX4_isMissing 4 = .ok (.iconst (-1), 1) := by decide +kernel
theorem dX4_isMissing_5 : decode cX4_isMissing 5 = .ok (.if_icmp .ne 7, 3) := by decide +kernel
theorem dX4_isMissing_8 : decode cX4_isMissing 8 = .ok (.iconst 1, 1) := by decide +kernel
theorem dX4_isMissing_9 : decode cX4_isMissing 9 = .ok (.goto 4, 3) := by decide +kernel
theorem dX4_isMissing_12 : decode cX4_isMissing 12 = .ok (.iconst 0, 1) := by decide +kernel
theorem dX4_isMissing_13 : decode cX4_isMissing 13 = .ok (.ireturn, 1) := by decide +kernel
theorem dX4_begin_0 : decode cX4_begin 0 = .ok (.aload_n 0, 1) := by decide +kernel
theorem dX4_begin_1 : decode cX4_begin 1 = .ok (.iload_n 1, 1) := by decide +kernel
theorem dX4_begin_2 : decode cX4_begin 2 = .ok (.putfield 15, 3) := by decide +kernel
theorem dX4_begin_5 : decode cX4_begin 5 = .ok (.iconst 0, 1) := by decide +kernel
theorem dX4_begin_6 : decode cX4_begin 6 = .ok (.istore_n 2, 1) := by decide +kernel
theorem dX4_begin_7 : decode cX4_begin 7 = .ok (.iload_n 2, 1) := by decide +kernel
theorem dX4_begin_8 : decode cX4_begin 8 = .ok (.iload_n 1, 1) := by decide +kernel
theorem dX4_begin_9 : decode cX4_begin 9 = .ok (.if_icmp .ge 16, 3) := by decide +kernel
theorem dX4_begin_12 : decode cX4_begin 12 = .ok (.aload_n 0, 1) := by decide +kernel
theorem dX4_begin_13 : decode cX4_begin 13 = .ok (.getfield 9, 3) := by decide +kernel
theorem dX4_begin_16 : decode cX4_begin 16 = .ok (.iload_n 2, 1) := by decide +kernel
theorem dX4_begin_17 : decode cX4_begin 17 = .ok (.iconst 0, 1) := by decide +kernel
theorem dX4_begin_18 : decode cX4_begin 18 = .ok (.iastore, 1) := by decide +kernel
theorem dX4_begin_19 : decode cX4_begin 19 = .ok (.iinc 2 1, 3) := by decide +kernel
theorem dX4_begin_22 : decode cX4_begin 22 = .ok (.goto (-15), 3) := by decide +kernel
theorem dX4_begin_25 : decode cX4_begin 25 = .ok (.return_, 1) := by decide +kernel
theorem dX4_holds_0 : decode cX4_holds 0 = .ok (.iload_n 1, 1) := by decide +kernel
theorem dX4_holds_1 : decode cX4_holds 1 = .ok (.ifCond .lt 25, 3) := by decide +kernel
theorem dX4_holds_4 : decode cX4_holds 4 = .ok (.iload_n 1, 1) := by decide +kernel
theorem dX4_holds_5 : decode cX4_holds 5 = .ok (.aload_n 0, 1) := by decide +kernel
theorem dX4_holds_6 : decode cX4_holds 6 = .ok (.getfield 15, 3) := by decide +kernel
theorem dX4_holds_9 : decode cX4_holds 9 = .ok (.if_icmp .gt 17, 3) := by decide +kernel
theorem dX4_holds_12 : decode cX4_holds 12 = .ok (.iload_n 2, 1) := by decide +kernel
theorem dX4_holds_13 : decode cX4_holds 13 = .ok (.aload_n 0, 1) := by decide +kernel
theorem dX4_holds_14 : decode cX4_holds 14 = .ok (.getfield 15, 3) := by decide +kernel
theorem dX4_holds_17 : decode cX4_holds 17 = .ok (.iload_n 1, 1) := by decide +kernel
theorem dX4_holds_18 : decode cX4_holds 18 = .ok (.isub, 1) := by decide +kernel
theorem dX4_holds_19 : decode cX4_holds 19 = .ok (.if_icmp .gt 7, 3) := by decide +kernel
theorem dX4_holds_22 : decode cX4_holds 22 = .ok (.iconst 1, 1) := by decide +kernel
theorem dX4_holds_23 : decode cX4_holds 23 = .ok (.goto 4, 3) := by decide +kernel
theorem dX4_holds_26 : decode cX4_holds 26 = .ok (.iconst 0, 1) := by decide +kernel
theorem dX4_holds_27 : decode cX4_holds 27 = .ok (.ireturn, 1) := by decide +kernel
theorem dX4_isWithin_0 : decode cX4_isWithin 0 = .ok (.iconst 0, 1) := by decide +kernel
theorem dX4_isWithin_1 : decode cX4_isWithin 1 = .ok (.istore_n 2, 1) := by decide +kernel
theorem dX4_isWithin_2 : decode cX4_isWithin 2 = .ok (.iload_n 2, 1) := by decide +kernel
theorem dX4_isWithin_3 : decode cX4_isWithin 3 = .ok (.aload_n 0, 1) := by decide +kernel
theorem dX4_isWithin_4 : decode cX4_isWithin 4 = .ok (.getfield 15, 3) := by decide +kernel
theorem dX4_isWithin_7 : decode cX4_isWithin 7 = .ok (.if_icmp .ge 30, 3) := by decide +kernel
theorem dX4_isWithin_10 : decode cX4_isWithin 10 = .ok (.aload_n 0, 1) := by decide +kernel
theorem dX4_isWithin_11 : decode cX4_isWithin 11 = .ok (.getfield 9, 3) := by decide +kernel
theorem dX4_isWithin_14 : decode cX4_isWithin 14 = .ok (.iload_n 2, 1) := by decide +kernel
theorem dX4_isWithin_15 : decode cX4_isWithin 15 = .ok (.iaload, 1) := by decide +kernel
theorem dX4_isWithin_16 : decode cX4_isWithin 16 = .ok (.ifCond .lt 13, 3) := by decide +kernel
theorem dX4_isWithin_19 : decode cX4_isWithin 19 = .ok (.aload_n 0, 1) := by decide +kernel
theorem dX4_isWithin_20 : decode cX4_isWithin 20 = .ok (.getfield 9, 3) := by decide +kernel
theorem dX4_isWithin_23 : decode cX4_isWithin 23 = .ok (.iload_n 2, 1) := by decide +kernel
theorem dX4_isWithin_24 : decode cX4_isWithin 24 = .ok (.iaload, 1) := by decide +kernel
theorem dX4_isWithin_25 : decode cX4_isWithin 25 = .ok (.iload_n 1, 1) := by decide +kernel
theorem dX4_isWithin_26 : decode cX4_isWithin 26 = .ok (.if_icmp .le 5, 3) := by decide +kernel
theorem dX4_isWithin_29 : decode cX4_isWithin 29 = .ok (.iconst 0, 1) := by decide +kernel
theorem dX4_isWithin_30 : decode cX4_isWithin 30 = .ok (.ireturn, 1) := by decide +kernel
theorem dX4_isWithin_31 : decode cX4_isWithin 31 = .ok (.iinc 2 1, 3) := by decide +kernel
theorem dX4_isWithin_34 : decode cX4_isWithin 34 = .ok (.goto (-32), 3) := by decide +kernel
theorem dX4_isWithin_37 : decode cX4_isWithin 37 = .ok (.iconst 1, 1) := by decide +kernel
theorem dX4_isWithin_38 : decode cX4_isWithin 38 = .ok (.ireturn, 1) := by decide +kernel
theorem dX4_digestFrom_0 : decode cX4_digestFrom 0 = .ok (.ldc2_w 19, 3) := by decide +kernel
theorem dX4_digestFrom_3 : decode cX4_digestFrom 3 = .ok (.lload_n 1, 1) := by decide +kernel
theorem dX4_digestFrom_4 : decode cX4_digestFrom 4 = .ok (.lmul, 1) := by decide +kernel
theorem dX4_digestFrom_5 : decode cX4_digestFrom 5 = .ok (.aload_n 0, 1) := by decide +kernel
theorem dX4_digestFrom_6 : decode cX4_digestFrom 6 = .ok (.getfield 15, 3) := by decide +kernel
theorem dX4_digestFrom_9 : decode cX4_digestFrom 9 = .ok (.i2l, 1) := by decide +kernel
theorem dX4_digestFrom_10 : decode cX4_digestFrom 10 = .ok (.ladd, 1) := by decide +kernel
theorem dX4_digestFrom_11 : decode cX4_digestFrom 11 = .ok (.lstore_n 3, 1) := by decide +kernel
theorem dX4_digestFrom_12 : decode cX4_digestFrom 12 = .ok (.iconst 0, 1) := by decide +kernel
theorem dX4_digestFrom_13 : decode cX4_digestFrom 13 = .ok (.istore 5, 2) := by decide +kernel
theorem dX4_digestFrom_15 : decode cX4_digestFrom 15 = .ok (.iload 5, 2) := by decide +kernel
theorem dX4_digestFrom_17 : decode cX4_digestFrom 17 = .ok (.aload_n 0, 1) := by decide +kernel
theorem dX4_digestFrom_18 : decode cX4_digestFrom 18 = .ok (.getfield 15, 3) := by decide +kernel
theorem dX4_digestFrom_21 : decode cX4_digestFrom 21 = .ok (.if_icmp .ge 24, 3) := by decide +kernel
theorem dX4_digestFrom_24 : decode cX4_digestFrom 24 = .ok (.ldc2_w 19, 3) := by decide +kernel
theorem dX4_digestFrom_27 : decode cX4_digestFrom 27 = .ok (.lload_n 3, 1) := by decide +kernel
theorem dX4_digestFrom_28 : decode cX4_digestFrom 28 = .ok (.lmul, 1) := by decide +kernel
theorem dX4_digestFrom_29 : decode cX4_digestFrom 29 = .ok (.aload_n 0, 1) := by decide +kernel
theorem dX4_digestFrom_30 : decode cX4_digestFrom 30 = .ok (.getfield 9, 3) := by decide +kernel
theorem dX4_digestFrom_33 : decode cX4_digestFrom 33 = .ok (.iload 5, 2) := by decide +kernel
theorem dX4_digestFrom_35 : decode cX4_digestFrom 35 = .ok (.iaload, 1) := by decide +kernel
theorem dX4_digestFrom_36 : decode cX4_digestFrom 36 = .ok (.i2l, 1) := by decide +kernel
theorem dX4_digestFrom_37 : decode cX4_digestFrom 37 = .ok (.ladd, 1) := by decide +kernel
theorem dX4_digestFrom_38 : decode cX4_digestFrom 38 = .ok (.lstore_n 3, 1) := by decide +kernel
theorem dX4_digestFrom_39 : decode cX4_digestFrom 39 = .ok (.iinc 5 1, 3) := by decide +kernel
theorem dX4_digestFrom_42 : decode cX4_digestFrom 42 = .ok (.goto (-27), 3) := by decide +kernel
theorem dX4_digestFrom_45 : decode cX4_digestFrom 45 = .ok (.lload_n 3, 1) := by decide +kernel
theorem dX4_digestFrom_46 : decode cX4_digestFrom 46 = .ok (.lreturn, 1) := by decide +kernel
theorem dX5_init_0 : decode cX5_init 0 = .ok (.aload_n 0, 1) := by decide +kernel
theorem dX5_init_1 : decode cX5_init 1 = .ok (.invokespecial 1, 3) := by decide +kernel
theorem dX5_init_4 : decode cX5_init 4 = .ok (.aload_n 0, 1) := by decide +kernel
theorem dX5_init_5 : decode cX5_init 5 = .ok (.lconst 0, 1) := by decide +kernel
theorem dX5_init_6 : decode cX5_init 6 = .ok (.putfield 7, 3) := by decide +kernel
theorem dX5_init_9 : decode cX5_init 9 = .ok (.aload_n 0, 1) := by decide +kernel
theorem dX5_init_10 : decode cX5_init 10 = .ok (.lconst 1, 1) := by decide +kernel
theorem dX5_init_11 : decode cX5_init 11 = .ok (.putfield 13, 3) := by decide +kernel
theorem dX5_init_14 : decode cX5_init 14 = .ok (.return_, 1) := by decide +kernel
theorem dX5_tell_0 : decode cX5_tell 0 = .ok (.lload_n 1, 1) := by decide +kernel
theorem dX5_tell_1 : decode cX5_tell 1 = .ok (.lload_n 3, 1) := by decide +kernel
theorem dX5_tell_2 : decode cX5_tell 2 = .ok (.invokestatic 16, 3) := by decide +kernel
theorem dX5_tell_5 : decode cX5_tell 5 = .ok (.lstore 5, 2) := by decide +kernel
theorem dX5_tell_7 : decode cX5_tell 7 = .ok (.lload 5, 2) := by decide +kernel
theorem dX5_tell_9 : decode cX5_tell 9 = .ok (.lconst 0, 1) := by decide +kernel
theorem dX5_tell_10 : decode cX5_tell 10 = .ok (.lcmp, 1) := by decide +kernel
theorem dX5_tell_11 : decode cX5_tell 11 = .ok (.ifCond .le 19, 3) := by decide +kernel
theorem dX5_tell_14 : decode cX5_tell 14 = .ok (.aload_n 0, 1) := by decide +kernel
theorem dX5_tell_15 : decode cX5_tell 15 = .ok (.lload_n 1, 1) := by decide +kernel
theorem dX5_tell_16 : decode cX5_tell 16 = .ok (.lload 5, 2) := by decide +kernel
theorem dX5_tell_18 : decode cX5_tell 18 = .ok (.ldiv, 1) := by decide +kernel
theorem dX5_tell_19 : decode cX5_tell 19 = .ok (.putfield 7, 3) := by decide +kernel
theorem dX5_tell_22 : decode cX5_tell 22 = .ok (.aload_n 0, 1) := by decide +kernel
theorem dX5_tell_23 : decode cX5_tell 23 = .ok (.lload_n 3, 1) := by decide +kernel
theorem dX5_tell_24 : decode cX5_tell 24 = .ok (.lload 5, 2) := by decide +kernel
theorem dX5_tell_26 : decode cX5_tell 26 = .ok (.ldiv, 1) := by decide +kernel
theorem dX5_tell_27 : decode cX5_tell 27 = .ok (.putfield 13, 3) := by decide +kernel
theorem dX5_tell_30 : decode cX5_tell 30 = .ok (.return_, 1) := by decide +kernel
theorem dX5_commonDivisor_0 : decode cX5_commonDivisor 0 = .ok (.lload_n 0, 1) := by decide +kernel
theorem dX5_commonDivisor_1 : decode cX5_commonDivisor 1 = .ok (.lstore 4, 2) := by decide +kernel
theorem dX5_commonDivisor_3 : decode cX5_commonDivisor 3 = .ok (.lload_n 2, 1) := by decide +kernel
theorem dX5_commonDivisor_4 : decode cX5_commonDivisor 4 = .ok (.lstore 6, 2) := by decide +kernel
theorem dX5_commonDivisor_6 : decode cX5_commonDivisor 6 = .ok (.iconst 0, 1) := by decide +kernel
theorem dX5_commonDivisor_7 : decode cX5_commonDivisor 7 = .ok (.istore 8, 2) := by decide +kernel
theorem dX5_commonDivisor_9 : decode cX5_commonDivisor 9 = .ok (.iload 8, 2) := by decide +kernel
theorem dX5_commonDivisor_11 : decode cX5_commonDivisor 11 = .ok (.sipush 200, 3) := by decide +kernel
theorem dX5_commonDivisor_14 : decode cX5_commonDivisor 14 = .ok (.if_icmp .ge 31, 3) := by decide +kernel
theorem dX5_commonDivisor_17 : decode cX5_commonDivisor 17 = .ok (.lload 6, 2) := by decide +kernel
theorem dX5_commonDivisor_19 : decode cX5_commonDivisor 19 = .ok (.lconst 0, 1) := by decide +kernel
theorem dX5_commonDivisor_20 : decode cX5_commonDivisor 20 = .ok (.lcmp, 1) := by decide +kernel
theorem dX5_commonDivisor_21 : decode cX5_commonDivisor 21 = .ok (.ifCond .eq 24, 3) := by decide +kernel
theorem dX5_commonDivisor_24 : decode cX5_commonDivisor 24 = .ok (.lload 4, 2) := by decide +kernel
theorem dX5_commonDivisor_26 : decode cX5_commonDivisor 26 = .ok (.lload 6, 2) := by decide +kernel
theorem dX5_commonDivisor_28 : decode cX5_commonDivisor 28 = .ok (.lrem, 1) := by decide +kernel
theorem dX5_commonDivisor_29 : decode cX5_commonDivisor 29 = .ok (.lstore 9, 2) := by decide +kernel
theorem dX5_commonDivisor_31 : decode cX5_commonDivisor 31 = .ok (.lload 6, 2) := by decide +kernel
theorem dX5_commonDivisor_33 : decode cX5_commonDivisor 33 = .ok (.lstore 4, 2) := by decide +kernel
theorem dX5_commonDivisor_35 : decode cX5_commonDivisor 35 = .ok (.lload 9, 2) := by decide +kernel
theorem dX5_commonDivisor_37 : decode cX5_commonDivisor 37 = .ok (.lstore 6, 2) := by decide +kernel
theorem dX5_commonDivisor_39 : decode cX5_commonDivisor 39 = .ok (.iinc 8 1, 3) := by decide +kernel
theorem dX5_commonDivisor_42 : decode cX5_commonDivisor 42 = .ok (.goto (-33), 3) := by decide +kernel
theorem dX5_commonDivisor_45 : decode cX5_commonDivisor 45 = .ok (.lload 4, 2) := by decide +kernel
theorem dX5_commonDivisor_47 : decode cX5_commonDivisor 47 = .ok (.lreturn, 1) := by decide +kernel
theorem dX6_init_0 : decode cX6_init 0 = .ok (.aload_n 0, 1) := by decide +kernel
theorem dX6_init_1 : decode cX6_init 1 = .ok (.invokespecial 3, 3) := by decide +kernel
theorem dX6_init_4 : decode cX6_init 4 = .ok (.aload_n 0, 1) := by decide +kernel
theorem dX6_init_5 : decode cX6_init 5 = .ok (.bipush 60, 2) := by decide +kernel
theorem dX6_init_7 : decode cX6_init 7 = .ok (.newarray .byte, 2) := by decide +kernel
theorem dX6_init_9 : decode cX6_init 9 = .ok (.putfield 9, 3) := by decide +kernel
theorem dX6_init_12 : decode cX6_init 12 = .ok (.aload_n 0, 1) := by decide +kernel
theorem dX6_init_13 : decode cX6_init 13 = .ok (.iconst (-1), 1) := by decide +kernel
theorem dX6_init_14 : decode cX6_init 14 = .ok (.putfield 15, 3) := by decide +kernel
theorem dX6_init_17 : decode cX6_init 17 = .ok (.return_, 1) := by decide +kernel
theorem dX6_isMissing_0 : decode cX6_isMissing 0 = .ok (.aload_n 0, 1) := by decide +kernel
theorem dX6_isMissing_1 : decode cX6_isMissing 1 = .ok (.getfield 15, 3) := by decide +kernel
theorem dX6_isMissing_4 : decode cX6_isMissing 4 = .ok (.iconst (-1), 1) := by decide +kernel
theorem dX6_isMissing_5 : decode cX6_isMissing 5 = .ok (.if_icmp .ne 7, 3) := by decide +kernel
theorem dX6_isMissing_8 : decode cX6_isMissing 8 = .ok (.iconst 1, 1) := by decide +kernel
theorem dX6_isMissing_9 : decode cX6_isMissing 9 = .ok (.goto 4, 3) := by decide +kernel
theorem dX6_isMissing_12 : decode cX6_isMissing 12 = .ok (.iconst 0, 1) := by decide +kernel
theorem dX6_isMissing_13 : decode cX6_isMissing 13 = .ok (.ireturn, 1) := by decide +kernel
theorem dX6_begin_0 : decode cX6_begin 0 = .ok (.aload_n 0, 1) := by decide +kernel
theorem dX6_begin_1 : decode cX6_begin 1 = .ok (.iload_n 1, 1) := by decide +kernel
theorem dX6_begin_2 : decode cX6_begin 2 = .ok (.putfield 15, 3) := by decide +kernel
theorem dX6_begin_5 : decode cX6_begin 5 = .ok (.iconst 0, 1) := by decide +kernel
theorem dX6_begin_6 : decode cX6_begin 6 = .ok (.istore_n 2, 1) := by decide +kernel
theorem dX6_begin_7 : decode cX6_begin 7 = .ok (.iload_n 2, 1) := by decide +kernel
theorem dX6_begin_8 : decode cX6_begin 8 = .ok (.iload_n 1, 1) := by decide +kernel
theorem dX6_begin_9 : decode cX6_begin 9 = .ok (.if_icmp .ge 17, 3) := by decide +kernel
theorem dX6_begin_12 : decode cX6_begin 12 = .ok (.aload_n 0, 1) := by decide +kernel
theorem dX6_begin_13 : decode cX6_begin 13 = .ok (.getfield 9, 3) := by decide +kernel
theorem dX6_begin_16 : decode cX6_begin 16 = .ok (.iload_n 2, 1) := by decide +kernel
theorem dX6_begin_17 : decode cX6_begin 17 = .ok (.bipush 32, 2) := by decide +kernel
theorem dX6_begin_19 : decode cX6_begin 19 = .ok (.bastore, 1) := by decide +kernel
theorem dX6_begin_20 : decode cX6_begin 20 = .ok (.iinc 2 1, 3) := by decide +kernel
theorem dX6_begin_23 : decode cX6_begin 23 = .ok (.goto (-16), 3) := by decide +kernel
theorem dX6_begin_26 : decode cX6_begin 26 = .ok (.return_, 1) := by decide +kernel
theorem dX6_isFigure_0 : decode cX6_isFigure 0 = .ok (.iload_n 1, 1) := by decide +kernel
theorem dX6_isFigure_1 : decode cX6_isFigure 1 = .ok (.aload_n 0, 1) := by decide +kernel
theorem dX6_isFigure_2 : decode cX6_isFigure 2 = .ok (.getfield 15, 3) := by decide +kernel
theorem dX6_isFigure_5 : decode cX6_isFigure 5 = .ok (.if_icmp .ge 31, 3) := by decide +kernel
theorem dX6_isFigure_8 : decode cX6_isFigure 8 = .ok (.aload_n 0, 1) := by decide +kernel
theorem dX6_isFigure_9 : decode cX6_isFigure 9 = .ok (.getfield 9, 3) := by decide +kernel
theorem dX6_isFigure_12 : decode cX6_isFigure 12 = .ok (.iload_n 1, 1) := by decide +kernel
theorem dX6_isFigure_13 : decode cX6_isFigure 13 = .ok (.baload, 1) := by decide +kernel
theorem dX6_isFigure_14 : decode cX6_isFigure 14 = .ok (.bipush 48, 2) := by decide +kernel
theorem dX6_isFigure_16 : decode cX6_isFigure 16 = .ok (.iload_n 2, 1) := by decide +kernel
theorem dX6_isFigure_17 : decode cX6_isFigure 17 = .ok (.iadd, 1) := by decide +kernel
theorem dX6_isFigure_18 : decode cX6_isFigure 18 = .ok (.if_icmp .lt 18, 3) := by decide +kernel
theorem dX6_isFigure_21 : decode cX6_isFigure 21 = .ok (.aload_n 0, 1) := by decide +kernel
theorem dX6_isFigure_22 : decode cX6_isFigure 22 = .ok (.getfield 9, 3) := by decide +kernel
theorem dX6_isFigure_25 : decode cX6_isFigure 25 = .ok (.iload_n 1, 1) := by decide +kernel
theorem dX6_isFigure_26 : decode cX6_isFigure 26 = .ok (.baload, 1) := by decide +kernel
theorem dX6_isFigure_27 : decode cX6_isFigure 27 = .ok (.bipush 58, 2) := by decide +kernel
theorem dX6_isFigure_29 : decode cX6_isFigure 29 = .ok (.if_icmp .ge 7, 3) := by decide +kernel
theorem dX6_isFigure_32 : decode cX6_isFigure 32 = .ok (.iconst 1, 1) := by decide +kernel
theorem dX6_isFigure_33 : decode cX6_isFigure 33 = .ok (.goto 4, 3) := by decide +kernel
theorem dX6_isFigure_36 : decode cX6_isFigure 36 = .ok (.iconst 0, 1) := by decide +kernel
theorem dX6_isFigure_37 : decode cX6_isFigure 37 = .ok (.ireturn, 1) := by decide +kernel
theorem dX6_figure_0 : decode cX6_figure 0 = .ok (.aload_n 0, 1) := by decide +kernel
theorem dX6_figure_1 : decode cX6_figure 1 = .ok (.getfield 9, 3) := by decide +kernel
theorem dX6_figure_4 : decode cX6_figure 4 = .ok (.iload_n 1, 1) := by decide +kernel
theorem dX6_figure_5 : decode cX6_figure 5 = .ok (.baload, 1) := by decide +kernel
theorem dX6_figure_6 : decode cX6_figure 6 = .ok (.bipush 48, 2) := by decide +kernel
theorem dX6_figure_8 : decode cX6_figure 8 = .ok (.isub, 1) := by decide +kernel
theorem dX6_figure_9 : decode cX6_figure 9 = .ok (.ireturn, 1) := by decide +kernel
theorem dX6_kind_0 : decode cX6_kind 0 = .ok (.iconst 0, 1) := by decide +kernel
theorem dX6_kind_1 : decode cX6_kind 1 = .ok (.istore_n 2, 1) := by decide +kernel
theorem dX6_kind_2 : decode cX6_kind 2 = .ok (.iload_n 2, 1) := by decide +kernel
theorem dX6_kind_3 : decode cX6_kind 3 = .ok (.bipush 6, 2) := by decide +kernel
theorem dX6_kind_5 : decode cX6_kind 5 = .ok (.if_icmp .ge 33, 3) := by decide +kernel
theorem dX6_kind_8 : decode cX6_kind 8 = .ok (.iload_n 1, 1) := by decide +kernel
theorem dX6_kind_9 : decode cX6_kind 9 = .ok (.aload_n 0, 1) := by decide +kernel
theorem dX6_kind_10 : decode cX6_kind 10 = .ok (.getfield 15, 3) := by decide +kernel
theorem dX6_kind_13 : decode cX6_kind 13 = .ok (.if_icmp .ge 25, 3) := by decide +kernel
theorem dX6_kind_16 : decode cX6_kind 16 = .ok (.aload_n 0, 1) := by decide +kernel
theorem dX6_kind_17 : decode cX6_kind 17 = .ok (.getfield 9, 3) := by decide +kernel
theorem dX6_kind_20 : decode cX6_kind 20 = .ok (.iload_n 1, 1) := by decide +kernel
theorem dX6_kind_21 : decode cX6_kind 21 = .ok (.baload, 1) := by decide +kernel
theorem dX6_kind_22 : decode cX6_kind 22 = .ok (.getstatic 19, 3) := by decide +kernel
theorem dX6_kind_25 : decode cX6_kind 25 = .ok (.iload_n 2, 1) := by decide +kernel
theorem dX6_kind_26 : decode cX6_kind 26 = .ok (.iaload, 1) := by decide +kernel
theorem dX6_kind_27 : decode cX6_kind 27 = .ok (.if_icmp .ne 5, 3) := by decide +kernel
theorem dX6_kind_30 : decode cX6_kind 30 = .ok (.iload_n 2, 1) := by decide +kernel
theorem dX6_kind_31 : decode cX6_kind 31 = .ok (.ireturn, 1) := by decide +kernel
theorem dX6_kind_32 : decode cX6_kind 32 = .ok (.iinc 2 1, 3) := by decide +kernel
theorem dX6_kind_35 : decode cX6_kind 35 = .ok (.goto (-33), 3) := by decide +kernel
theorem dX6_kind_38 : decode cX6_kind 38 = .ok (.bipush (-9), 2) := by decide +kernel
theorem dX6_kind_40 : decode cX6_kind 40 = .ok (.ireturn, 1) := by decide +kernel
theorem dX6_pastBlanks_0 : decode cX6_pastBlanks 0 = .ok (.iload_n 1, 1) := by decide +kernel
theorem dX6_pastBlanks_1 : decode cX6_pastBlanks 1 = .ok (.istore_n 2, 1) := by decide +kernel
theorem dX6_pastBlanks_2 : decode cX6_pastBlanks 2 = .ok (.iload_n 2, 1) := by decide +kernel
theorem dX6_pastBlanks_3 : decode cX6_pastBlanks 3 = .ok (.aload_n 0, 1) := by decide +kernel
theorem dX6_pastBlanks_4 : decode cX6_pastBlanks 4 = .ok (.getfield 15, 3) := by decide +kernel
theorem dX6_pastBlanks_7 : decode cX6_pastBlanks 7 = .ok (.if_icmp .ge 20, 3) := by decide +kernel
theorem dX6_pastBlanks_10 : decode cX6_pastBlanks 10 = .ok (.aload_n 0, 1) := by decide +kernel
theorem dX6_pastBlanks_11 : decode cX6_pastBlanks 11 = .ok (.getfield 9, 3) := by decide +kernel
theorem dX6_pastBlanks_14 : decode cX6_pastBlanks 14 = .ok (.iload_n 2, 1) := by decide +kernel
theorem dX6_pastBlanks_15 : decode cX6_pastBlanks 15 = .ok (.baload, 1) := by decide +kernel
theorem dX6_pastBlanks_16 : decode cX6_pastBlanks 16 = .ok (.bipush 32, 2) := by decide +kernel
theorem dX6_pastBlanks_18 : decode cX6_pastBlanks 18 = .ok (.if_icmp .ne 9, 3) := by decide +kernel
theorem dX6_pastBlanks_21 : decode cX6_pastBlanks 21 = .ok (.iinc 2 1, 3) := by decide +kernel
theorem dX6_pastBlanks_24 : decode cX6_pastBlanks 24 = .ok (.goto (-22), 3) := by decide +kernel
theorem dX6_pastBlanks_27 : decode cX6_pastBlanks 27 = .ok (.iload_n 2, 1) := by decide +kernel
theorem dX6_pastBlanks_28 : decode cX6_pastBlanks 28 = .ok (.ireturn, 1) := by decide +kernel
theorem dX6_digestFrom_0 : decode cX6_digestFrom 0 = .ok (.ldc2_w 23, 3) := by decide +kernel
theorem dX6_digestFrom_3 : decode cX6_digestFrom 3 = .ok (.lload_n 1, 1) := by decide +kernel
theorem dX6_digestFrom_4 : decode cX6_digestFrom 4 = .ok (.lmul, 1) := by decide +kernel
theorem dX6_digestFrom_5 : decode cX6_digestFrom 5 = .ok (.aload_n 0, 1) := by decide +kernel
theorem dX6_digestFrom_6 : decode cX6_digestFrom 6 = .ok (.getfield 15, 3) := by decide +kernel
theorem dX6_digestFrom_9 : decode cX6_digestFrom 9 = .ok (.i2l, 1) := by decide +kernel
theorem dX6_digestFrom_10 : decode cX6_digestFrom 10 = .ok (.ladd, 1) := by decide +kernel
theorem dX6_digestFrom_11 : decode cX6_digestFrom 11 = .ok (.lstore_n 3, 1) := by decide +kernel
theorem dX6_digestFrom_12 : decode cX6_digestFrom 12 = .ok (.iconst 0, 1) := by decide +kernel
theorem dX6_digestFrom_13 : decode cX6_digestFrom 13 = .ok (.istore 5, 2) := by decide +kernel
theorem dX6_digestFrom_15 : decode cX6_digestFrom 15 = .ok (.iload 5, 2) := by decide +kernel
theorem dX6_digestFrom_17 : decode cX6_digestFrom 17 = .ok (.aload_n 0, 1) := by decide +kernel
theorem dX6_digestFrom_18 : decode cX6_digestFrom 18 = .ok (.getfield 15, 3) := by decide +kernel
theorem dX6_digestFrom_21 : decode cX6_digestFrom 21 = .ok (.if_icmp .ge 24, 3) := by decide +kernel
theorem dX6_digestFrom_24 : decode cX6_digestFrom 24 = .ok (.ldc2_w 23, 3) := by decide +kernel
theorem dX6_digestFrom_27 : decode cX6_digestFrom 27 = .ok (.lload_n 3, 1) := by decide +kernel
theorem dX6_digestFrom_28 : decode cX6_digestFrom 28 = .ok (.lmul, 1) := by decide +kernel
theorem dX6_digestFrom_29 : decode cX6_digestFrom 29 = .ok (.aload_n 0, 1) := by decide +kernel
theorem dX6_digestFrom_30 : decode cX6_digestFrom 30 = .ok (.getfield 9, 3) := by decide +kernel
theorem dX6_digestFrom_33 : decode cX6_digestFrom 33 = .ok (.iload 5, 2) := by decide +kernel
theorem dX6_digestFrom_35 : decode cX6_digestFrom 35 = .ok (.baload, 1) := by decide +kernel
theorem dX6_digestFrom_36 : decode cX6_digestFrom 36 = .ok (.i2l, 1) := by decide +kernel
theorem dX6_digestFrom_37 : decode cX6_digestFrom 37 = .ok (.ladd, 1) := by decide +kernel
theorem dX6_digestFrom_38 : decode cX6_digestFrom 38 = .ok (.lstore_n 3, 1) := by decide +kernel
theorem dX6_digestFrom_39 : decode cX6_digestFrom 39 = .ok (.iinc 5 1, 3) := by decide +kernel
theorem dX6_digestFrom_42 : decode cX6_digestFrom 42 = .ok (.goto (-27), 3) := by decide +kernel
theorem dX6_digestFrom_45 : decode cX6_digestFrom 45 = .ok (.lload_n 3, 1) := by decide +kernel
theorem dX6_digestFrom_46 : decode cX6_digestFrom 46 = .ok (.lreturn, 1) := by decide +kernel
theorem dX7_init_0 : decode cX7_init 0 = .ok (.aload_n 0, 1) := by decide +kernel
theorem dX7_init_1 : decode cX7_init 1 = .ok (.invokespecial 1, 3) := by decide +kernel
theorem dX7_init_4 : decode cX7_init 4 = .ok (.aload_n 0, 1) := by decide +kernel
theorem dX7_init_5 : decode cX7_init 5 = .ok (.bipush 6, 2) := by decide +kernel
theorem dX7_init_7 : decode cX7_init 7 = .ok (.anewarray 9, 3) := by decide +kernel
theorem dX7_init_10 : decode cX7_init 10 = .ok (.putfield 11, 3) := by decide +kernel
theorem dX7_init_13 : decode cX7_init 13 = .ok (.aload_n 0, 1) := by decide +kernel
theorem dX7_init_14 : decode cX7_init 14 = .ok (.iconst 4, 1) := by decide +kernel
theorem dX7_init_15 : decode cX7_init 15 = .ok (.anewarray 15, 3) := by decide +kernel
theorem dX7_init_18 : decode cX7_init 18 = .ok (.putfield 17, 3) := by decide +kernel
theorem dX7_init_21 : decode cX7_init 21 = .ok (.aload_n 0, 1) := by decide +kernel
theorem dX7_init_22 : decode cX7_init 22 = .ok (.new 21, 3) := by decide +kernel
theorem dX7_init_25 : decode cX7_init 25 = .ok (.dup, 1) := by decide +kernel
theorem dX7_init_26 : decode cX7_init 26 = .ok (.invokespecial 23, 3) := by decide +kernel
theorem dX7_init_29 : decode cX7_init 29 = .ok (.putfield 24, 3) := by decide +kernel
theorem dX7_init_32 : decode cX7_init 32 = .ok (.aload_n 0, 1) := by decide +kernel
theorem dX7_init_33 : decode cX7_init 33 = .ok (.new 21, 3) := by decide +kernel
theorem dX7_init_36 : decode cX7_init 36 = .ok (.dup, 1) := by decide +kernel
theorem dX7_init_37 : decode cX7_init 37 = .ok (.invokespecial 23, 3) := by decide +kernel
theorem dX7_init_40 : decode cX7_init 40 = .ok (.putfield 28, 3) := by decide +kernel
theorem dX7_init_43 : decode cX7_init 43 = .ok (.aload_n 0, 1) := by decide +kernel
theorem dX7_init_44 : decode cX7_init 44 = .ok (.new 21, 3) := by decide +kernel
theorem dX7_init_47 : decode cX7_init 47 = .ok (.dup, 1) := by decide +kernel
theorem dX7_init_48 : decode cX7_init 48 = .ok (.invokespecial 23, 3) := by decide +kernel
theorem dX7_init_51 : decode cX7_init 51 = .ok (.putfield 31, 3) := by decide +kernel
theorem dX7_init_54 : decode cX7_init 54 = .ok (.aload_n 0, 1) := by decide +kernel
theorem dX7_init_55 : decode cX7_init 55 = .ok (.new 21, 3) := by decide +kernel
theorem dX7_init_58 : decode cX7_init 58 = .ok (.dup, 1) := by decide +kernel
theorem dX7_init_59 : decode cX7_init 59 = .ok (.invokespecial 23, 3) := by decide +kernel
theorem dX7_init_62 : decode cX7_init 62 = .ok (.putfield 34, 3) := by decide +kernel
theorem dX7_init_65 : decode cX7_init 65 = .ok (.aload_n 0, 1) := by decide +kernel
theorem dX7_init_66 : decode cX7_init 66 = .ok (.new 37, 3) := by decide +kernel
theorem dX7_init_69 : decode cX7_init 69 = .ok (.dup, 1) := by decide +kernel
theorem dX7_init_70 : decode cX7_init 70 = .ok (.invokespecial 39, 3) := by decide +kernel
theorem dX7_init_73 : decode cX7_init 73 = .ok (.putfield 40, 3) := by decide +kernel
theorem dX7_init_76 : decode cX7_init 76 = .ok (.aload_n 0, 1) := by decide +kernel
theorem dX7_init_77 : decode cX7_init 77 = .ok (.iconst 3, 1) := by decide +kernel
theorem dX7_init_78 : decode cX7_init 78 = .ok (.anewarray 37, 3) := by decide +kernel
theorem dX7_init_81 : decode cX7_init 81 = .ok (.putfield 44, 3) := by decide +kernel
theorem dX7_init_84 : decode cX7_init 84 = .ok (.aload_n 0, 1) := by decide +kernel
theorem dX7_init_85 : decode cX7_init 85 = .ok (.new 48, 3) := by decide +kernel
theorem dX7_init_88 : decode cX7_init 88 = .ok (.dup, 1) := by decide +kernel
theorem dX7_init_89 : decode cX7_init 89 = .ok (.invokespecial 50, 3) := by decide +kernel
theorem dX7_init_92 : decode cX7_init 92 = .ok (.putfield 51, 3) := by decide +kernel
theorem dX7_init_95 : decode cX7_init 95 = .ok (.aload_n 0, 1) := by decide +kernel
theorem dX7_init_96 : decode cX7_init 96 = .ok (.bipush 61, 2) := by decide +kernel
theorem dX7_init_98 : decode cX7_init 98 = .ok (.newarray .int, 2) := by decide +kernel
theorem dX7_init_100 : decode cX7_init 100 = .ok (.putfield 55, 3) := by decide +kernel
theorem dX7_init_103 : decode cX7_init 103 = .ok (.aload_n 0, 1) := by decide +kernel
theorem dX7_init_104 : decode cX7_init 104 = .ok (.bipush 6, 2) := by decide +kernel
theorem dX7_init_106 : decode cX7_init 106 = .ok (.bipush 21, 2) := by decide +kernel
theorem dX7_init_108 : decode cX7_init 108 = .ok (.multianewarray 59 2, 4) := by decide +kernel
theorem dX7_init_112 : decode cX7_init 112 = .ok (.putfield 61, 3) := by decide +kernel
theorem dX7_init_115 : decode cX7_init 115 = .ok (.aload_n 0, 1) := by decide +kernel
theorem dX7_init_116 : decode cX7_init 116 = .ok (.bipush 8, 2) := by decide +kernel
theorem dX7_init_118 : decode cX7_init 118 = .ok (.newarray .long, 2) := by decide +kernel
theorem dX7_init_120 : decode cX7_init 120 = .ok (.putfield 64, 3) := by decide +kernel
theorem dX7_init_123 : decode cX7_init 123 = .ok (.aload_n 0, 1) := by decide +kernel
theorem dX7_init_124 : decode cX7_init 124 = .ok (.new 68, 3) := by decide +kernel
theorem dX7_init_127 : decode cX7_init 127 = .ok (.dup, 1) := by decide +kernel
theorem dX7_init_128 : decode cX7_init 128 = .ok (.invokespecial 70, 3) := by decide +kernel
theorem dX7_init_131 : decode cX7_init 131 = .ok (.putfield 71, 3) := by decide +kernel
theorem dX7_init_134 : decode cX7_init 134 = .ok (.aload_n 0, 1) := by decide +kernel
theorem dX7_init_135 : decode cX7_init 135 = .ok (.bipush 6, 2) := by decide +kernel
theorem dX7_init_137 : decode cX7_init 137 = .ok (.newarray .int, 2) := by decide +kernel
theorem dX7_init_139 : decode cX7_init 139 = .ok (.putfield 75, 3) := by decide +kernel
theorem dX7_init_142 : decode cX7_init 142 = .ok (.iconst 0, 1) := by decide +kernel
theorem dX7_init_143 : decode cX7_init 143 = .ok (.istore_n 1, 1) := by decide +kernel
theorem dX7_init_144 : decode cX7_init 144 = .ok (.iload_n 1, 1) := by decide +kernel
theorem dX7_init_145 : decode cX7_init 145 = .ok (.bipush 6, 2) := by decide +kernel
theorem dX7_init_147 : decode cX7_init 147 = .ok (.if_icmp .ge 22, 3) := by decide +kernel
theorem dX7_init_150 : decode cX7_init 150 = .ok (.aload_n 0, 1) := by decide +kernel
theorem dX7_init_151 : decode cX7_init 151 = .ok (.getfield 11, 3) := by decide +kernel
theorem dX7_init_154 : decode cX7_init 154 = .ok (.iload_n 1, 1) := by decide +kernel
theorem dX7_init_155 : decode cX7_init 155 = .ok (.new 9, 3) := by decide +kernel
theorem dX7_init_158 : decode cX7_init 158 = .ok (.dup, 1) := by decide +kernel
theorem dX7_init_159 : decode cX7_init 159 = .ok (.invokespecial 78, 3) := by decide +kernel
theorem dX7_init_162 : decode cX7_init 162 = .ok (.aastore, 1) := by decide +kernel
theorem dX7_init_163 : decode cX7_init 163 = .ok (.iinc 1 1, 3) := by decide +kernel
theorem dX7_init_166 : decode cX7_init 166 = .ok (.goto (-22), 3) := by decide +kernel
theorem dX7_init_169 : decode cX7_init 169 = .ok (.iconst 0, 1) := by decide +kernel
theorem dX7_init_170 : decode cX7_init 170 = .ok (.istore_n 1, 1) := by decide +kernel
theorem dX7_init_171 : decode cX7_init 171 = .ok (.iload_n 1, 1) := by decide +kernel
theorem dX7_init_172 : decode cX7_init 172 = .ok (.iconst 4, 1) := by decide +kernel
theorem dX7_init_173 : decode cX7_init 173 = .ok (.if_icmp .ge 22, 3) := by decide +kernel
theorem dX7_init_176 : decode cX7_init 176 = .ok (.aload_n 0, 1) := by decide +kernel
theorem dX7_init_177 : decode cX7_init 177 = .ok (.getfield 17, 3) := by decide +kernel
theorem dX7_init_180 : decode cX7_init 180 = .ok (.iload_n 1, 1) := by decide +kernel
theorem dX7_init_181 : decode cX7_init 181 = .ok (.new 15, 3) := by decide +kernel
theorem dX7_init_184 : decode cX7_init 184 = .ok (.dup, 1) := by decide +kernel
theorem dX7_init_185 : decode cX7_init 185 = .ok (.invokespecial 79, 3) := by decide +kernel
theorem dX7_init_188 : decode cX7_init 188 = .ok (.aastore, 1) := by decide +kernel
theorem dX7_init_189 : decode cX7_init 189 = .ok (.iinc 1 1, 3) := by decide +kernel
theorem dX7_init_192 : decode cX7_init 192 = .ok (.goto (-21), 3) := by decide +kernel
theorem dX7_init_195 : decode cX7_init 195 = .ok (.iconst 0, 1) := by decide +kernel
theorem dX7_init_196 : decode cX7_init 196 = .ok (.istore_n 1, 1) := by decide +kernel
theorem dX7_init_197 : decode cX7_init 197 = .ok (.iload_n 1, 1) := by decide +kernel
theorem dX7_init_198 : decode cX7_init 198 = .ok (.iconst 3, 1) := by decide +kernel
theorem dX7_init_199 : decode cX7_init 199 = .ok (.if_icmp .ge 32, 3) := by decide +kernel
theorem dX7_init_202 : decode cX7_init 202 = .ok (.aload_n 0, 1) := by decide +kernel
theorem dX7_init_203 : decode cX7_init 203 = .ok (.getfield 44, 3) := by decide +kernel
theorem dX7_init_206 : decode cX7_init 206 = .ok (.iload_n 1, 1) := by decide +kernel
theorem dX7_init_207 : decode cX7_init 207 = .ok (.new 37, 3) := by decide +kernel
theorem dX7_init_210 : decode cX7_init 210 = .ok (.dup, 1) := by decide +kernel
theorem dX7_init_211 : decode cX7_init 211 = .ok (.invokespecial 39, 3) := by decide +kernel
theorem dX7_init_214 : decode cX7_init 214 = .ok (.aastore, 1) := by decide +kernel
theorem dX7_init_215 : decode cX7_init 215 = .ok (.aload_n 0, 1) := by decide +kernel
theorem dX7_init_216 : decode cX7_init 216 = .ok (.getfield 44, 3) := by decide +kernel
theorem dX7_init_219 : decode cX7_init 219 = .ok (.iload_n 1, 1) := by decide +kernel
theorem dX7_init_220 : decode cX7_init 220 = .ok (.aaload, 1) := by decide +kernel
theorem dX7_init_221 : decode cX7_init 221 = .ok (.iconst (-1), 1) := by decide +kernel
theorem dX7_init_222 : decode cX7_init 222 = .ok (.putfield 80, 3) := by decide +kernel
theorem dX7_init_225 : decode cX7_init 225 = .ok (.iinc 1 1, 3) := by decide +kernel
theorem dX7_init_228 : decode cX7_init 228 = .ok (.goto (-31), 3) := by decide +kernel
theorem dX7_init_231 : decode cX7_init 231 = .ok (.return_, 1) := by decide +kernel
theorem dX7_row_0 : decode cX7_row 0 = .ok (.iload_n 1, 1) := by decide +kernel
theorem dX7_row_1 : decode cX7_row 1 = .ok (.invokestatic 84, 3) := by decide +kernel
theorem dX7_row_4 : decode cX7_row 4 = .ok (.ifCond .eq 9, 3) := by decide +kernel
theorem dX7_row_7 : decode cX7_row 7 = .ok (.iload_n 2, 1) := by decide +kernel
theorem dX7_row_8 : decode cX7_row 8 = .ok (.bipush 40, 2) := by decide +kernel
theorem dX7_row_10 : decode cX7_row 10 = .ok (.if_icmp .le 5, 3) := by decide +kernel
theorem dX7_row_13 : decode cX7_row 13 = .ok (.iconst (-1), 1) := by decide +kernel
theorem dX7_row_14 : decode cX7_row 14 = .ok (.ireturn, 1) := by decide +kernel
theorem dX7_row_15 : decode cX7_row 15 = .ok (.iload_n 2, 1) := by decide +kernel
theorem dX7_row_16 : decode cX7_row 16 = .ok (.ifCond .ge 9, 3) := by decide +kernel
theorem dX7_row_19 : decode cX7_row 19 = .ok (.aload_n 0, 1) := by decide +kernel
theorem dX7_row_20 : decode cX7_row 20 = .ok (.iconst 5, 1) := by decide +kernel
theorem dX7_row_21 : decode cX7_row 21 = .ok (.invokevirtual 88, 3) := by decide +kernel
theorem dX7_row_24 : decode cX7_row 24 = .ok (.ireturn, 1) := by decide +kernel
theorem dX7_row_25 : decode cX7_row 25 = .ok (.aload_n 0, 1) := by decide +kernel
theorem dX7_row_26 : decode cX7_row 26 = .ok (.getfield 11, 3) := by decide +kernel
theorem dX7_row_29 : decode cX7_row 29 = .ok (.iload_n 1, 1) := by decide +kernel
theorem dX7_row_30 : decode cX7_row 30 = .ok (.aaload, 1) := by decide +kernel
theorem dX7_row_31 : decode cX7_row 31 = .ok (.iload_n 2, 1) := by decide +kernel
theorem dX7_row_32 : decode cX7_row 32 = .ok (.invokevirtual 92, 3) := by decide +kernel
theorem dX7_row_35 : decode cX7_row 35 = .ok (.iload_n 2, 1) := by decide +kernel
theorem dX7_row_36 : decode cX7_row 36 = .ok (.ireturn, 1) := by decide +kernel
theorem dX7_lay_0 : decode cX7_lay 0 = .ok (.aload_n 0, 1) := by decide +kernel
theorem dX7_lay_1 : decode cX7_lay 1 = .ok (.iload_n 1, 1) := by decide +kernel
theorem dX7_lay_2 : decode cX7_lay 2 = .ok (.iload_n 2, 1) := by decide +kernel
theorem dX7_lay_3 : decode cX7_lay 3 = .ok (.invokevirtual 96, 3) := by decide +kernel
theorem dX7_lay_6 : decode cX7_lay 6 = .ok (.istore 4, 2) := by decide +kernel
theorem dX7_lay_8 : decode cX7_lay 8 = .ok (.iload 4, 2) := by decide +kernel
theorem dX7_lay_10 : decode cX7_lay 10 = .ok (.ifCond .eq 6, 3) := by decide +kernel
theorem dX7_lay_13 : decode cX7_lay 13 = .ok (.iload 4, 2) := by decide +kernel
theorem dX7_lay_15 : decode cX7_lay 15 = .ok (.ireturn, 1) := by decide +kernel
theorem dX7_lay_16 : decode cX7_lay 16 = .ok (.aload_n 0, 1) := by decide +kernel
theorem dX7_lay_17 : decode cX7_lay 17 = .ok (.aload_n 0, 1) := by decide +kernel
theorem dX7_lay_18 : decode cX7_lay 18 = .ok (.getfield 11, 3) := by decide +kernel
theorem dX7_lay_21 : decode cX7_lay 21 = .ok (.iload_n 1, 1) := by decide +kernel
theorem dX7_lay_22 : decode cX7_lay 22 = .ok (.aaload, 1) := by decide +kernel
theorem dX7_lay_23 : decode cX7_lay 23 = .ok (.getfield 100, 3) := by decide +kernel
theorem dX7_lay_26 : decode cX7_lay 26 = .ok (.iload_n 2, 1) := by decide +kernel
theorem dX7_lay_27 : decode cX7_lay 27 = .ok (.iaload, 1) := by decide +kernel
theorem dX7_lay_28 : decode cX7_lay 28 = .ok (.putfield 103, 3) := by decide +kernel
theorem dX7_lay_31 : decode cX7_lay 31 = .ok (.aload_n 0, 1) := by decide +kernel
theorem dX7_lay_32 : decode cX7_lay 32 = .ok (.getfield 11, 3) := by decide +kernel
theorem dX7_lay_35 : decode cX7_lay 35 = .ok (.iload_n 1, 1) := by decide +kernel
theorem dX7_lay_36 : decode cX7_lay 36 = .ok (.aaload, 1) := by decide +kernel
theorem dX7_lay_37 : decode cX7_lay 37 = .ok (.getfield 100, 3) := by decide +kernel
theorem dX7_lay_40 : decode cX7_lay 40 = .ok (.iload_n 2, 1) := by decide +kernel
theorem dX7_lay_41 : decode cX7_lay 41 = .ok (.iload_n 3, 1) := by decide +kernel
theorem dX7_lay_42 : decode cX7_lay 42 = .ok (.iastore, 1) := by decide +kernel
theorem dX7_lay_43 : decode cX7_lay 43 = .ok (.iconst 1, 1) := by decide +kernel
theorem dX7_lay_44 : decode cX7_lay 44 = .ok (.ireturn, 1) := by decide +kernel
theorem dX7_at_0 : decode cX7_at 0 = .ok (.aload_n 0, 1) := by decide +kernel
theorem dX7_at_1 : decode cX7_at 1 = .ok (.iload_n 1, 1) := by decide +kernel
theorem dX7_at_2 : decode cX7_at 2 = .ok (.iload_n 2, 1) := by decide +kernel
theorem dX7_at_3 : decode cX7_at 3 = .ok (.invokevirtual 96, 3) := by decide +kernel
theorem dX7_at_6 : decode cX7_at 6 = .ok (.istore_n 3, 1) := by decide +kernel
theorem dX7_at_7 : decode cX7_at 7 = .ok (.iload_n 3, 1) := by decide +kernel
theorem dX7_at_8 : decode cX7_at 8 = .ok (.ifCond .eq 5, 3) := by decide +kernel
theorem dX7_at_11 : decode cX7_at 11 = .ok (.iload_n 3, 1) := by decide +kernel
theorem dX7_at_12 : decode cX7_at 12 = .ok (.ireturn, 1) := by decide +kernel
theorem dX7_at_13 : decode cX7_at 13 = .ok (.aload_n 0, 1) := by decide +kernel
theorem dX7_at_14 : decode cX7_at 14 = .ok (.aload_n 0, 1) := by decide +kernel
theorem dX7_at_15 : decode cX7_at 15 = .ok (.getfield 11, 3) := by decide +kernel
theorem dX7_at_18 : decode cX7_at 18 = .ok (.iload_n 1, 1) := by decide +kernel
theorem dX7_at_19 : decode cX7_at 19 = .ok (.aaload, 1) := by decide +kernel
theorem dX7_at_20 : decode cX7_at 20 = .ok (.getfield 100, 3) := by decide +kernel
theorem dX7_at_23 : decode cX7_at 23 = .ok (.iload_n 2, 1) := by decide +kernel
theorem dX7_at_24 : decode cX7_at 24 = .ok (.iaload, 1) := by decide +kernel
theorem dX7_at_25 : decode cX7_at 25 = .ok (.putfield 103, 3) := by decide +kernel
theorem dX7_at_28 : decode cX7_at 28 = .ok (.iconst 1, 1) := by decide +kernel
theorem dX7_at_29 : decode cX7_at 29 = .ok (.ireturn, 1) := by decide +kernel
theorem dX7_tear_0 : decode cX7_tear 0 = .ok (.aload_n 0, 1) := by decide +kernel
theorem dX7_tear_1 : decode cX7_tear 1 = .ok (.iload_n 1, 1) := by decide +kernel
theorem dX7_tear_2 : decode cX7_tear 2 = .ok (.invokevirtual 106, 3) := by decide +kernel
theorem dX7_tear_5 : decode cX7_tear 5 = .ok (.istore_n 2, 1) := by decide +kernel
theorem dX7_tear_6 : decode cX7_tear 6 = .ok (.iload_n 2, 1) := by decide +kernel
theorem dX7_tear_7 : decode cX7_tear 7 = .ok (.ifCond .eq 5, 3) := by decide +kernel
theorem dX7_tear_10 : decode cX7_tear 10 = .ok (.iload_n 2, 1) := by decide +kernel
theorem dX7_tear_11 : decode cX7_tear 11 = .ok (.ireturn, 1) := by decide +kernel
theorem dX7_tear_12 : decode cX7_tear 12 = .ok (.aload_n 0, 1) := by decide +kernel
theorem dX7_tear_13 : decode cX7_tear 13 = .ok (.getfield 11, 3) := by decide +kernel
theorem dX7_tear_16 : decode cX7_tear 16 = .ok (.iload_n 1, 1) := by decide +kernel
theorem dX7_tear_17 : decode cX7_tear 17 = .ok (.aaload, 1) := by decide +kernel
theorem dX7_tear_18 : decode cX7_tear 18 = .ok (.iconst (-1), 1) := by decide +kernel
theorem dX7_tear_19 : decode cX7_tear 19 = .ok (.putfield 109, 3) := by decide +kernel
theorem dX7_tear_22 : decode cX7_tear 22 = .ok (.iconst 1, 1) := by decide +kernel
theorem dX7_tear_23 : decode cX7_tear 23 = .ok (.ireturn, 1) := by decide +kernel
theorem dX7_copy_0 : decode cX7_copy 0 = .ok (.iload_n 1, 1) := by decide +kernel
theorem dX7_copy_1 : decode cX7_copy 1 = .ok (.invokestatic 84, 3) := by decide +kernel
theorem dX7_copy_4 : decode cX7_copy 4 = .ok (.ifCond .eq 10, 3) := by decide +kernel
theorem dX7_copy_7 : decode cX7_copy 7 = .ok (.iload_n 3, 1) := by decide +kernel
theorem dX7_copy_8 : decode cX7_copy 8 = .ok (.invokestatic 84, 3) := by decide +kernel
theorem dX7_copy_11 : decode cX7_copy 11 = .ok (.ifCond .ne 5, 3) := by decide +kernel
theorem dX7_copy_14 : decode cX7_copy 14 = .ok (.iconst (-1), 1) := by decide +kernel
theorem dX7_copy_15 : decode cX7_copy 15 = .ok (.ireturn, 1) := by decide +kernel
theorem dX7_copy_16 : decode cX7_copy 16 = .ok (.iload 5, 2) := by decide +kernel
theorem dX7_copy_18 : decode cX7_copy 18 = .ok (.ifCond .ge 9, 3) := by decide +kernel
theorem dX7_copy_21 : decode cX7_copy 21 = .ok (.aload_n 0, 1) := by decide +kernel
theorem dX7_copy_22 : decode cX7_copy 22 = .ok (.iconst 5, 1) := by decide +kernel
theorem dX7_copy_23 : decode cX7_copy 23 = .ok (.invokevirtual 88, 3) := by decide +kernel
theorem dX7_copy_26 : decode cX7_copy 26 = .ok (.ireturn, 1) := by decide +kernel
theorem dX7_copy_27 : decode cX7_copy 27 = .ok (.aload_n 0, 1) := by decide +kernel
theorem dX7_copy_28 : decode cX7_copy 28 = .ok (.getfield 11, 3) := by decide +kernel
theorem dX7_copy_31 : decode cX7_copy 31 = .ok (.iload_n 1, 1) := by decide +kernel
theorem dX7_copy_32 : decode cX7_copy 32 = .ok (.aaload, 1) := by decide +kernel
theorem dX7_copy_33 : decode cX7_copy 33 = .ok (.invokevirtual 110, 3) := by decide +kernel
theorem dX7_copy_36 : decode cX7_copy 36 = .ok (.ifCond .ne 15, 3) := by decide +kernel
theorem dX7_copy_39 : decode cX7_copy 39 = .ok (.aload_n 0, 1) := by decide +kernel
theorem dX7_copy_40 : decode cX7_copy 40 = .ok (.getfield 11, 3) := by decide +kernel
theorem dX7_copy_43 : decode cX7_copy 43 = .ok (.iload_n 3, 1) := by decide +kernel
theorem dX7_copy_44 : decode cX7_copy 44 = .ok (.aaload, 1) := by decide +kernel
theorem dX7_copy_45 : decode cX7_copy 45 = .ok (.invokevirtual 110, 3) := by decide +kernel
theorem dX7_copy_48 : decode cX7_copy 48 = .ok (.ifCond .eq 9, 3) := by decide +kernel
theorem dX7_copy_51 : decode cX7_copy 51 = .ok (.aload_n 0, 1) := by decide +kernel
theorem dX7_copy_52 : decode cX7_copy 52 = .ok (.iconst 1, 1) := by decide +kernel
theorem dX7_copy_53 : decode cX7_copy 53 = .ok (.invokevirtual 88, 3) := by decide +kernel
theorem dX7_copy_56 : decode cX7_copy 56 = .ok (.ireturn, 1) := by decide +kernel
theorem dX7_copy_57 : decode cX7_copy 57 = .ok (.aload_n 0, 1) := by decide +kernel
theorem dX7_copy_58 : decode cX7_copy 58 = .ok (.getfield 11, 3) := by decide +kernel
theorem dX7_copy_61 : decode cX7_copy 61 = .ok (.iload_n 1, 1) := by decide +kernel
theorem dX7_copy_62 : decode cX7_copy 62 = .ok (.aaload, 1) := by decide +kernel
theorem dX7_copy_63 : decode cX7_copy 63 = .ok (.iload_n 2, 1) := by decide +kernel
theorem dX7_copy_64 : decode cX7_copy 64 = .ok (.iload 5, 2) := by decide +kernel
theorem dX7_copy_66 : decode cX7_copy 66 = .ok (.invokevirtual 114, 3) := by decide +kernel
theorem dX7_copy_69 : decode cX7_copy 69 = .ok (.ifCond .eq 19, 3) := by decide +kernel
theorem dX7_copy_72 : decode cX7_copy 72 = .ok (.aload_n 0, 1) := by decide +kernel
theorem dX7_copy_73 : decode cX7_copy 73 = .ok (.getfield 11, 3) := by decide +kernel
theorem dX7_copy_76 : decode cX7_copy 76 = .ok (.iload_n 3, 1) := by decide +kernel
theorem dX7_copy_77 : decode cX7_copy 77 = .ok (.aaload, 1) := by decide +kernel
theorem dX7_copy_78 : decode cX7_copy 78 = .ok (.iload 4, 2) := by decide +kernel
theorem dX7_copy_80 : decode cX7_copy 80 = .ok (.iload 5, 2) := by decide +kernel
theorem dX7_copy_82 : decode cX7_copy 82 = .ok (.invokevirtual 114, 3) := by decide +kernel
theorem dX7_copy_85 : decode cX7_copy 85 = .ok (.ifCond .ne 9, 3) := by decide +kernel
theorem dX7_copy_88 : decode cX7_copy 88 = .ok (.aload_n 0, 1) := by decide +kernel
theorem dX7_copy_89 : decode cX7_copy 89 = .ok (.iconst 2, 1) := by decide +kernel
theorem dX7_copy_90 : decode cX7_copy 90 = .ok (.invokevirtual 88, 3) := by decide +kernel
theorem dX7_copy_93 : decode cX7_copy 93 = .ok (.ireturn, 1) := by decide +kernel
theorem dX7_copy_94 : decode cX7_copy 94 = .ok (.aload_n 0, 1) := by decide +kernel
theorem dX7_copy_95 : decode cX7_copy 95 = .ok (.getfield 11, 3) := by decide +kernel
theorem dX7_copy_98 : decode cX7_copy 98 = .ok (.iload_n 1, 1) := by decide +kernel
theorem dX7_copy_99 : decode cX7_copy 99 = .ok (.aaload, 1) := by decide +kernel
theorem dX7_copy_100 : decode cX7_copy 100 = .ok (.getfield 100, 3) := by decide +kernel
theorem dX7_copy_103 : decode cX7_copy 103 = .ok (.iload_n 2, 1) := by decide +kernel
theorem dX7_copy_104 : decode cX7_copy 104 = .ok (.aload_n 0, 1) := by decide +kernel
theorem dX7_copy_105 : decode cX7_copy 105 = .ok (.getfield 11, 3) := by decide +kernel
theorem dX7_copy_108 : decode cX7_copy 108 = .ok (.iload_n 3, 1) := by decide +kernel
theorem dX7_copy_109 : decode cX7_copy 109 = .ok (.aaload, 1) := by decide +kernel
theorem dX7_copy_110 : decode cX7_copy 110 = .ok (.getfield 100, 3) := by decide +kernel
theorem dX7_copy_113 : decode cX7_copy 113 = .ok (.iload 4, 2) := by decide +kernel
theorem dX7_copy_115 : decode cX7_copy 115 = .ok (.iload 5, 2) := by decide +kernel
theorem dX7_copy_117 : decode cX7_copy 117 = .ok (.invokestatic 118, 3) := by decide +kernel
theorem dX7_copy_120 : decode cX7_copy 120 = .ok (.iconst 1, 1) := by decide +kernel
theorem dX7_copy_121 : decode cX7_copy 121 = .ok (.ireturn, 1) := by decide +kernel
theorem dX7_mean_0 : decode cX7_mean 0 = .ok (.aload_n 0, 1) := by decide +kernel
theorem dX7_mean_1 : decode cX7_mean 1 = .ok (.iload_n 1, 1) := by decide +kernel
theorem dX7_mean_2 : decode cX7_mean 2 = .ok (.invokevirtual 106, 3) := by decide +kernel
theorem dX7_mean_5 : decode cX7_mean 5 = .ok (.istore_n 2, 1) := by decide +kernel
theorem dX7_mean_6 : decode cX7_mean 6 = .ok (.iload_n 2, 1) := by decide +kernel
theorem dX7_mean_7 : decode cX7_mean 7 = .ok (.ifCond .eq 5, 3) := by decide +kernel
theorem dX7_mean_10 : decode cX7_mean 10 = .ok (.iload_n 2, 1) := by decide +kernel
theorem dX7_mean_11 : decode cX7_mean 11 = .ok (.ireturn, 1) := by decide +kernel
theorem dX7_mean_12 : decode cX7_mean 12 = .ok (.aload_n 0, 1) := by decide +kernel
theorem dX7_mean_13 : decode cX7_mean 13 = .ok (.getfield 11, 3) := by decide +kernel
theorem dX7_mean_16 : decode cX7_mean 16 = .ok (.iload_n 1, 1) := by decide +kernel
theorem dX7_mean_17 : decode cX7_mean 17 = .ok (.aaload, 1) := by decide +kernel
theorem dX7_mean_18 : decode cX7_mean 18 = .ok (.getfield 109, 3) := by decide +kernel
theorem dX7_mean_21 : decode cX7_mean 21 = .ok (.ifCond .ne 9, 3) := by decide +kernel
theorem dX7_mean_24 : decode cX7_mean 24 = .ok (.aload_n 0, 1) := by decide +kernel
theorem dX7_mean_25 : decode cX7_mean 25 = .ok (.iconst 4, 1) := by decide +kernel
theorem dX7_mean_26 : decode cX7_mean 26 = .ok (.invokevirtual 88, 3) := by decide +kernel
theorem dX7_mean_29 : decode cX7_mean 29 = .ok (.ireturn, 1) := by decide +kernel
theorem dX7_mean_30 : decode cX7_mean 30 = .ok (.lconst 0, 1) := by decide +kernel
theorem dX7_mean_31 : decode cX7_mean 31 = .ok (.lstore_n 3, 1) := by decide +kernel
theorem dX7_mean_32 : decode cX7_mean 32 = .ok (.iconst 0, 1) := by decide +kernel
theorem dX7_mean_33 : decode cX7_mean 33 = .ok (.istore 5, 2) := by decide +kernel
theorem dX7_mean_35 : decode cX7_mean 35 = .ok (.iload 5, 2) := by decide +kernel
theorem dX7_mean_37 : decode cX7_mean 37 = .ok (.aload_n 0, 1) := by decide +kernel
theorem dX7_mean_38 : decode cX7_mean 38 = .ok (.getfield 11, 3) := by decide +kernel
theorem dX7_mean_41 : decode cX7_mean 41 = .ok (.iload_n 1, 1) := by decide +kernel
theorem dX7_mean_42 : decode cX7_mean 42 = .ok (.aaload, 1) := by decide +kernel
theorem dX7_mean_43 : decode cX7_mean 43 = .ok (.getfield 109, 3) := by decide +kernel
theorem dX7_mean_46 : decode cX7_mean 46 = .ok (.if_icmp .ge 25, 3) := by decide +kernel
theorem dX7_mean_49 : decode cX7_mean 49 = .ok (.lload_n 3, 1) := by decide +kernel
theorem dX7_mean_50 : decode cX7_mean 50 = .ok (.aload_n 0, 1) := by decide +kernel
theorem dX7_mean_51 : decode cX7_mean 51 = .ok (.getfield 11, 3) := by decide +kernel
theorem dX7_mean_54 : decode cX7_mean 54 = .ok (.iload_n 1, 1) := by decide +kernel
theorem dX7_mean_55 : decode cX7_mean 55 = .ok (.aaload, 1) := by decide +kernel
theorem dX7_mean_56 : decode cX7_mean 56 = .ok (.getfield 100, 3) := by decide +kernel
theorem dX7_mean_59 : decode cX7_mean 59 = .ok (.iload 5, 2) := by decide +kernel
theorem dX7_mean_61 : decode cX7_mean 61 = .ok (.iaload, 1) := by decide +kernel
theorem dX7_mean_62 : decode cX7_mean 62 = .ok (.i2l, 1) := by decide +kernel
theorem dX7_mean_63 : decode cX7_mean 63 = .ok (.ladd, 1) := by decide +kernel
theorem dX7_mean_64 : decode cX7_mean 64 = .ok (.lstore_n 3, 1) := by decide +kernel
theorem dX7_mean_65 : decode cX7_mean 65 = .ok (.iinc 5 1, 3) := by decide +kernel
theorem dX7_mean_68 : decode cX7_mean 68 = .ok (.goto (-33), 3) := by decide +kernel
theorem dX7_mean_71 : decode cX7_mean 71 = .ok (.aload_n 0, 1) := by decide +kernel
theorem dX7_mean_72 : decode cX7_mean 72 = .ok (.lload_n 3, 1) := by decide +kernel
theorem dX7_mean_73 : decode cX7_mean 73 = .ok (.aload_n 0, 1) := by decide +kernel
theorem dX7_mean_74 : decode cX7_mean 74 = .ok (.getfield 11, 3) := by decide +kernel
theorem dX7_mean_77 : decode cX7_mean 77 = .ok (.iload_n 1, 1) := by decide +kernel
theorem dX7_mean_78 : decode cX7_mean 78 = .ok (.aaload, 1) := by decide +kernel
theorem dX7_mean_79 : decode cX7_mean 79 = .ok (.getfield 109, 3) := by decide +kernel
theorem dX7_mean_82 : decode cX7_mean 82 = .ok (.i2l, 1) := by decide +kernel
theorem dX7_mean_83 : decode cX7_mean 83 = .ok (.ldiv, 1) := by decide +kernel
theorem dX7_mean_84 : decode cX7_mean 84 = .ok (.l2i, 1) := by decide +kernel
theorem dX7_mean_85 : decode cX7_mean 85 = .ok (.putfield 103, 3) := by decide +kernel
theorem dX7_mean_88 : decode cX7_mean 88 = .ok (.iconst 1, 1) := by decide +kernel
theorem dX7_mean_89 : decode cX7_mean 89 = .ok (.ireturn, 1) := by decide +kernel
theorem dX7_text_0 : decode cX7_text 0 = .ok (.iload_n 1, 1) := by decide +kernel
theorem dX7_text_1 : decode cX7_text 1 = .ok (.invokestatic 124, 3) := by decide +kernel
theorem dX7_text_4 : decode cX7_text 4 = .ok (.ifCond .eq 9, 3) := by decide +kernel
theorem dX7_text_7 : decode cX7_text 7 = .ok (.iload_n 2, 1) := by decide +kernel
theorem dX7_text_8 : decode cX7_text 8 = .ok (.bipush 60, 2) := by decide +kernel
theorem dX7_text_10 : decode cX7_text 10 = .ok (.if_icmp .le 5, 3) := by decide +kernel
theorem dX7_text_13 : decode cX7_text 13 = .ok (.iconst (-1), 1) := by decide +kernel
theorem dX7_text_14 : decode cX7_text 14 = .ok (.ireturn, 1) := by decide +kernel
theorem dX7_text_15 : decode cX7_text 15 = .ok (.iload_n 2, 1) := by decide +kernel
theorem dX7_text_16 : decode cX7_text 16 = .ok (.ifCond .ge 9, 3) := by decide +kernel
theorem dX7_text_19 : decode cX7_text 19 = .ok (.aload_n 0, 1) := by decide +kernel
theorem dX7_text_20 : decode cX7_text 20 = .ok (.iconst 5, 1) := by decide +kernel
theorem dX7_text_21 : decode cX7_text 21 = .ok (.invokevirtual 88, 3) := by decide +kernel
theorem dX7_text_24 : decode cX7_text 24 = .ok (.ireturn, 1) := by decide +kernel
theorem dX7_text_25 : decode cX7_text 25 = .ok (.aload_n 0, 1) := by decide +kernel
theorem dX7_text_26 : decode cX7_text 26 = .ok (.getfield 17, 3) := by decide +kernel
theorem dX7_text_29 : decode cX7_text 29 = .ok (.iload_n 1, 1) := by decide +kernel
theorem dX7_text_30 : decode cX7_text 30 = .ok (.aaload, 1) := by decide +kernel
theorem dX7_text_31 : decode cX7_text 31 = .ok (.iload_n 2, 1) := by decide +kernel
theorem dX7_text_32 : decode cX7_text 32 = .ok (.invokevirtual 127, 3) := by decide +kernel
theorem dX7_text_35 : decode cX7_text 35 = .ok (.iload_n 2, 1) := by decide +kernel
theorem dX7_text_36 : decode cX7_text 36 = .ok (.ireturn, 1) := by decide +kernel
theorem dX7_put_0 : decode cX7_put 0 = .ok (.aload_n 0, 1) := by decide +kernel
theorem dX7_put_1 : decode cX7_put 1 = .ok (.iload_n 1, 1) := by decide +kernel
theorem dX7_put_2 : decode cX7_put 2 = .ok (.invokevirtual 128, 3) := by decide +kernel
theorem dX7_put_5 : decode cX7_put 5 = .ok (.istore 4, 2) := by decide +kernel
theorem dX7_put_7 : decode cX7_put 7 = .ok (.iload 4, 2) := by decide +kernel
theorem dX7_put_9 : decode cX7_put 9 = .ok (.ifCond .eq 6, 3) := by decide +kernel
theorem dX7_put_12 : decode cX7_put 12 = .ok (.iload 4, 2) := by decide +kernel
theorem dX7_put_14 : decode cX7_put 14 = .ok (.ireturn, 1) := by decide +kernel
theorem dX7_put_15 : decode cX7_put 15 = .ok (.iload_n 2, 1) := by decide +kernel
theorem dX7_put_16 : decode cX7_put 16 = .ok (.ifCond .lt 16, 3) := by decide +kernel
theorem dX7_put_19 : decode cX7_put 19 = .ok (.iload_n 2, 1) := by decide +kernel
theorem dX7_put_20 : decode cX7_put 20 = .ok (.aload_n 0, 1) := by decide +kernel
theorem dX7_put_21 : decode cX7_put 21 = .ok (.getfield 17, 3) := by decide +kernel
theorem dX7_put_24 : decode cX7_put 24 = .ok (.iload_n 1, 1) := by decide +kernel
theorem dX7_put_25 : decode cX7_put 25 = .ok (.aaload, 1) := by decide +kernel
theorem dX7_put_26 : decode cX7_put 26 = .ok (.getfield 131, 3) := by decide +kernel
theorem dX7_put_29 : decode cX7_put 29 = .ok (.if_icmp .lt 9, 3) := by decide +kernel
theorem dX7_put_32 : decode cX7_put 32 = .ok (.aload_n 0, 1) := by decide +kernel
theorem dX7_put_33 : decode cX7_put 33 = .ok (.iconst 2, 1) := by decide +kernel
theorem dX7_put_34 : decode cX7_put 34 = .ok (.invokevirtual 88, 3) := by decide +kernel
theorem dX7_put_37 : decode cX7_put 37 = .ok (.ireturn, 1) := by decide +kernel
theorem dX7_put_38 : decode cX7_put 38 = .ok (.aload_n 0, 1) := by decide +kernel
theorem dX7_put_39 : decode cX7_put 39 = .ok (.getfield 17, 3) := by decide +kernel
theorem dX7_put_42 : decode cX7_put 42 = .ok (.iload_n 1, 1) := by decide +kernel
theorem dX7_put_43 : decode cX7_put 43 = .ok (.aaload, 1) := by decide +kernel
theorem dX7_put_44 : decode cX7_put 44 = .ok (.getfield 132, 3) := by decide +kernel
theorem dX7_put_47 : decode cX7_put 47 = .ok (.iload_n 2, 1) := by decide +kernel
theorem dX7_put_48 : decode cX7_put 48 = .ok (.baload, 1) := by decide +kernel
theorem dX7_put_49 : decode cX7_put 49 = .ok (.istore 5, 2) := by decide +kernel
theorem dX7_put_51 : decode cX7_put 51 = .ok (.aload_n 0, 1) := by decide +kernel
theorem dX7_put_52 : decode cX7_put 52 = .ok (.getfield 17, 3) := by decide +kernel
theorem dX7_put_55 : decode cX7_put 55 = .ok (.iload_n 1, 1) := by decide +kernel
theorem dX7_put_56 : decode cX7_put 56 = .ok (.aaload, 1) := by decide +kernel
theorem dX7_put_57 : decode cX7_put 57 = .ok (.getfield 132, 3) := by decide +kernel
theorem dX7_put_60 : decode cX7_put 60 = .ok (.iload_n 2, 1) := by decide +kernel
theorem dX7_put_61 : decode cX7_put 61 = .ok (.iload_n 3, 1) := by decide +kernel
theorem dX7_put_62 : decode cX7_put 62 = .ok (.i2b, 1) := by decide +kernel
theorem dX7_put_63 : decode cX7_put 63 = .ok (.bastore, 1) := by decide +kernel
theorem dX7_put_64 : decode cX7_put 64 = .ok (.iload 5, 2) := by decide +kernel
theorem dX7_put_66 : decode cX7_put 66 = .ok (.sipush 1000, 3) := by decide +kernel
theorem dX7_put_69 : decode cX7_put 69 = .ok (.iadd, 1) := by decide +kernel
theorem dX7_put_70 : decode cX7_put 70 = .ok (.ireturn, 1) := by decide +kernel
theorem dX7_fault_0 : decode cX7_fault 0 = .ok (.aload_n 0, 1) := by decide +kernel
theorem dX7_fault_1 : decode cX7_fault 1 = .ok (.iload_n 1, 1) := by decide +kernel
theorem dX7_fault_2 : decode cX7_fault 2 = .ok (.invokevirtual 128, 3) := by decide +kernel
theorem dX7_fault_5 : decode cX7_fault 5 = .ok (.istore_n 2, 1) := by decide +kernel
theorem dX7_fault_6 : decode cX7_fault 6 = .ok (.iload_n 2, 1) := by decide +kernel
theorem dX7_fault_7 : decode cX7_fault 7 = .ok (.ifCond .eq 7, 3) := by decide +kernel
theorem dX7_fault_10 : decode cX7_fault 10 = .ok (.iload_n 2, 1) := by decide +kernel
theorem dX7_fault_11 : decode cX7_fault 11 = .ok (.goto 16, 3) := by decide +kernel
theorem dX7_fault_14 : decode cX7_fault 14 = .ok (.aload_n 0, 1) := by decide +kernel
theorem dX7_fault_15 : decode cX7_fault 15 = .ok (.getfield 17, 3) := by decide +kernel
theorem dX7_fault_18 : decode cX7_fault 18 = .ok (.iload_n 1, 1) := by decide +kernel
theorem dX7_fault_19 : decode cX7_fault 19 = .ok (.aaload, 1) := by decide +kernel
theorem dX7_fault_20 : decode cX7_fault 20 = .ok (.aload_n 0, 1) := by decide +kernel
theorem dX7_fault_21 : decode cX7_fault 21 = .ok (.getfield 31, 3) := by decide +kernel
theorem dX7_fault_24 : decode cX7_fault 24 = .ok (.invokestatic 136, 3) := by decide +kernel
theorem dX7_fault_27 : decode cX7_fault 27 = .ok (.ireturn, 1) := by decide +kernel
theorem dX7_board_0 : decode cX7_board 0 = .ok (.aload_n 0, 1) := by decide +kernel
theorem dX7_board_1 : decode cX7_board 1 = .ok (.iload_n 1, 1) := by decide +kernel
theorem dX7_board_2 : decode cX7_board 2 = .ok (.invokevirtual 128, 3) := by decide +kernel
theorem dX7_board_5 : decode cX7_board 5 = .ok (.istore_n 2, 1) := by decide +kernel
theorem dX7_board_6 : decode cX7_board 6 = .ok (.iload_n 2, 1) := by decide +kernel
theorem dX7_board_7 : decode cX7_board 7 = .ok (.ifCond .eq 5, 3) := by decide +kernel
theorem dX7_board_10 : decode cX7_board 10 = .ok (.iload_n 2, 1) := by decide +kernel
theorem dX7_board_11 : decode cX7_board 11 = .ok (.ireturn, 1) := by decide +kernel
theorem dX7_board_12 : decode cX7_board 12 = .ok (.aload_n 0, 1) := by decide +kernel
theorem dX7_board_13 : decode cX7_board 13 = .ok (.getfield 17, 3) := by decide +kernel
theorem dX7_board_16 : decode cX7_board 16 = .ok (.iload_n 1, 1) := by decide +kernel
theorem dX7_board_17 : decode cX7_board 17 = .ok (.aaload, 1) := by decide +kernel
theorem dX7_board_18 : decode cX7_board 18 = .ok (.aload_n 0, 1) := by decide +kernel
theorem dX7_board_19 : decode cX7_board 19 = .ok (.getfield 31, 3) := by decide +kernel
theorem dX7_board_22 : decode cX7_board 22 = .ok (.invokestatic 136, 3) := by decide +kernel
theorem dX7_board_25 : decode cX7_board 25 = .ok (.bipush (-9), 2) := by decide +kernel
theorem dX7_board_27 : decode cX7_board 27 = .ok (.if_icmp .eq 6, 3) := by decide +kernel
theorem dX7_board_30 : decode cX7_board 30 = .ok (.bipush (-4), 2) := by decide +kernel
theorem dX7_board_32 : decode cX7_board 32 = .ok (.ireturn, 1) := by decide +kernel
theorem dX7_board_33 : decode cX7_board 33 = .ok (.aload_n 0, 1) := by decide +kernel
theorem dX7_board_34 : decode cX7_board 34 = .ok (.getfield 24, 3) := by decide +kernel
theorem dX7_board_37 : decode cX7_board 37 = .ok (.aload_n 0, 1) := by decide +kernel
theorem dX7_board_38 : decode cX7_board 38 = .ok (.getfield 31, 3) := by decide +kernel
theorem dX7_board_41 : decode cX7_board 41 = .ok (.invokevirtual 142, 3) := by decide +kernel
theorem dX7_board_44 : decode cX7_board 44 = .ok (.aload_n 0, 1) := by decide +kernel
theorem dX7_board_45 : decode cX7_board 45 = .ok (.iconst 0, 1) := by decide +kernel
theorem dX7_board_46 : decode cX7_board 46 = .ok (.invokevirtual 146, 3) := by decide +kernel
theorem dX7_board_49 : decode cX7_board 49 = .ok (.iconst 0, 1) := by decide +kernel
theorem dX7_board_50 : decode cX7_board 50 = .ok (.istore_n 3, 1) := by decide +kernel
theorem dX7_board_51 : decode cX7_board 51 = .ok (.iload_n 3, 1) := by decide +kernel
theorem dX7_board_52 : decode cX7_board 52 = .ok (.iconst 3, 1) := by decide +kernel
theorem dX7_board_53 : decode cX7_board 53 = .ok (.if_icmp .ge 19, 3) := by decide +kernel
theorem dX7_board_56 : decode cX7_board 56 = .ok (.aload_n 0, 1) := by decide +kernel
theorem dX7_board_57 : decode cX7_board 57 = .ok (.getfield 44, 3) := by decide +kernel
theorem dX7_board_60 : decode cX7_board 60 = .ok (.iload_n 3, 1) := by decide +kernel
theorem dX7_board_61 : decode cX7_board 61 = .ok (.aaload, 1) := by decide +kernel
theorem dX7_board_62 : decode cX7_board 62 = .ok (.iconst (-1), 1) := by decide +kernel
theorem dX7_board_63 : decode cX7_board 63 = .ok (.putfield 80, 3) := by decide +kernel
theorem dX7_board_66 : decode cX7_board 66 = .ok (.iinc 3 1, 3) := by decide +kernel
theorem dX7_board_69 : decode cX7_board 69 = .ok (.goto (-18), 3) := by decide +kernel
theorem dX7_board_72 : decode cX7_board 72 = .ok (.aload_n 0, 1) := by decide +kernel
theorem dX7_board_73 : decode cX7_board 73 = .ok (.getfield 28, 3) := by decide +kernel
theorem dX7_board_76 : decode cX7_board 76 = .ok (.getfield 149, 3) := by decide +kernel
theorem dX7_board_79 : decode cX7_board 79 = .ok (.ireturn, 1) := by decide +kernel
theorem dX7_drum_0 : decode cX7_drum 0 = .ok (.aload_n 0, 1) := by decide +kernel
theorem dX7_drum_1 : decode cX7_drum 1 = .ok (.iload_n 1, 1) := by decide +kernel
theorem dX7_drum_2 : decode cX7_drum 2 = .ok (.invokevirtual 152, 3) := by decide +kernel
theorem dX7_drum_5 : decode cX7_drum 5 = .ok (.ifCond .eq 13, 3) := by decide +kernel
theorem dX7_drum_8 : decode cX7_drum 8 = .ok (.iload_n 2, 1) := by decide +kernel
theorem dX7_drum_9 : decode cX7_drum 9 = .ok (.ifCond .lt 9, 3) := by decide +kernel
theorem dX7_drum_12 : decode cX7_drum 12 = .ok (.iload_n 2, 1) := by decide +kernel
theorem dX7_drum_13 : decode cX7_drum 13 = .ok (.bipush 7, 2) := by decide +kernel
theorem dX7_drum_15 : decode cX7_drum 15 = .ok (.if_icmp .lt 5, 3) := by decide +kernel
theorem dX7_drum_18 : decode cX7_drum 18 = .ok (.iconst (-1), 1) := by decide +kernel
theorem dX7_drum_19 : decode cX7_drum 19 = .ok (.ireturn, 1) := by decide +kernel
theorem dX7_drum_20 : decode cX7_drum 20 = .ok (.aload_n 0, 1) := by decide +kernel
theorem dX7_drum_21 : decode cX7_drum 21 = .ok (.aload_n 0, 1) := by decide +kernel
theorem dX7_drum_22 : decode cX7_drum 22 = .ok (.iload_n 1, 1) := by decide +kernel
theorem dX7_drum_23 : decode cX7_drum 23 = .ok (.iload_n 2, 1) := by decide +kernel
theorem dX7_drum_24 : decode cX7_drum 24 = .ok (.invokevirtual 155, 3) := by decide +kernel
theorem dX7_drum_27 : decode cX7_drum 27 = .ok (.putfield 103, 3) := by decide +kernel
theorem dX7_drum_30 : decode cX7_drum 30 = .ok (.iconst 1, 1) := by decide +kernel
theorem dX7_drum_31 : decode cX7_drum 31 = .ok (.ireturn, 1) := by decide +kernel
theorem dX7_mark_0 : decode cX7_mark 0 = .ok (.aload_n 0, 1) := by decide +kernel
theorem dX7_mark_1 : decode cX7_mark 1 = .ok (.iload_n 1, 1) := by decide +kernel
theorem dX7_mark_2 : decode cX7_mark 2 = .ok (.invokevirtual 152, 3) := by decide +kernel
theorem dX7_mark_5 : decode cX7_mark 5 = .ok (.ifCond .eq 13, 3) := by decide +kernel
theorem dX7_mark_8 : decode cX7_mark 8 = .ok (.iload_n 2, 1) := by decide +kernel
theorem dX7_mark_9 : decode cX7_mark 9 = .ok (.ifCond .le 9, 3) := by decide +kernel
theorem dX7_mark_12 : decode cX7_mark 12 = .ok (.iload_n 2, 1) := by decide +kernel
theorem dX7_mark_13 : decode cX7_mark 13 = .ok (.bipush 6, 2) := by decide +kernel
theorem dX7_mark_15 : decode cX7_mark 15 = .ok (.if_icmp .lt 5, 3) := by decide +kernel
theorem dX7_mark_18 : decode cX7_mark 18 = .ok (.iconst (-1), 1) := by decide +kernel
theorem dX7_mark_19 : decode cX7_mark 19 = .ok (.ireturn, 1) := by decide +kernel
theorem dX7_mark_20 : decode cX7_mark 20 = .ok (.aload_n 0, 1) := by decide +kernel
theorem dX7_mark_21 : decode cX7_mark 21 = .ok (.getfield 28, 3) := by decide +kernel
theorem dX7_mark_24 : decode cX7_mark 24 = .ok (.getfield 158, 3) := by decide +kernel
theorem dX7_mark_27 : decode cX7_mark 27 = .ok (.iload_n 1, 1) := by decide +kernel
theorem dX7_mark_28 : decode cX7_mark 28 = .ok (.iaload, 1) := by decide +kernel
theorem dX7_mark_29 : decode cX7_mark 29 = .ok (.iload_n 2, 1) := by decide +kernel
theorem dX7_mark_30 : decode cX7_mark 30 = .ok (.invokestatic 161, 3) := by decide +kernel
theorem dX7_mark_33 : decode cX7_mark 33 = .ok (.ifCond .ne 9, 3) := by decide +kernel
theorem dX7_mark_36 : decode cX7_mark 36 = .ok (.aload_n 0, 1) := by decide +kernel
theorem dX7_mark_37 : decode cX7_mark 37 = .ok (.iconst 3, 1) := by decide +kernel
theorem dX7_mark_38 : decode cX7_mark 38 = .ok (.invokevirtual 88, 3) := by decide +kernel
theorem dX7_mark_41 : decode cX7_mark 41 = .ok (.ireturn, 1) := by decide +kernel
theorem dX7_mark_42 : decode cX7_mark 42 = .ok (.iload_n 2, 1) := by decide +kernel
theorem dX7_mark_43 : decode cX7_mark 43 = .ok (.tableswitch 89 1 4 #[29, 44, 50, 75], 29) := by decide +kernel
theorem dX7_mark_72 : decode cX7_mark 72 = .ok (.aload_n 0, 1) := by decide +kernel
theorem dX7_mark_73 : decode cX7_mark 73 = .ok (.iload_n 1, 1) := by decide +kernel
theorem dX7_mark_74 : decode cX7_mark 74 = .ok (.aload_n 0, 1) := by decide +kernel
theorem dX7_mark_75 : decode cX7_mark 75 = .ok (.getfield 28, 3) := by decide +kernel
theorem dX7_mark_78 : decode cX7_mark 78 = .ok (.getfield 158, 3) := by decide +kernel
theorem dX7_mark_81 : decode cX7_mark 81 = .ok (.iload_n 1, 1) := by decide +kernel
theorem dX7_mark_82 : decode cX7_mark 82 = .ok (.iaload, 1) := by decide +kernel
theorem dX7_mark_83 : decode cX7_mark 83 = .ok (.invokevirtual 164, 3) := by decide +kernel
theorem dX7_mark_86 : decode cX7_mark 86 = .ok (.ireturn, 1) := by decide +kernel
theorem dX7_mark_87 : decode cX7_mark 87 = .ok (.aload_n 0, 1) := by decide +kernel
theorem dX7_mark_88 : decode cX7_mark 88 = .ok (.iload_n 1, 1) := by decide +kernel
theorem dX7_mark_89 : decode cX7_mark 89 = .ok (.invokevirtual 167, 3) := by decide +kernel
theorem dX7_mark_92 : decode cX7_mark 92 = .ok (.ireturn, 1) := by decide +kernel
theorem dX7_mark_93 : decode cX7_mark 93 = .ok (.aload_n 0, 1) := by decide +kernel
theorem dX7_mark_94 : decode cX7_mark 94 = .ok (.getfield 28, 3) := by decide +kernel
theorem dX7_mark_97 : decode cX7_mark 97 = .ok (.getfield 170, 3) := by decide +kernel
theorem dX7_mark_100 : decode cX7_mark 100 = .ok (.iload_n 1, 1) := by decide +kernel
theorem dX7_mark_101 : decode cX7_mark 101 = .ok (.iaload, 1) := by decide +kernel
theorem dX7_mark_102 : decode cX7_mark 102 = .ok (.aload_n 0, 1) := by decide +kernel
theorem dX7_mark_103 : decode cX7_mark 103 = .ok (.getfield 28, 3) := by decide +kernel
theorem dX7_mark_106 : decode cX7_mark 106 = .ok (.getfield 173, 3) := by decide +kernel
theorem dX7_mark_109 : decode cX7_mark 109 = .ok (.iload_n 1, 1) := by decide +kernel
theorem dX7_mark_110 : decode cX7_mark 110 = .ok (.iaload, 1) := by decide +kernel
theorem dX7_mark_111 : decode cX7_mark 111 = .ok (.isub, 1) := by decide +kernel
theorem dX7_mark_112 : decode cX7_mark 112 = .ok (.bipush 10, 2) := by decide +kernel
theorem dX7_mark_114 : decode cX7_mark 114 = .ok (.invokestatic 176, 3) := by decide +kernel
theorem dX7_mark_117 : decode cX7_mark 117 = .ok (.ireturn, 1) := by decide +kernel
theorem dX7_mark_118 : decode cX7_mark 118 = .ok (.aload_n 0, 1) := by decide +kernel
theorem dX7_mark_119 : decode cX7_mark 119 = .ok (.iload_n 1, 1) := by decide +kernel
theorem dX7_mark_120 : decode cX7_mark 120 = .ok (.iconst 1, 1) := by decide +kernel
theorem dX7_mark_121 : decode cX7_mark 121 = .ok (.invokevirtual 164, 3) := by decide +kernel
theorem dX7_mark_124 : decode cX7_mark 124 = .ok (.aload_n 0, 1) := by decide +kernel
theorem dX7_mark_125 : decode cX7_mark 125 = .ok (.iload_n 1, 1) := by decide +kernel
theorem dX7_mark_126 : decode cX7_mark 126 = .ok (.iconst 4, 1) := by decide +kernel
theorem dX7_mark_127 : decode cX7_mark 127 = .ok (.invokevirtual 164, 3) := by decide +kernel
theorem dX7_mark_130 : decode cX7_mark 130 = .ok (.isub, 1) := by decide +kernel
theorem dX7_mark_131 : decode cX7_mark 131 = .ok (.ireturn, 1) := by decide +kernel
theorem dX7_mark_132 : decode cX7_mark 132 = .ok (.aload_n 0, 1) := by decide +kernel
theorem dX7_mark_133 : decode cX7_mark 133 = .ok (.getfield 28, 3) := by decide +kernel
theorem dX7_mark_136 : decode cX7_mark 136 = .ok (.iload_n 1, 1) := by decide +kernel
theorem dX7_mark_137 : decode cX7_mark 137 = .ok (.invokevirtual 181, 3) := by decide +kernel
theorem dX7_mark_140 : decode cX7_mark 140 = .ok (.aload_n 0, 1) := by decide +kernel
theorem dX7_mark_141 : decode cX7_mark 141 = .ok (.getfield 28, 3) := by decide +kernel
theorem dX7_mark_144 : decode cX7_mark 144 = .ok (.getfield 170, 3) := by decide +kernel
theorem dX7_mark_147 : decode cX7_mark 147 = .ok (.iload_n 1, 1) := by decide +kernel
theorem dX7_mark_148 : decode cX7_mark 148 = .ok (.iaload, 1) := by decide +kernel
theorem dX7_mark_149 : decode cX7_mark 149 = .ok (.isub, 1) := by decide +kernel
theorem dX7_mark_150 : decode cX7_mark 150 = .ok (.bipush 10, 2) := by decide +kernel
theorem dX7_mark_152 : decode cX7_mark 152 = .ok (.invokestatic 176, 3) := by decide +kernel
theorem dX7_mark_155 : decode cX7_mark 155 = .ok (.ireturn, 1) := by decide +kernel
theorem dX7_tick_0 : decode cX7_tick 0 = .ok (.aload_n 0, 1) := by decide +kernel
theorem dX7_tick_1 : decode cX7_tick 1 = .ok (.getfield 28, 3) := by decide +kernel
theorem dX7_tick_4 : decode cX7_tick 4 = .ok (.getfield 149, 3) := by decide +kernel
theorem dX7_tick_7 : decode cX7_tick 7 = .ok (.ifCond .eq 15, 3) := by decide +kernel
theorem dX7_tick_10 : decode cX7_tick 10 = .ok (.aload_n 0, 1) := by decide +kernel
theorem dX7_tick_11 : decode cX7_tick 11 = .ok (.getfield 28, 3) := by decide +kernel
theorem dX7_tick_14 : decode cX7_tick 14 = .ok (.getfield 184, 3) := by decide +kernel
theorem dX7_tick_17 : decode cX7_tick 17 = .ok (.bipush 99, 2) := by decide +kernel
theorem dX7_tick_19 : decode cX7_tick 19 = .ok (.if_icmp .lt 6, 3) := by decide +kernel
theorem dX7_tick_22 : decode cX7_tick 22 = .ok (.bipush (-4), 2) := by decide +kernel
theorem dX7_tick_24 : decode cX7_tick 24 = .ok (.ireturn, 1) := by decide +kernel
theorem dX7_tick_25 : decode cX7_tick 25 = .ok (.aload_n 0, 1) := by decide +kernel
theorem dX7_tick_26 : decode cX7_tick 26 = .ok (.getfield 40, 3) := by decide +kernel
theorem dX7_tick_29 : decode cX7_tick 29 = .ok (.iconst 1, 1) := by decide +kernel
theorem dX7_tick_30 : decode cX7_tick 30 = .ok (.invokevirtual 187, 3) := by decide +kernel
theorem dX7_tick_33 : decode cX7_tick 33 = .ok (.ifCond .eq 6, 3) := by decide +kernel
theorem dX7_tick_36 : decode cX7_tick 36 = .ok (.bipush (-2), 2) := by decide +kernel
theorem dX7_tick_38 : decode cX7_tick 38 = .ok (.ireturn, 1) := by decide +kernel
theorem dX7_tick_39 : decode cX7_tick 39 = .ok (.aload_n 0, 1) := by decide +kernel
theorem dX7_tick_40 : decode cX7_tick 40 = .ok (.getfield 28, 3) := by decide +kernel
theorem dX7_tick_43 : decode cX7_tick 43 = .ok (.getfield 190, 3) := by decide +kernel
theorem dX7_tick_46 : decode cX7_tick 46 = .ok (.istore_n 1, 1) := by decide +kernel
theorem dX7_tick_47 : decode cX7_tick 47 = .ok (.aload_n 0, 1) := by decide +kernel
theorem dX7_tick_48 : decode cX7_tick 48 = .ok (.iconst 0, 1) := by decide +kernel
theorem dX7_tick_49 : decode cX7_tick 49 = .ok (.iconst 0, 1) := by decide +kernel
theorem dX7_tick_50 : decode cX7_tick 50 = .ok (.iconst 0, 1) := by decide +kernel
theorem dX7_tick_51 : decode cX7_tick 51 = .ok (.invokevirtual 193, 3) := by decide +kernel
theorem dX7_tick_54 : decode cX7_tick 54 = .ok (.aload_n 0, 1) := by decide +kernel
theorem dX7_tick_55 : decode cX7_tick 55 = .ok (.getfield 28, 3) := by decide +kernel
theorem dX7_tick_58 : decode cX7_tick 58 = .ok (.getfield 190, 3) := by decide +kernel
theorem dX7_tick_61 : decode cX7_tick 61 = .ok (.iload_n 1, 1) := by decide +kernel
theorem dX7_tick_62 : decode cX7_tick 62 = .ok (.isub, 1) := by decide +kernel
theorem dX7_tick_63 : decode cX7_tick 63 = .ok (.ireturn, 1) := by decide +kernel
theorem dX7_aim_0 : decode cX7_aim 0 = .ok (.aload_n 0, 1) := by decide +kernel
theorem dX7_aim_1 : decode cX7_aim 1 = .ok (.iload_n 1, 1) := by decide +kernel
theorem dX7_aim_2 : decode cX7_aim 2 = .ok (.invokevirtual 152, 3) := by decide +kernel
theorem dX7_aim_5 : decode cX7_aim 5 = .ok (.ifCond .eq 13, 3) := by decide +kernel
theorem dX7_aim_8 : decode cX7_aim 8 = .ok (.iload_n 2, 1) := by decide +kernel
theorem dX7_aim_9 : decode cX7_aim 9 = .ok (.ifCond .lt 9, 3) := by decide +kernel
theorem dX7_aim_12 : decode cX7_aim 12 = .ok (.iload_n 2, 1) := by decide +kernel
theorem dX7_aim_13 : decode cX7_aim 13 = .ok (.bipush 10, 2) := by decide +kernel
theorem dX7_aim_15 : decode cX7_aim 15 = .ok (.if_icmp .lt 5, 3) := by decide +kernel
theorem dX7_aim_18 : decode cX7_aim 18 = .ok (.iconst (-1), 1) := by decide +kernel
theorem dX7_aim_19 : decode cX7_aim 19 = .ok (.ireturn, 1) := by decide +kernel
theorem dX7_aim_20 : decode cX7_aim 20 = .ok (.aload_n 0, 1) := by decide +kernel
theorem dX7_aim_21 : decode cX7_aim 21 = .ok (.getfield 28, 3) := by decide +kernel
theorem dX7_aim_24 : decode cX7_aim 24 = .ok (.getfield 173, 3) := by decide +kernel
theorem dX7_aim_27 : decode cX7_aim 27 = .ok (.iload_n 1, 1) := by decide +kernel
theorem dX7_aim_28 : decode cX7_aim 28 = .ok (.iaload, 1) := by decide +kernel
theorem dX7_aim_29 : decode cX7_aim 29 = .ok (.istore_n 3, 1) := by decide +kernel
theorem dX7_aim_30 : decode cX7_aim 30 = .ok (.iload_n 3, 1) := by decide +kernel
theorem dX7_aim_31 : decode cX7_aim 31 = .ok (.iload_n 2, 1) := by decide +kernel
theorem dX7_aim_32 : decode cX7_aim 32 = .ok (.if_icmp .ne 6, 3) := by decide +kernel
theorem dX7_aim_35 : decode cX7_aim 35 = .ok (.bipush (-4), 2) := by decide +kernel
theorem dX7_aim_37 : decode cX7_aim 37 = .ok (.ireturn, 1) := by decide +kernel
theorem dX7_aim_38 : decode cX7_aim 38 = .ok (.aload_n 0, 1) := by decide +kernel
theorem dX7_aim_39 : decode cX7_aim 39 = .ok (.getfield 40, 3) := by decide +kernel
theorem dX7_aim_42 : decode cX7_aim 42 = .ok (.iconst 1, 1) := by decide +kernel
theorem dX7_aim_43 : decode cX7_aim 43 = .ok (.invokevirtual 187, 3) := by decide +kernel
theorem dX7_aim_46 : decode cX7_aim 46 = .ok (.ifCond .eq 6, 3) := by decide +kernel
theorem dX7_aim_49 : decode cX7_aim 49 = .ok (.bipush (-2), 2) := by decide +kernel
theorem dX7_aim_51 : decode cX7_aim 51 = .ok (.ireturn, 1) := by decide +kernel
theorem dX7_aim_52 : decode cX7_aim 52 = .ok (.aload_n 0, 1) := by decide +kernel
theorem dX7_aim_53 : decode cX7_aim 53 = .ok (.iconst 1, 1) := by decide +kernel
theorem dX7_aim_54 : decode cX7_aim 54 = .ok (.iload_n 1, 1) := by decide +kernel
theorem dX7_aim_55 : decode cX7_aim 55 = .ok (.iload_n 2, 1) := by decide +kernel
theorem dX7_aim_56 : decode cX7_aim 56 = .ok (.invokevirtual 193, 3) := by decide +kernel
theorem dX7_aim_59 : decode cX7_aim 59 = .ok (.iload_n 3, 1) := by decide +kernel
theorem dX7_aim_60 : decode cX7_aim 60 = .ok (.ireturn, 1) := by decide +kernel
theorem dX7_power_0 : decode cX7_power 0 = .ok (.iload_n 1, 1) := by decide +kernel
theorem dX7_power_1 : decode cX7_power 1 = .ok (.iconst 1, 1) := by decide +kernel
theorem dX7_power_2 : decode cX7_power 2 = .ok (.if_icmp .lt 9, 3) := by decide +kernel
theorem dX7_power_5 : decode cX7_power 5 = .ok (.iload_n 1, 1) := by decide +kernel
theorem dX7_power_6 : decode cX7_power 6 = .ok (.bipush 9, 2) := by decide +kernel
theorem dX7_power_8 : decode cX7_power 8 = .ok (.if_icmp .le 5, 3) := by decide +kernel
theorem dX7_power_11 : decode cX7_power 11 = .ok (.iconst (-1), 1) := by decide +kernel
theorem dX7_power_12 : decode cX7_power 12 = .ok (.ireturn, 1) := by decide +kernel
theorem dX7_power_13 : decode cX7_power 13 = .ok (.aload_n 0, 1) := by decide +kernel
theorem dX7_power_14 : decode cX7_power 14 = .ok (.getfield 28, 3) := by decide +kernel
theorem dX7_power_17 : decode cX7_power 17 = .ok (.getfield 197, 3) := by decide +kernel
theorem dX7_power_20 : decode cX7_power 20 = .ok (.istore_n 2, 1) := by decide +kernel
theorem dX7_power_21 : decode cX7_power 21 = .ok (.aload_n 0, 1) := by decide +kernel
theorem dX7_power_22 : decode cX7_power 22 = .ok (.getfield 28, 3) := by decide +kernel
theorem dX7_power_25 : decode cX7_power 25 = .ok (.getfield 149, 3) := by decide +kernel
theorem dX7_power_28 : decode cX7_power 28 = .ok (.ifCond .eq 8, 3) := by decide +kernel
theorem dX7_power_31 : decode cX7_power 31 = .ok (.iload_n 2, 1) := by decide +kernel
theorem dX7_power_32 : decode cX7_power 32 = .ok (.iload_n 1, 1) := by decide +kernel
theorem dX7_power_33 : decode cX7_power 33 = .ok (.if_icmp .ne 6, 3) := by decide +kernel
theorem dX7_power_36 : decode cX7_power 36 = .ok (.bipush (-4), 2) := by decide +kernel
theorem dX7_power_38 : decode cX7_power 38 = .ok (.ireturn, 1) := by decide +kernel
theorem dX7_power_39 : decode cX7_power 39 = .ok (.aload_n 0, 1) := by decide +kernel
theorem dX7_power_40 : decode cX7_power 40 = .ok (.getfield 40, 3) := by decide +kernel
theorem dX7_power_43 : decode cX7_power 43 = .ok (.iconst 1, 1) := by decide +kernel
theorem dX7_power_44 : decode cX7_power 44 = .ok (.invokevirtual 187, 3) := by decide +kernel
theorem dX7_power_47 : decode cX7_power 47 = .ok (.ifCond .eq 6, 3) := by decide +kernel
theorem dX7_power_50 : decode cX7_power 50 = .ok (.bipush (-2), 2) := by decide +kernel
theorem dX7_power_52 : decode cX7_power 52 = .ok (.ireturn, 1) := by decide +kernel
theorem dX7_power_53 : decode cX7_power 53 = .ok (.aload_n 0, 1) := by decide +kernel
theorem dX7_power_54 : decode cX7_power 54 = .ok (.iconst 2, 1) := by decide +kernel
theorem dX7_power_55 : decode cX7_power 55 = .ok (.iconst 0, 1) := by decide +kernel
theorem dX7_power_56 : decode cX7_power 56 = .ok (.iload_n 1, 1) := by decide +kernel
theorem dX7_power_57 : decode cX7_power 57 = .ok (.invokevirtual 193, 3) := by decide +kernel
theorem dX7_power_60 : decode cX7_power 60 = .ok (.iload_n 2, 1) := by decide +kernel
theorem dX7_power_61 : decode cX7_power 61 = .ok (.ireturn, 1) := by decide +kernel
theorem dX7_jam_0 : decode cX7_jam 0 = .ok (.aload_n 0, 1) := by decide +kernel
theorem dX7_jam_1 : decode cX7_jam 1 = .ok (.iload_n 1, 1) := by decide +kernel
theorem dX7_jam_2 : decode cX7_jam 2 = .ok (.invokevirtual 152, 3) := by decide +kernel
theorem dX7_jam_5 : decode cX7_jam 5 = .ok (.ifCond .ne 5, 3) := by decide +kernel
theorem dX7_jam_8 : decode cX7_jam 8 = .ok (.iconst (-1), 1) := by decide +kernel
theorem dX7_jam_9 : decode cX7_jam 9 = .ok (.ireturn, 1) := by decide +kernel
theorem dX7_jam_10 : decode cX7_jam 10 = .ok (.aload_n 0, 1) := by decide +kernel
theorem dX7_jam_11 : decode cX7_jam 11 = .ok (.getfield 40, 3) := by decide +kernel
theorem dX7_jam_14 : decode cX7_jam 14 = .ok (.iconst 1, 1) := by decide +kernel
theorem dX7_jam_15 : decode cX7_jam 15 = .ok (.invokevirtual 187, 3) := by decide +kernel
theorem dX7_jam_18 : decode cX7_jam 18 = .ok (.ifCond .eq 6, 3) := by decide +kernel
theorem dX7_jam_21 : decode cX7_jam 21 = .ok (.bipush (-2), 2) := by decide +kernel
theorem dX7_jam_23 : decode cX7_jam 23 = .ok (.ireturn, 1) := by decide +kernel
theorem dX7_jam_24 : decode cX7_jam 24 = .ok (.aload_n 0, 1) := by decide +kernel
theorem dX7_jam_25 : decode cX7_jam 25 = .ok (.iconst 3, 1) := by decide +kernel
theorem dX7_jam_26 : decode cX7_jam 26 = .ok (.iload_n 1, 1) := by decide +kernel
theorem dX7_jam_27 : decode cX7_jam 27 = .ok (.iconst 0, 1) := by decide +kernel
theorem dX7_jam_28 : decode cX7_jam 28 = .ok (.invokevirtual 193, 3) := by decide +kernel
theorem dX7_jam_31 : decode cX7_jam 31 = .ok (.aload_n 0, 1) := by decide +kernel
theorem dX7_jam_32 : decode cX7_jam 32 = .ok (.getfield 28, 3) := by decide +kernel
theorem dX7_jam_35 : decode cX7_jam 35 = .ok (.getfield 200, 3) := by decide +kernel
theorem dX7_jam_38 : decode cX7_jam 38 = .ok (.invokestatic 203, 3) := by decide +kernel
theorem dX7_jam_41 : decode cX7_jam 41 = .ok (.ireturn, 1) := by decide +kernel
theorem dX7_undo_0 : decode cX7_undo 0 = .ok (.iload_n 1, 1) := by decide +kernel
theorem dX7_undo_1 : decode cX7_undo 1 = .ok (.ifCond .lt 14, 3) := by decide +kernel
theorem dX7_undo_4 : decode cX7_undo 4 = .ok (.iload_n 1, 1) := by decide +kernel
theorem dX7_undo_5 : decode cX7_undo 5 = .ok (.aload_n 0, 1) := by decide +kernel
theorem dX7_undo_6 : decode cX7_undo 6 = .ok (.getfield 40, 3) := by decide +kernel
theorem dX7_undo_9 : decode cX7_undo 9 = .ok (.getfield 80, 3) := by decide +kernel
theorem dX7_undo_12 : decode cX7_undo 12 = .ok (.if_icmp .le 5, 3) := by decide +kernel
theorem dX7_undo_15 : decode cX7_undo 15 = .ok (.iconst (-1), 1) := by decide +kernel
theorem dX7_undo_16 : decode cX7_undo 16 = .ok (.ireturn, 1) := by decide +kernel
theorem dX7_undo_17 : decode cX7_undo 17 = .ok (.aload_n 0, 1) := by decide +kernel
theorem dX7_undo_18 : decode cX7_undo 18 = .ok (.getfield 40, 3) := by decide +kernel
theorem dX7_undo_21 : decode cX7_undo 21 = .ok (.getfield 80, 3) := by decide +kernel
theorem dX7_undo_24 : decode cX7_undo 24 = .ok (.iload_n 1, 1) := by decide +kernel
theorem dX7_undo_25 : decode cX7_undo 25 = .ok (.isub, 1) := by decide +kernel
theorem dX7_undo_26 : decode cX7_undo 26 = .ok (.istore_n 2, 1) := by decide +kernel
theorem dX7_undo_27 : decode cX7_undo 27 = .ok (.aload_n 0, 1) := by decide +kernel
theorem dX7_undo_28 : decode cX7_undo 28 = .ok (.iload_n 1, 1) := by decide +kernel
theorem dX7_undo_29 : decode cX7_undo 29 = .ok (.invokevirtual 146, 3) := by decide +kernel
theorem dX7_undo_32 : decode cX7_undo 32 = .ok (.iload_n 2, 1) := by decide +kernel
theorem dX7_undo_33 : decode cX7_undo 33 = .ok (.ireturn, 1) := by decide +kernel
theorem dX7_keep_0 : decode cX7_keep 0 = .ok (.iload_n 1, 1) := by decide +kernel
theorem dX7_keep_1 : decode cX7_keep 1 = .ok (.ifCond .lt 8, 3) := by decide +kernel
theorem dX7_keep_4 : decode cX7_keep 4 = .ok (.iload_n 1, 1) := by decide +kernel
theorem dX7_keep_5 : decode cX7_keep 5 = .ok (.iconst 3, 1) := by decide +kernel
theorem dX7_keep_6 : decode cX7_keep 6 = .ok (.if_icmp .lt 5, 3) := by decide +kernel
theorem dX7_keep_9 : decode cX7_keep 9 = .ok (.iconst (-1), 1) := by decide +kernel
theorem dX7_keep_10 : decode cX7_keep 10 = .ok (.ireturn, 1) := by decide +kernel
theorem dX7_keep_11 : decode cX7_keep 11 = .ok (.aload_n 0, 1) := by decide +kernel
theorem dX7_keep_12 : decode cX7_keep 12 = .ok (.getfield 28, 3) := by decide +kernel
theorem dX7_keep_15 : decode cX7_keep 15 = .ok (.getfield 149, 3) := by decide +kernel
theorem dX7_keep_18 : decode cX7_keep 18 = .ok (.ifCond .ne 6, 3) := by decide +kernel
theorem dX7_keep_21 : decode cX7_keep 21 = .ok (.bipush (-4), 2) := by decide +kernel
theorem dX7_keep_23 : decode cX7_keep 23 = .ok (.ireturn, 1) := by decide +kernel
theorem dX7_keep_24 : decode cX7_keep 24 = .ok (.aload_n 0, 1) := by decide +kernel
theorem dX7_keep_25 : decode cX7_keep 25 = .ok (.getfield 44, 3) := by decide +kernel
theorem dX7_keep_28 : decode cX7_keep 28 = .ok (.iload_n 1, 1) := by decide +kernel
theorem dX7_keep_29 : decode cX7_keep 29 = .ok (.aaload, 1) := by decide +kernel
theorem dX7_keep_30 : decode cX7_keep 30 = .ok (.aload_n 0, 1) := by decide +kernel
theorem dX7_keep_31 : decode cX7_keep 31 = .ok (.getfield 40, 3) := by decide +kernel
theorem dX7_keep_34 : decode cX7_keep 34 = .ok (.invokevirtual 208, 3) := by decide +kernel
theorem dX7_keep_37 : decode cX7_keep 37 = .ok (.aload_n 0, 1) := by decide +kernel
theorem dX7_keep_38 : decode cX7_keep 38 = .ok (.getfield 40, 3) := by decide +kernel
theorem dX7_keep_41 : decode cX7_keep 41 = .ok (.getfield 80, 3) := by decide +kernel
theorem dX7_keep_44 : decode cX7_keep 44 = .ok (.ireturn, 1) := by decide +kernel
theorem dX7_on_0 : decode cX7_on 0 = .ok (.iload_n 1, 1) := by decide +kernel
theorem dX7_on_1 : decode cX7_on 1 = .ok (.ifCond .lt 8, 3) := by decide +kernel
theorem dX7_on_4 : decode cX7_on 4 = .ok (.iload_n 1, 1) := by decide +kernel
theorem dX7_on_5 : decode cX7_on 5 = .ok (.iconst 3, 1) := by decide +kernel
theorem dX7_on_6 : decode cX7_on 6 = .ok (.if_icmp .lt 5, 3) := by decide +kernel
theorem dX7_on_9 : decode cX7_on 9 = .ok (.iconst (-1), 1) := by decide +kernel
theorem dX7_on_10 : decode cX7_on 10 = .ok (.ireturn, 1) := by decide +kernel
theorem dX7_on_11 : decode cX7_on 11 = .ok (.aload_n 0, 1) := by decide +kernel
theorem dX7_on_12 : decode cX7_on 12 = .ok (.getfield 44, 3) := by decide +kernel
theorem dX7_on_15 : decode cX7_on 15 = .ok (.iload_n 1, 1) := by decide +kernel
theorem dX7_on_16 : decode cX7_on 16 = .ok (.aaload, 1) := by decide +kernel
theorem dX7_on_17 : decode cX7_on 17 = .ok (.getfield 80, 3) := by decide +kernel
theorem dX7_on_20 : decode cX7_on 20 = .ok (.iconst (-1), 1) := by decide +kernel
theorem dX7_on_21 : decode cX7_on 21 = .ok (.if_icmp .ne 9, 3) := by decide +kernel
theorem dX7_on_24 : decode cX7_on 24 = .ok (.aload_n 0, 1) := by decide +kernel
theorem dX7_on_25 : decode cX7_on 25 = .ok (.iconst 1, 1) := by decide +kernel
theorem dX7_on_26 : decode cX7_on 26 = .ok (.invokevirtual 88, 3) := by decide +kernel
theorem dX7_on_29 : decode cX7_on 29 = .ok (.ireturn, 1) := by decide +kernel
theorem dX7_on_30 : decode cX7_on 30 = .ok (.aload_n 0, 1) := by decide +kernel
theorem dX7_on_31 : decode cX7_on 31 = .ok (.getfield 40, 3) := by decide +kernel
theorem dX7_on_34 : decode cX7_on 34 = .ok (.aload_n 0, 1) := by decide +kernel
theorem dX7_on_35 : decode cX7_on 35 = .ok (.getfield 44, 3) := by decide +kernel
theorem dX7_on_38 : decode cX7_on 38 = .ok (.iload_n 1, 1) := by decide +kernel
theorem dX7_on_39 : decode cX7_on 39 = .ok (.aaload, 1) := by decide +kernel
theorem dX7_on_40 : decode cX7_on 40 = .ok (.invokevirtual 208, 3) := by decide +kernel
theorem dX7_on_43 : decode cX7_on 43 = .ok (.aload_n 0, 1) := by decide +kernel
theorem dX7_on_44 : decode cX7_on 44 = .ok (.aload_n 0, 1) := by decide +kernel
theorem dX7_on_45 : decode cX7_on 45 = .ok (.getfield 40, 3) := by decide +kernel
theorem dX7_on_48 : decode cX7_on 48 = .ok (.getfield 80, 3) := by decide +kernel
theorem dX7_on_51 : decode cX7_on 51 = .ok (.invokevirtual 146, 3) := by decide +kernel
theorem dX7_on_54 : decode cX7_on 54 = .ok (.aload_n 0, 1) := by decide +kernel
theorem dX7_on_55 : decode cX7_on 55 = .ok (.getfield 40, 3) := by decide +kernel
theorem dX7_on_58 : decode cX7_on 58 = .ok (.getfield 80, 3) := by decide +kernel
theorem dX7_on_61 : decode cX7_on 61 = .ok (.ireturn, 1) := by decide +kernel
theorem dX7_later_0 : decode cX7_later 0 = .ok (.iload_n 1, 1) := by decide +kernel
theorem dX7_later_1 : decode cX7_later 1 = .ok (.ifCond .lt 9, 3) := by decide +kernel
theorem dX7_later_4 : decode cX7_later 4 = .ok (.iload_n 1, 1) := by decide +kernel
theorem dX7_later_5 : decode cX7_later 5 = .ok (.bipush 60, 2) := by decide +kernel
theorem dX7_later_7 : decode cX7_later 7 = .ok (.if_icmp .le 5, 3) := by decide +kernel
theorem dX7_later_10 : decode cX7_later 10 = .ok (.iconst (-1), 1) := by decide +kernel
theorem dX7_later_11 : decode cX7_later 11 = .ok (.ireturn, 1) := by decide +kernel
theorem dX7_later_12 : decode cX7_later 12 = .ok (.aload_n 0, 1) := by decide +kernel
theorem dX7_later_13 : decode cX7_later 13 = .ok (.getfield 28, 3) := by decide +kernel
theorem dX7_later_16 : decode cX7_later 16 = .ok (.getfield 149, 3) := by decide +kernel
theorem dX7_later_19 : decode cX7_later 19 = .ok (.ifCond .ne 6, 3) := by decide +kernel
theorem dX7_later_22 : decode cX7_later 22 = .ok (.bipush (-4), 2) := by decide +kernel
theorem dX7_later_24 : decode cX7_later 24 = .ok (.ireturn, 1) := by decide +kernel
theorem dX7_later_25 : decode cX7_later 25 = .ok (.aload_n 0, 1) := by decide +kernel
theorem dX7_later_26 : decode cX7_later 26 = .ok (.getfield 31, 3) := by decide +kernel
theorem dX7_later_29 : decode cX7_later 29 = .ok (.aload_n 0, 1) := by decide +kernel
theorem dX7_later_30 : decode cX7_later 30 = .ok (.getfield 28, 3) := by decide +kernel
theorem dX7_later_33 : decode cX7_later 33 = .ok (.invokevirtual 142, 3) := by decide +kernel
theorem dX7_later_36 : decode cX7_later 36 = .ok (.aload_n 0, 1) := by decide +kernel
theorem dX7_later_37 : decode cX7_later 37 = .ok (.getfield 31, 3) := by decide +kernel
theorem dX7_later_40 : decode cX7_later 40 = .ok (.iload_n 1, 1) := by decide +kernel
theorem dX7_later_41 : decode cX7_later 41 = .ok (.invokevirtual 211, 3) := by decide +kernel
theorem dX7_later_44 : decode cX7_later 44 = .ok (.aload_n 0, 1) := by decide +kernel
theorem dX7_later_45 : decode cX7_later 45 = .ok (.aload_n 0, 1) := by decide +kernel
theorem dX7_later_46 : decode cX7_later 46 = .ok (.getfield 31, 3) := by decide +kernel
theorem dX7_later_49 : decode cX7_later 49 = .ok (.getfield 190, 3) := by decide +kernel
theorem dX7_later_52 : decode cX7_later 52 = .ok (.aload_n 0, 1) := by decide +kernel
theorem dX7_later_53 : decode cX7_later 53 = .ok (.getfield 28, 3) := by decide +kernel
theorem dX7_later_56 : decode cX7_later 56 = .ok (.getfield 190, 3) := by decide +kernel
theorem dX7_later_59 : decode cX7_later 59 = .ok (.isub, 1) := by decide +kernel
theorem dX7_later_60 : decode cX7_later 60 = .ok (.putfield 103, 3) := by decide +kernel
theorem dX7_later_63 : decode cX7_later 63 = .ok (.aload_n 0, 1) := by decide +kernel
theorem dX7_later_64 : decode cX7_later 64 = .ok (.getfield 31, 3) := by decide +kernel
theorem dX7_later_67 : decode cX7_later 67 = .ok (.invokevirtual 214, 3) := by decide +kernel
theorem dX7_later_70 : decode cX7_later 70 = .ok (.ireturn, 1) := by decide +kernel
theorem dX7_ends_0 : decode cX7_ends 0 = .ok (.aload_n 0, 1) := by decide +kernel
theorem dX7_ends_1 : decode cX7_ends 1 = .ok (.getfield 28, 3) := by decide +kernel
theorem dX7_ends_4 : decode cX7_ends 4 = .ok (.getfield 149, 3) := by decide +kernel
theorem dX7_ends_7 : decode cX7_ends 7 = .ok (.ifCond .ne 6, 3) := by decide +kernel
theorem dX7_ends_10 : decode cX7_ends 10 = .ok (.bipush (-4), 2) := by decide +kernel
theorem dX7_ends_12 : decode cX7_ends 12 = .ok (.ireturn, 1) := by decide +kernel
theorem dX7_ends_13 : decode cX7_ends 13 = .ok (.aload_n 0, 1) := by decide +kernel
theorem dX7_ends_14 : decode cX7_ends 14 = .ok (.getfield 31, 3) := by decide +kernel
theorem dX7_ends_17 : decode cX7_ends 17 = .ok (.aload_n 0, 1) := by decide +kernel
theorem dX7_ends_18 : decode cX7_ends 18 = .ok (.getfield 28, 3) := by decide +kernel
theorem dX7_ends_21 : decode cX7_ends 21 = .ok (.invokevirtual 142, 3) := by decide +kernel
theorem dX7_ends_24 : decode cX7_ends 24 = .ok (.aload_n 0, 1) := by decide +kernel
theorem dX7_ends_25 : decode cX7_ends 25 = .ok (.getfield 31, 3) := by decide +kernel
theorem dX7_ends_28 : decode cX7_ends 28 = .ok (.bipush 60, 2) := by decide +kernel
theorem dX7_ends_30 : decode cX7_ends 30 = .ok (.invokevirtual 218, 3) := by decide +kernel
theorem dX7_ends_33 : decode cX7_ends 33 = .ok (.istore_n 1, 1) := by decide +kernel
theorem dX7_ends_34 : decode cX7_ends 34 = .ok (.iload_n 1, 1) := by decide +kernel
theorem dX7_ends_35 : decode cX7_ends 35 = .ok (.bipush 60, 2) := by decide +kernel
theorem dX7_ends_37 : decode cX7_ends 37 = .ok (.if_icmp .le 6, 3) := by decide +kernel
theorem dX7_ends_40 : decode cX7_ends 40 = .ok (.bipush (-9), 2) := by decide +kernel
theorem dX7_ends_42 : decode cX7_ends 42 = .ok (.ireturn, 1) := by decide +kernel
theorem dX7_ends_43 : decode cX7_ends 43 = .ok (.aload_n 0, 1) := by decide +kernel
theorem dX7_ends_44 : decode cX7_ends 44 = .ok (.aload_n 0, 1) := by decide +kernel
theorem dX7_ends_45 : decode cX7_ends 45 = .ok (.getfield 31, 3) := by decide +kernel
theorem dX7_ends_48 : decode cX7_ends 48 = .ok (.getfield 190, 3) := by decide +kernel
theorem dX7_ends_51 : decode cX7_ends 51 = .ok (.aload_n 0, 1) := by decide +kernel
theorem dX7_ends_52 : decode cX7_ends 52 = .ok (.getfield 28, 3) := by decide +kernel
theorem dX7_ends_55 : decode cX7_ends 55 = .ok (.getfield 190, 3) := by decide +kernel
theorem dX7_ends_58 : decode cX7_ends 58 = .ok (.isub, 1) := by decide +kernel
theorem dX7_ends_59 : decode cX7_ends 59 = .ok (.putfield 103, 3) := by decide +kernel
theorem dX7_ends_62 : decode cX7_ends 62 = .ok (.iload_n 1, 1) := by decide +kernel
theorem dX7_ends_63 : decode cX7_ends 63 = .ok (.ireturn, 1) := by decide +kernel
theorem dX7_passes_0 : decode cX7_passes 0 = .ok (.aload_n 0, 1) := by decide +kernel
theorem dX7_passes_1 : decode cX7_passes 1 = .ok (.getfield 28, 3) := by decide +kernel
theorem dX7_passes_4 : decode cX7_passes 4 = .ok (.getfield 149, 3) := by decide +kernel
theorem dX7_passes_7 : decode cX7_passes 7 = .ok (.ifCond .ne 6, 3) := by decide +kernel
theorem dX7_passes_10 : decode cX7_passes 10 = .ok (.bipush (-4), 2) := by decide +kernel
theorem dX7_passes_12 : decode cX7_passes 12 = .ok (.ireturn, 1) := by decide +kernel
theorem dX7_passes_13 : decode cX7_passes 13 = .ok (.aload_n 0, 1) := by decide +kernel
theorem dX7_passes_14 : decode cX7_passes 14 = .ok (.getfield 31, 3) := by decide +kernel
theorem dX7_passes_17 : decode cX7_passes 17 = .ok (.aload_n 0, 1) := by decide +kernel
theorem dX7_passes_18 : decode cX7_passes 18 = .ok (.getfield 28, 3) := by decide +kernel
theorem dX7_passes_21 : decode cX7_passes 21 = .ok (.invokevirtual 142, 3) := by decide +kernel
theorem dX7_passes_24 : decode cX7_passes 24 = .ok (.aload_n 0, 1) := by decide +kernel
theorem dX7_passes_25 : decode cX7_passes 25 = .ok (.getfield 55, 3) := by decide +kernel
theorem dX7_passes_28 : decode cX7_passes 28 = .ok (.iconst 0, 1) := by decide +kernel
theorem dX7_passes_29 : decode cX7_passes 29 = .ok (.aload_n 0, 1) := by decide +kernel
theorem dX7_passes_30 : decode cX7_passes 30 = .ok (.getfield 31, 3) := by decide +kernel
theorem dX7_passes_33 : decode cX7_passes 33 = .ok (.invokevirtual 214, 3) := by decide +kernel
theorem dX7_passes_36 : decode cX7_passes 36 = .ok (.iastore, 1) := by decide +kernel
theorem dX7_passes_37 : decode cX7_passes 37 = .ok (.iconst 1, 1) := by decide +kernel
theorem dX7_passes_38 : decode cX7_passes 38 = .ok (.istore_n 1, 1) := by decide +kernel
theorem dX7_passes_39 : decode cX7_passes 39 = .ok (.aload_n 0, 1) := by decide +kernel
theorem dX7_passes_40 : decode cX7_passes 40 = .ok (.getfield 55, 3) := by decide +kernel
theorem dX7_passes_43 : decode cX7_passes 43 = .ok (.iconst 0, 1) := by decide +kernel
theorem dX7_passes_44 : decode cX7_passes 44 = .ok (.iaload, 1) := by decide +kernel
theorem dX7_passes_45 : decode cX7_passes 45 = .ok (.istore_n 2, 1) := by decide +kernel
theorem dX7_passes_46 : decode cX7_passes 46 = .ok (.iconst 0, 1) := by decide +kernel
theorem dX7_passes_47 : decode cX7_passes 47 = .ok (.istore_n 3, 1) := by decide +kernel
theorem dX7_passes_48 : decode cX7_passes 48 = .ok (.iload_n 3, 1) := by decide +kernel
theorem dX7_passes_49 : decode cX7_passes 49 = .ok (.bipush 60, 2) := by decide +kernel
theorem dX7_passes_51 : decode cX7_passes 51 = .ok (.if_icmp .ge 63, 3) := by decide +kernel
theorem dX7_passes_54 : decode cX7_passes 54 = .ok (.aload_n 0, 1) := by decide +kernel
theorem dX7_passes_55 : decode cX7_passes 55 = .ok (.getfield 31, 3) := by decide +kernel
theorem dX7_passes_58 : decode cX7_passes 58 = .ok (.invokevirtual 221, 3) := by decide +kernel
theorem dX7_passes_61 : decode cX7_passes 61 = .ok (.ifCond .ne 53, 3) := by decide +kernel
theorem dX7_passes_64 : decode cX7_passes 64 = .ok (.aload_n 0, 1) := by decide +kernel
theorem dX7_passes_65 : decode cX7_passes 65 = .ok (.getfield 31, 3) := by decide +kernel
theorem dX7_passes_68 : decode cX7_passes 68 = .ok (.invokevirtual 224, 3) := by decide +kernel
theorem dX7_passes_71 : decode cX7_passes 71 = .ok (.aload_n 0, 1) := by decide +kernel
theorem dX7_passes_72 : decode cX7_passes 72 = .ok (.getfield 31, 3) := by decide +kernel
theorem dX7_passes_75 : decode cX7_passes 75 = .ok (.invokevirtual 214, 3) := by decide +kernel
theorem dX7_passes_78 : decode cX7_passes 78 = .ok (.istore 4, 2) := by decide +kernel
theorem dX7_passes_80 : decode cX7_passes 80 = .ok (.iload_n 2, 1) := by decide +kernel
theorem dX7_passes_81 : decode cX7_passes 81 = .ok (.iload 4, 2) := by decide +kernel
theorem dX7_passes_83 : decode cX7_passes 83 = .ok (.invokestatic 227, 3) := by decide +kernel
theorem dX7_passes_86 : decode cX7_passes 86 = .ok (.istore_n 2, 1) := by decide +kernel
theorem dX7_passes_87 : decode cX7_passes 87 = .ok (.aload_n 0, 1) := by decide +kernel
theorem dX7_passes_88 : decode cX7_passes 88 = .ok (.iload 4, 2) := by decide +kernel
theorem dX7_passes_90 : decode cX7_passes 90 = .ok (.iload_n 1, 1) := by decide +kernel
theorem dX7_passes_91 : decode cX7_passes 91 = .ok (.invokevirtual 230, 3) := by decide +kernel
theorem dX7_passes_94 : decode cX7_passes 94 = .ok (.ifCond .ne 14, 3) := by decide +kernel
theorem dX7_passes_97 : decode cX7_passes 97 = .ok (.aload_n 0, 1) := by decide +kernel
theorem dX7_passes_98 : decode cX7_passes 98 = .ok (.getfield 55, 3) := by decide +kernel
theorem dX7_passes_101 : decode cX7_passes 101 = .ok (.iload_n 1, 1) := by decide +kernel
theorem dX7_passes_102 : decode cX7_passes 102 = .ok (.iload 4, 2) := by decide +kernel
theorem dX7_passes_104 : decode cX7_passes 104 = .ok (.iastore, 1) := by decide +kernel
theorem dX7_passes_105 : decode cX7_passes 105 = .ok (.iinc 1 1, 3) := by decide +kernel
theorem dX7_passes_108 : decode cX7_passes 108 = .ok (.iinc 3 1, 3) := by decide +kernel
theorem dX7_passes_111 : decode cX7_passes 111 = .ok (.goto (-63), 3) := by decide +kernel
theorem dX7_passes_114 : decode cX7_passes 114 = .ok (.aload_n 0, 1) := by decide +kernel
theorem dX7_passes_115 : decode cX7_passes 115 = .ok (.iload_n 2, 1) := by decide +kernel
theorem dX7_passes_116 : decode cX7_passes 116 = .ok (.putfield 103, 3) := by decide +kernel
theorem dX7_passes_119 : decode cX7_passes 119 = .ok (.iload_n 1, 1) := by decide +kernel
theorem dX7_passes_120 : decode cX7_passes 120 = .ok (.ireturn, 1) := by decide +kernel
theorem dX7_least_0 : decode cX7_least 0 = .ok (.aload_n 0, 1) := by decide +kernel
theorem dX7_least_1 : decode cX7_least 1 = .ok (.getfield 28, 3) := by decide +kernel
theorem dX7_least_4 : decode cX7_least 4 = .ok (.getfield 149, 3) := by decide +kernel
theorem dX7_least_7 : decode cX7_least 7 = .ok (.ifCond .ne 6, 3) := by decide +kernel
theorem dX7_least_10 : decode cX7_least 10 = .ok (.bipush (-4), 2) := by decide +kernel
theorem dX7_least_12 : decode cX7_least 12 = .ok (.ireturn, 1) := by decide +kernel
theorem dX7_least_13 : decode cX7_least 13 = .ok (.aload_n 0, 1) := by decide +kernel
theorem dX7_least_14 : decode cX7_least 14 = .ok (.bipush 9, 2) := by decide +kernel
theorem dX7_least_16 : decode cX7_least 16 = .ok (.invokevirtual 233, 3) := by decide +kernel
theorem dX7_least_19 : decode cX7_least 19 = .ok (.istore_n 1, 1) := by decide +kernel
theorem dX7_least_20 : decode cX7_least 20 = .ok (.iload_n 1, 1) := by decide +kernel
theorem dX7_least_21 : decode cX7_least 21 = .ok (.bipush 60, 2) := by decide +kernel
theorem dX7_least_23 : decode cX7_least 23 = .ok (.if_icmp .le 6, 3) := by decide +kernel
theorem dX7_least_26 : decode cX7_least 26 = .ok (.bipush (-9), 2) := by decide +kernel
theorem dX7_least_28 : decode cX7_least 28 = .ok (.ireturn, 1) := by decide +kernel
theorem dX7_least_29 : decode cX7_least 29 = .ok (.iconst 1, 1) := by decide +kernel
