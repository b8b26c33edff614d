theorem dX0_init_0 : decode cX0_init 0 = .ok (.aload_n 0, 1) := by decide +kernel
theorem dX0_init_1 : decode cX0_init 1 = .ok (.invokespecial 3, 3) := by decide +kernel
theorem dX0_init_4 : decode cX0_init 4 = .ok (.aload_n 0, 1) := by decide +kernel
theorem dX0_init_5 : decode cX0_init 5 = .ok (.aload_n 1, 1) := by decide +kernel
theorem dX0_init_6 : decode cX0_init 6 = .ok (.putfield 9, 3) := by decide +kernel
theorem dX0_init_9 : decode cX0_init 9 = .ok (.aload_n 0, 1) := by decide +kernel
theorem dX0_init_10 : decode cX0_init 10 = .ok (.new 15, 3) := by decide +kernel
theorem dX0_init_13 : decode cX0_init 13 = .ok (.dup, 1) := by decide +kernel
theorem dX0_init_14 : decode cX0_init 14 = .ok (.aload_n 1, 1) := by decide +kernel
theorem dX0_init_15 : decode cX0_init 15 = .ok (.invokespecial 17, 3) := by decide +kernel
theorem dX0_init_18 : decode cX0_init 18 = .ok (.putfield 20, 3) := by decide +kernel
theorem dX0_init_21 : decode cX0_init 21 = .ok (.aload_n 0, 1) := by decide +kernel
theorem dX0_init_22 : decode cX0_init 22 = .ok (.bipush 32, 2) := by decide +kernel
theorem dX0_init_24 : decode cX0_init 24 = .ok (.newarray .int, 2) := by decide +kernel
theorem dX0_init_26 : decode cX0_init 26 = .ok (.putfield 24, 3) := by decide +kernel
theorem dX0_init_29 : decode cX0_init 29 = .ok (.aload_n 0, 1) := by decide +kernel
theorem dX0_init_30 : decode cX0_init 30 = .ok (.iconst 0, 1) := by decide +kernel
theorem dX0_init_31 : decode cX0_init 31 = .ok (.putfield 28, 3) := by decide +kernel
theorem dX0_init_34 : decode cX0_init 34 = .ok (.aload_n 0, 1) := by decide +kernel
theorem dX0_init_35 : decode cX0_init 35 = .ok (.iconst 0, 1) := by decide +kernel
theorem dX0_init_36 : decode cX0_init 36 = .ok (.putfield 32, 3) := by decide +kernel
theorem dX0_init_39 : decode cX0_init 39 = .ok (.aload_n 0, 1) := by decide +kernel
theorem dX0_init_40 : decode cX0_init 40 = .ok (.iconst 0, 1) := by decide +kernel
theorem dX0_init_41 : decode cX0_init 41 = .ok (.putfield 35, 3) := by decide +kernel
theorem dX0_init_44 : decode cX0_init 44 = .ok (.aload_n 0, 1) := by decide +kernel
theorem dX0_init_45 : decode cX0_init 45 = .ok (.iconst 0, 1) := by decide +kernel
theorem dX0_init_46 : decode cX0_init 46 = .ok (.putfield 38, 3) := by decide +kernel
theorem dX0_init_49 : decode cX0_init 49 = .ok (.return_, 1) := by decide +kernel
theorem dX0_analyseFrom_0 : decode cX0_analyseFrom 0 = .ok (.aload_n 0, 1) := by decide +kernel
theorem dX0_analyseFrom_1 : decode cX0_analyseFrom 1 = .ok (.invokevirtual 42, 3) := by decide +kernel
theorem dX0_analyseFrom_4 : decode cX0_analyseFrom 4 = .ok (.aload_n 0, 1) := by decide +kernel
theorem dX0_analyseFrom_5 : decode cX0_analyseFrom 5 = .ok (.aload_n 0, 1) := by decide +kernel
theorem dX0_analyseFrom_6 : decode cX0_analyseFrom 6 = .ok (.getfield 24, 3) := by decide +kernel
theorem dX0_analyseFrom_9 : decode cX0_analyseFrom 9 = .ok (.iload_n 1, 1) := by decide +kernel
theorem dX0_analyseFrom_10 : decode cX0_analyseFrom 10 = .ok (.iaload, 1) := by decide +kernel
theorem dX0_analyseFrom_11 : decode cX0_analyseFrom 11 = .ok (.iload_n 1, 1) := by decide +kernel
theorem dX0_analyseFrom_12 : decode cX0_analyseFrom 12 = .ok (.invokestatic 45, 3) := by decide +kernel
theorem dX0_analyseFrom_15 : decode cX0_analyseFrom 15 = .ok (.ior, 1) := by decide +kernel
theorem dX0_analyseFrom_16 : decode cX0_analyseFrom 16 = .ok (.putfield 28, 3) := by decide +kernel
theorem dX0_analyseFrom_19 : decode cX0_analyseFrom 19 = .ok (.aload_n 0, 1) := by decide +kernel
theorem dX0_analyseFrom_20 : decode cX0_analyseFrom 20 = .ok (.aload_n 0, 1) := by decide +kernel
theorem dX0_analyseFrom_21 : decode cX0_analyseFrom 21 = .ok (.invokevirtual 49, 3) := by decide +kernel
theorem dX0_analyseFrom_24 : decode cX0_analyseFrom 24 = .ok (.aload_n 0, 1) := by decide +kernel
theorem dX0_analyseFrom_25 : decode cX0_analyseFrom 25 = .ok (.getfield 28, 3) := by decide +kernel
theorem dX0_analyseFrom_28 : decode cX0_analyseFrom 28 = .ok (.iand, 1) := by decide +kernel
theorem dX0_analyseFrom_29 : decode cX0_analyseFrom 29 = .ok (.putfield 32, 3) := by decide +kernel
theorem dX0_analyseFrom_32 : decode cX0_analyseFrom 32 = .ok (.aload_n 0, 1) := by decide +kernel
theorem dX0_analyseFrom_33 : decode cX0_analyseFrom 33 = .ok (.aload_n 0, 1) := by decide +kernel
theorem dX0_analyseFrom_34 : decode cX0_analyseFrom 34 = .ok (.getfield 32, 3) := by decide +kernel
theorem dX0_analyseFrom_37 : decode cX0_analyseFrom 37 = .ok (.ifCond .ne 15, 3) := by decide +kernel
theorem dX0_analyseFrom_40 : decode cX0_analyseFrom 40 = .ok (.aload_n 0, 1) := by decide +kernel
theorem dX0_analyseFrom_41 : decode cX0_analyseFrom 41 = .ok (.invokevirtual 53, 3) := by decide +kernel
theorem dX0_analyseFrom_44 : decode cX0_analyseFrom 44 = .ok (.aload_n 0, 1) := by decide +kernel
theorem dX0_analyseFrom_45 : decode cX0_analyseFrom 45 = .ok (.getfield 28, 3) := by decide +kernel
theorem dX0_analyseFrom_48 : decode cX0_analyseFrom 48 = .ok (.iand, 1) := by decide +kernel
theorem dX0_analyseFrom_49 : decode cX0_analyseFrom 49 = .ok (.goto 4, 3) := by decide +kernel
theorem dX0_analyseFrom_52 : decode cX0_analyseFrom 52 = .ok (.iconst 0, 1) := by decide +kernel
theorem dX0_analyseFrom_53 : decode cX0_analyseFrom 53 = .ok (.putfield 35, 3) := by decide +kernel
theorem dX0_analyseFrom_56 : decode cX0_analyseFrom 56 = .ok (.aload_n 0, 1) := by decide +kernel
theorem dX0_analyseFrom_57 : decode cX0_analyseFrom 57 = .ok (.aload_n 0, 1) := by decide +kernel
theorem dX0_analyseFrom_58 : decode cX0_analyseFrom 58 = .ok (.getfield 32, 3) := by decide +kernel
theorem dX0_analyseFrom_61 : decode cX0_analyseFrom 61 = .ok (.ifCond .ne 14, 3) := by decide +kernel
theorem dX0_analyseFrom_64 : decode cX0_analyseFrom 64 = .ok (.aload_n 0, 1) := by decide +kernel
theorem dX0_analyseFrom_65 : decode cX0_analyseFrom 65 = .ok (.getfield 35, 3) := by decide +kernel
theorem dX0_analyseFrom_68 : decode cX0_analyseFrom 68 = .ok (.ifCond .ne 7, 3) := by decide +kernel
theorem dX0_analyseFrom_71 : decode cX0_analyseFrom 71 = .ok (.iconst 1, 1) := by decide +kernel
theorem dX0_analyseFrom_72 : decode cX0_analyseFrom 72 = .ok (.goto 4, 3) := by decide +kernel
theorem dX0_analyseFrom_75 : decode cX0_analyseFrom 75 = .ok (.iconst 0, 1) := by decide +kernel
theorem dX0_analyseFrom_76 : decode cX0_analyseFrom 76 = .ok (.putfield 38, 3) := by decide +kernel
theorem dX0_analyseFrom_79 : decode cX0_analyseFrom 79 = .ok (.aload_n 0, 1) := by decide +kernel
theorem dX0_analyseFrom_80 : decode cX0_analyseFrom 80 = .ok (.getfield 38, 3) := by decide +kernel
theorem dX0_analyseFrom_83 : decode cX0_analyseFrom 83 = .ok (.ifCond .eq 16, 3) := by decide +kernel
theorem dX0_analyseFrom_86 : decode cX0_analyseFrom 86 = .ok (.aload_n 0, 1) := by decide +kernel
theorem dX0_analyseFrom_87 : decode cX0_analyseFrom 87 = .ok (.invokevirtual 56, 3) := by decide +kernel
theorem dX0_analyseFrom_90 : decode cX0_analyseFrom 90 = .ok (.ifCond .eq 7, 3) := by decide +kernel
theorem dX0_analyseFrom_93 : decode cX0_analyseFrom 93 = .ok (.iconst 0, 1) := by decide +kernel
theorem dX0_analyseFrom_94 : decode cX0_analyseFrom 94 = .ok (.goto 4, 3) := by decide +kernel
theorem dX0_analyseFrom_97 : decode cX0_analyseFrom 97 = .ok (.iconst 3, 1) := by decide +kernel
theorem dX0_analyseFrom_98 : decode cX0_analyseFrom 98 = .ok (.ireturn, 1) := by decide +kernel
theorem dX0_analyseFrom_99 : decode cX0_analyseFrom 99 = .ok (.aload_n 0, 1) := by decide +kernel
theorem dX0_analyseFrom_100 : decode cX0_analyseFrom 100 = .ok (.getfield 32, 3) := by decide +kernel
theorem dX0_analyseFrom_103 : decode cX0_analyseFrom 103 = .ok (.ifCond .eq 7, 3) := by decide +kernel
theorem dX0_analyseFrom_106 : decode cX0_analyseFrom 106 = .ok (.iconst 1, 1) := by decide +kernel
theorem dX0_analyseFrom_107 : decode cX0_analyseFrom 107 = .ok (.goto 4, 3) := by decide +kernel
theorem dX0_analyseFrom_110 : decode cX0_analyseFrom 110 = .ok (.iconst 2, 1) := by decide +kernel
theorem dX0_analyseFrom_111 : decode cX0_analyseFrom 111 = .ok (.ireturn, 1) := by decide +kernel
theorem dX0_answer_0 : decode cX0_answer 0 = .ok (.iload_n 2, 1) := by decide +kernel
theorem dX0_answer_1 : decode cX0_answer 1 = .ok (.lookupswitch 45 #[(0, 27), (1, 36)], 27) := by decide +kernel
theorem dX0_answer_28 : decode cX0_answer 28 = .ok (.aload_n 0, 1) := by decide +kernel
theorem dX0_answer_29 : decode cX0_answer 29 = .ok (.getfield 28, 3) := by decide +kernel
theorem dX0_answer_32 : decode cX0_answer 32 = .ok (.iload_n 1, 1) := by decide +kernel
theorem dX0_answer_33 : decode cX0_answer 33 = .ok (.iushr, 1) := by decide +kernel
theorem dX0_answer_34 : decode cX0_answer 34 = .ok (.iconst 1, 1) := by decide +kernel
theorem dX0_answer_35 : decode cX0_answer 35 = .ok (.iand, 1) := by decide +kernel
theorem dX0_answer_36 : decode cX0_answer 36 = .ok (.ireturn, 1) := by decide +kernel
theorem dX0_answer_37 : decode cX0_answer 37 = .ok (.aload_n 0, 1) := by decide +kernel
theorem dX0_answer_38 : decode cX0_answer 38 = .ok (.getfield 32, 3) := by decide +kernel
theorem dX0_answer_41 : decode cX0_answer 41 = .ok (.iload_n 1, 1) := by decide +kernel
theorem dX0_answer_42 : decode cX0_answer 42 = .ok (.iushr, 1) := by decide +kernel
theorem dX0_answer_43 : decode cX0_answer 43 = .ok (.iconst 1, 1) := by decide +kernel
theorem dX0_answer_44 : decode cX0_answer 44 = .ok (.iand, 1) := by decide +kernel
theorem dX0_answer_45 : decode cX0_answer 45 = .ok (.ireturn, 1) := by decide +kernel
theorem dX0_answer_46 : decode cX0_answer 46 = .ok (.aload_n 0, 1) := by decide +kernel
theorem dX0_answer_47 : decode cX0_answer 47 = .ok (.getfield 35, 3) := by decide +kernel
theorem dX0_answer_50 : decode cX0_answer 50 = .ok (.iload_n 1, 1) := by decide +kernel
theorem dX0_answer_51 : decode cX0_answer 51 = .ok (.iushr, 1) := by decide +kernel
theorem dX0_answer_52 : decode cX0_answer 52 = .ok (.iconst 1, 1) := by decide +kernel
theorem dX0_answer_53 : decode cX0_answer 53 = .ok (.iand, 1) := by decide +kernel
theorem dX0_answer_54 : decode cX0_answer 54 = .ok (.ireturn, 1) := by decide +kernel
theorem dX0_boundOf_0 : decode cX0_boundOf 0 = .ok (.aload_n 0, 1) := by decide +kernel
theorem dX0_boundOf_1 : decode cX0_boundOf 1 = .ok (.getfield 38, 3) := by decide +kernel
theorem dX0_boundOf_4 : decode cX0_boundOf 4 = .ok (.ifCond .eq 14, 3) := by decide +kernel
theorem dX0_boundOf_7 : decode cX0_boundOf 7 = .ok (.iload_n 1, 1) := by decide +kernel
theorem dX0_boundOf_8 : decode cX0_boundOf 8 = .ok (.aload_n 0, 1) := by decide +kernel
theorem dX0_boundOf_9 : decode cX0_boundOf 9 = .ok (.getfield 28, 3) := by decide +kernel
theorem dX0_boundOf_12 : decode cX0_boundOf 12 = .ok (.invokestatic 60, 3) := by decide +kernel
theorem dX0_boundOf_15 : decode cX0_boundOf 15 = .ok (.ifCond .ne 7, 3) := by decide +kernel
theorem dX0_boundOf_18 : decode cX0_boundOf 18 = .ok (.ldc2_w 64, 3) := by decide +kernel
theorem dX0_boundOf_21 : decode cX0_boundOf 21 = .ok (.lreturn, 1) := by decide +kernel
theorem dX0_boundOf_22 : decode cX0_boundOf 22 = .ok (.iload_n 2, 1) := by decide +kernel
theorem dX0_boundOf_23 : decode cX0_boundOf 23 = .ok (.ifCond .ne 15, 3) := by decide +kernel
theorem dX0_boundOf_26 : decode cX0_boundOf 26 = .ok (.aload_n 0, 1) := by decide +kernel
theorem dX0_boundOf_27 : decode cX0_boundOf 27 = .ok (.getfield 20, 3) := by decide +kernel
theorem dX0_boundOf_30 : decode cX0_boundOf 30 = .ok (.getfield 66, 3) := by decide +kernel
theorem dX0_boundOf_33 : decode cX0_boundOf 33 = .ok (.iload_n 1, 1) := by decide +kernel
theorem dX0_boundOf_34 : decode cX0_boundOf 34 = .ok (.laload, 1) := by decide +kernel
theorem dX0_boundOf_35 : decode cX0_boundOf 35 = .ok (.goto 12, 3) := by decide +kernel
theorem dX0_boundOf_38 : decode cX0_boundOf 38 = .ok (.aload_n 0, 1) := by decide +kernel
theorem dX0_boundOf_39 : decode cX0_boundOf 39 = .ok (.getfield 20, 3) := by decide +kernel
theorem dX0_boundOf_42 : decode cX0_boundOf 42 = .ok (.getfield 70, 3) := by decide +kernel
theorem dX0_boundOf_45 : decode cX0_boundOf 45 = .ok (.iload_n 1, 1) := by decide +kernel
theorem dX0_boundOf_46 : decode cX0_boundOf 46 = .ok (.laload, 1) := by decide +kernel
theorem dX0_boundOf_47 : decode cX0_boundOf 47 = .ok (.lstore_n 3, 1) := by decide +kernel
theorem dX0_boundOf_48 : decode cX0_boundOf 48 = .ok (.lload_n 3, 1) := by decide +kernel
theorem dX0_boundOf_49 : decode cX0_boundOf 49 = .ok (.ldc2_w 73, 3) := by decide +kernel
theorem dX0_boundOf_52 : decode cX0_boundOf 52 = .ok (.lcmp, 1) := by decide +kernel
theorem dX0_boundOf_53 : decode cX0_boundOf 53 = .ok (.ifCond .ne 9, 3) := by decide +kernel
theorem dX0_boundOf_56 : decode cX0_boundOf 56 = .ok (.ldc2_w 64, 3) := by decide +kernel
theorem dX0_boundOf_59 : decode cX0_boundOf 59 = .ok (.goto 4, 3) := by decide +kernel
theorem dX0_boundOf_62 : decode cX0_boundOf 62 = .ok (.lload_n 3, 1) := by decide +kernel
theorem dX0_boundOf_63 : decode cX0_boundOf 63 = .ok (.lreturn, 1) := by decide +kernel
theorem dX0_followCalls_0 : decode cX0_followCalls 0 = .ok (.iconst 0, 1) := by decide +kernel
theorem dX0_followCalls_1 : decode cX0_followCalls 1 = .ok (.istore_n 1, 1) := by decide +kernel
theorem dX0_followCalls_2 : decode cX0_followCalls 2 = .ok (.iload_n 1, 1) := by decide +kernel
theorem dX0_followCalls_3 : decode cX0_followCalls 3 = .ok (.aload_n 0, 1) := by decide +kernel
theorem dX0_followCalls_4 : decode cX0_followCalls 4 = .ok (.getfield 9, 3) := by decide +kernel
theorem dX0_followCalls_7 : decode cX0_followCalls 7 = .ok (.getfield 75, 3) := by decide +kernel
theorem dX0_followCalls_10 : decode cX0_followCalls 10 = .ok (.if_icmp .ge 28, 3) := by decide +kernel
theorem dX0_followCalls_13 : decode cX0_followCalls 13 = .ok (.aload_n 0, 1) := by decide +kernel
theorem dX0_followCalls_14 : decode cX0_followCalls 14 = .ok (.getfield 24, 3) := by decide +kernel
theorem dX0_followCalls_17 : decode cX0_followCalls 17 = .ok (.iload_n 1, 1) := by decide +kernel
theorem dX0_followCalls_18 : decode cX0_followCalls 18 = .ok (.aload_n 0, 1) := by decide +kernel
theorem dX0_followCalls_19 : decode cX0_followCalls 19 = .ok (.aload_n 0, 1) := by decide +kernel
theorem dX0_followCalls_20 : decode cX0_followCalls 20 = .ok (.getfield 9, 3) := by decide +kernel
theorem dX0_followCalls_23 : decode cX0_followCalls 23 = .ok (.iload_n 1, 1) := by decide +kernel
theorem dX0_followCalls_24 : decode cX0_followCalls 24 = .ok (.i2l, 1) := by decide +kernel
theorem dX0_followCalls_25 : decode cX0_followCalls 25 = .ok (.invokevirtual 80, 3) := by decide +kernel
theorem dX0_followCalls_28 : decode cX0_followCalls 28 = .ok (.invokevirtual 84, 3) := by decide +kernel
theorem dX0_followCalls_31 : decode cX0_followCalls 31 = .ok (.iastore, 1) := by decide +kernel
theorem dX0_followCalls_32 : decode cX0_followCalls 32 = .ok (.iinc 1 1, 3) := by decide +kernel
theorem dX0_followCalls_35 : decode cX0_followCalls 35 = .ok (.goto (-33), 3) := by decide +kernel
theorem dX0_followCalls_38 : decode cX0_followCalls 38 = .ok (.iconst 0, 1) := by decide +kernel
theorem dX0_followCalls_39 : decode cX0_followCalls 39 = .ok (.istore_n 1, 1) := by decide +kernel
theorem dX0_followCalls_40 : decode cX0_followCalls 40 = .ok (.iload_n 1, 1) := by decide +kernel
theorem dX0_followCalls_41 : decode cX0_followCalls 41 = .ok (.aload_n 0, 1) := by decide +kernel
theorem dX0_followCalls_42 : decode cX0_followCalls 42 = .ok (.getfield 9, 3) := by decide +kernel
theorem dX0_followCalls_45 : decode cX0_followCalls 45 = .ok (.getfield 75, 3) := by decide +kernel
theorem dX0_followCalls_48 : decode cX0_followCalls 48 = .ok (.if_icmp .ge 56, 3) := by decide +kernel
theorem dX0_followCalls_51 : decode cX0_followCalls 51 = .ok (.iconst 0, 1) := by decide +kernel
theorem dX0_followCalls_52 : decode cX0_followCalls 52 = .ok (.istore_n 2, 1) := by decide +kernel
theorem dX0_followCalls_53 : decode cX0_followCalls 53 = .ok (.iload_n 2, 1) := by decide +kernel
theorem dX0_followCalls_54 : decode cX0_followCalls 54 = .ok (.aload_n 0, 1) := by decide +kernel
theorem dX0_followCalls_55 : decode cX0_followCalls 55 = .ok (.getfield 9, 3) := by decide +kernel
theorem dX0_followCalls_58 : decode cX0_followCalls 58 = .ok (.getfield 75, 3) := by decide +kernel
theorem dX0_followCalls_61 : decode cX0_followCalls 61 = .ok (.if_icmp .ge 37, 3) := by decide +kernel
theorem dX0_followCalls_64 : decode cX0_followCalls 64 = .ok (.iload_n 1, 1) := by decide +kernel
theorem dX0_followCalls_65 : decode cX0_followCalls 65 = .ok (.aload_n 0, 1) := by decide +kernel
theorem dX0_followCalls_66 : decode cX0_followCalls 66 = .ok (.getfield 24, 3) := by decide +kernel
theorem dX0_followCalls_69 : decode cX0_followCalls 69 = .ok (.iload_n 2, 1) := by decide +kernel
theorem dX0_followCalls_70 : decode cX0_followCalls 70 = .ok (.iaload, 1) := by decide +kernel
theorem dX0_followCalls_71 : decode cX0_followCalls 71 = .ok (.invokestatic 60, 3) := by decide +kernel
theorem dX0_followCalls_74 : decode cX0_followCalls 74 = .ok (.ifCond .eq 18, 3) := by decide +kernel
theorem dX0_followCalls_77 : decode cX0_followCalls 77 = .ok (.aload_n 0, 1) := by decide +kernel
theorem dX0_followCalls_78 : decode cX0_followCalls 78 = .ok (.getfield 24, 3) := by decide +kernel
theorem dX0_followCalls_81 : decode cX0_followCalls 81 = .ok (.iload_n 2, 1) := by decide +kernel
theorem dX0_followCalls_82 : decode cX0_followCalls 82 = .ok (.dup2, 1) := by decide +kernel
theorem dX0_followCalls_83 : decode cX0_followCalls 83 = .ok (.iaload, 1) := by decide +kernel
theorem dX0_followCalls_84 : decode cX0_followCalls 84 = .ok (.aload_n 0, 1) := by decide +kernel
theorem dX0_followCalls_85 : decode cX0_followCalls 85 = .ok (.getfield 24, 3) := by decide +kernel
theorem dX0_followCalls_88 : decode cX0_followCalls 88 = .ok (.iload_n 1, 1) := by decide +kernel
theorem dX0_followCalls_89 : decode cX0_followCalls 89 = .ok (.iaload, 1) := by decide +kernel
theorem dX0_followCalls_90 : decode cX0_followCalls 90 = .ok (.ior, 1) := by decide +kernel
theorem dX0_followCalls_91 : decode cX0_followCalls 91 = .ok (.iastore, 1) := by decide +kernel
theorem dX0_followCalls_92 : decode cX0_followCalls 92 = .ok (.iinc 2 1, 3) := by decide +kernel
theorem dX0_followCalls_95 : decode cX0_followCalls 95 = .ok (.goto (-42), 3) := by decide +kernel
theorem dX0_followCalls_98 : decode cX0_followCalls 98 = .ok (.iinc 1 1, 3) := by decide +kernel
theorem dX0_followCalls_101 : decode cX0_followCalls 101 = .ok (.goto (-61), 3) := by decide +kernel
theorem dX0_followCalls_104 : decode cX0_followCalls 104 = .ok (.return_, 1) := by decide +kernel
theorem dX0_callsOf_0 : decode cX0_callsOf 0 = .ok (.aload_n 1, 1) := by decide +kernel
theorem dX0_callsOf_1 : decode cX0_callsOf 1 = .ok (.ifnull 10, 3) := by decide +kernel
theorem dX0_callsOf_4 : decode cX0_callsOf 4 = .ok (.aload_n 1, 1) := by decide +kernel
theorem dX0_callsOf_5 : decode cX0_callsOf 5 = .ok (.invokevirtual 88, 3) := by decide +kernel
theorem dX0_callsOf_8 : decode cX0_callsOf 8 = .ok (.ifCond .ne 5, 3) := by decide +kernel
theorem dX0_callsOf_11 : decode cX0_callsOf 11 = .ok (.iconst 0, 1) := by decide +kernel
theorem dX0_callsOf_12 : decode cX0_callsOf 12 = .ok (.ireturn, 1) := by decide +kernel
theorem dX0_callsOf_13 : decode cX0_callsOf 13 = .ok (.iconst 0, 1) := by decide +kernel
theorem dX0_callsOf_14 : decode cX0_callsOf 14 = .ok (.istore_n 2, 1) := by decide +kernel
theorem dX0_callsOf_15 : decode cX0_callsOf 15 = .ok (.iconst 0, 1) := by decide +kernel
theorem dX0_callsOf_16 : decode cX0_callsOf 16 = .ok (.istore_n 3, 1) := by decide +kernel
theorem dX0_callsOf_17 : decode cX0_callsOf 17 = .ok (.iload_n 3, 1) := by decide +kernel
theorem dX0_callsOf_18 : decode cX0_callsOf 18 = .ok (.aload_n 1, 1) := by decide +kernel
theorem dX0_callsOf_19 : decode cX0_callsOf 19 = .ok (.getfield 93, 3) := by decide +kernel
theorem dX0_callsOf_22 : decode cX0_callsOf 22 = .ok (.if_icmp .ge 41, 3) := by decide +kernel
theorem dX0_callsOf_25 : decode cX0_callsOf 25 = .ok (.aload_n 1, 1) := by decide +kernel
theorem dX0_callsOf_26 : decode cX0_callsOf 26 = .ok (.getfield 96, 3) := by decide +kernel
theorem dX0_callsOf_29 : decode cX0_callsOf 29 = .ok (.iload_n 3, 1) := by decide +kernel
theorem dX0_callsOf_30 : decode cX0_callsOf 30 = .ok (.iaload, 1) := by decide +kernel
theorem dX0_callsOf_31 : decode cX0_callsOf 31 = .ok (.bipush 16, 2) := by decide +kernel
theorem dX0_callsOf_33 : decode cX0_callsOf 33 = .ok (.if_icmp .ne 24, 3) := by decide +kernel
theorem dX0_callsOf_36 : decode cX0_callsOf 36 = .ok (.aload_n 1, 1) := by decide +kernel
theorem dX0_callsOf_37 : decode cX0_callsOf 37 = .ok (.iload_n 3, 1) := by decide +kernel
theorem dX0_callsOf_38 : decode cX0_callsOf 38 = .ok (.invokevirtual 99, 3) := by decide +kernel
theorem dX0_callsOf_41 : decode cX0_callsOf 41 = .ok (.ifCond .eq 16, 3) := by decide +kernel
theorem dX0_callsOf_44 : decode cX0_callsOf 44 = .ok (.iload_n 2, 1) := by decide +kernel
theorem dX0_callsOf_45 : decode cX0_callsOf 45 = .ok (.aload_n 1, 1) := by decide +kernel
theorem dX0_callsOf_46 : decode cX0_callsOf 46 = .ok (.getfield 103, 3) := by decide +kernel
theorem dX0_callsOf_49 : decode cX0_callsOf 49 = .ok (.iload_n 3, 1) := by decide +kernel
theorem dX0_callsOf_50 : decode cX0_callsOf 50 = .ok (.laload, 1) := by decide +kernel
theorem dX0_callsOf_51 : decode cX0_callsOf 51 = .ok (.l2i, 1) := by decide +kernel
theorem dX0_callsOf_52 : decode cX0_callsOf 52 = .ok (.invokestatic 45, 3) := by decide +kernel
theorem dX0_callsOf_55 : decode cX0_callsOf 55 = .ok (.ior, 1) := by decide +kernel
theorem dX0_callsOf_56 : decode cX0_callsOf 56 = .ok (.istore_n 2, 1) := by decide +kernel
theorem dX0_callsOf_57 : decode cX0_callsOf 57 = .ok (.iinc 3 1, 3) := by decide +kernel
theorem dX0_callsOf_60 : decode cX0_callsOf 60 = .ok (.goto (-43), 3) := by decide +kernel
theorem dX0_callsOf_63 : decode cX0_callsOf 63 = .ok (.iload_n 2, 1) := by decide +kernel
theorem dX0_callsOf_64 : decode cX0_callsOf 64 = .ok (.ireturn, 1) := by decide +kernel
theorem dX0_faultyOnes_0 : decode cX0_faultyOnes 0 = .ok (.iconst 0, 1) := by decide +kernel
theorem dX0_faultyOnes_1 : decode cX0_faultyOnes 1 = .ok (.istore_n 1, 1) := by decide +kernel
theorem dX0_faultyOnes_2 : decode cX0_faultyOnes 2 = .ok (.iconst 0, 1) := by decide +kernel
theorem dX0_faultyOnes_3 : decode cX0_faultyOnes 3 = .ok (.istore_n 2, 1) := by decide +kernel
theorem dX0_faultyOnes_4 : decode cX0_faultyOnes 4 = .ok (.iload_n 2, 1) := by decide +kernel
theorem dX0_faultyOnes_5 : decode cX0_faultyOnes 5 = .ok (.aload_n 0, 1) := by decide +kernel
theorem dX0_faultyOnes_6 : decode cX0_faultyOnes 6 = .ok (.getfield 9, 3) := by decide +kernel
theorem dX0_faultyOnes_9 : decode cX0_faultyOnes 9 = .ok (.getfield 75, 3) := by decide +kernel
theorem dX0_faultyOnes_12 : decode cX0_faultyOnes 12 = .ok (.if_icmp .ge 37, 3) := by decide +kernel
theorem dX0_faultyOnes_15 : decode cX0_faultyOnes 15 = .ok (.aload_n 0, 1) := by decide +kernel
theorem dX0_faultyOnes_16 : decode cX0_faultyOnes 16 = .ok (.getfield 9, 3) := by decide +kernel
theorem dX0_faultyOnes_19 : decode cX0_faultyOnes 19 = .ok (.iload_n 2, 1) := by decide +kernel
theorem dX0_faultyOnes_20 : decode cX0_faultyOnes 20 = .ok (.i2l, 1) := by decide +kernel
theorem dX0_faultyOnes_21 : decode cX0_faultyOnes 21 = .ok (.invokevirtual 80, 3) := by decide +kernel
theorem dX0_faultyOnes_24 : decode cX0_faultyOnes 24 = .ok (.astore_n 3, 1) := by decide +kernel
theorem dX0_faultyOnes_25 : decode cX0_faultyOnes 25 = .ok (.aload_n 3, 1) := by decide +kernel
theorem dX0_faultyOnes_26 : decode cX0_faultyOnes 26 = .ok (.ifnull 17, 3) := by decide +kernel
theorem dX0_faultyOnes_29 : decode cX0_faultyOnes 29 = .ok (.aload_n 3, 1) := by decide +kernel
theorem dX0_faultyOnes_30 : decode cX0_faultyOnes 30 = .ok (.invokevirtual 88, 3) := by decide +kernel
theorem dX0_faultyOnes_33 : decode cX0_faultyOnes 33 = .ok (.ifCond .ne 10, 3) := by decide +kernel
theorem dX0_faultyOnes_36 : decode cX0_faultyOnes 36 = .ok (.iload_n 1, 1) := by decide +kernel
theorem dX0_faultyOnes_37 : decode cX0_faultyOnes 37 = .ok (.iload_n 2, 1) := by decide +kernel
theorem dX0_faultyOnes_38 : decode cX0_faultyOnes 38 = .ok (.invokestatic 45, 3) := by decide +kernel
theorem dX0_faultyOnes_41 : decode cX0_faultyOnes 41 = .ok (.ior, 1) := by decide +kernel
theorem dX0_faultyOnes_42 : decode cX0_faultyOnes 42 = .ok (.istore_n 1, 1) := by decide +kernel
theorem dX0_faultyOnes_43 : decode cX0_faultyOnes 43 = .ok (.iinc 2 1, 3) := by decide +kernel
theorem dX0_faultyOnes_46 : decode cX0_faultyOnes 46 = .ok (.goto (-42), 3) := by decide +kernel
theorem dX0_faultyOnes_49 : decode cX0_faultyOnes 49 = .ok (.iload_n 1, 1) := by decide +kernel
theorem dX0_faultyOnes_50 : decode cX0_faultyOnes 50 = .ok (.ireturn, 1) := by decide +kernel
theorem dX0_circularOnes_0 : decode cX0_circularOnes 0 = .ok (.iconst 0, 1) := by decide +kernel
theorem dX0_circularOnes_1 : decode cX0_circularOnes 1 = .ok (.istore_n 1, 1) := by decide +kernel
theorem dX0_circularOnes_2 : decode cX0_circularOnes 2 = .ok (.iconst 0, 1) := by decide +kernel
theorem dX0_circularOnes_3 : decode cX0_circularOnes 3 = .ok (.istore_n 2, 1) := by decide +kernel
theorem dX0_circularOnes_4 : decode cX0_circularOnes 4 = .ok (.iload_n 2, 1) := by decide +kernel
theorem dX0_circularOnes_5 : decode cX0_circularOnes 5 = .ok (.aload_n 0, 1) := by decide +kernel
theorem dX0_circularOnes_6 : decode cX0_circularOnes 6 = .ok (.getfield 9, 3) := by decide +kernel
theorem dX0_circularOnes_9 : decode cX0_circularOnes 9 = .ok (.getfield 75, 3) := by decide +kernel
theorem dX0_circularOnes_12 : decode cX0_circularOnes 12 = .ok (.if_icmp .ge 23, 3) := by decide +kernel
theorem dX0_circularOnes_15 : decode cX0_circularOnes 15 = .ok (.iload_n 1, 1) := by decide +kernel
theorem dX0_circularOnes_16 : decode cX0_circularOnes 16 = .ok (.aload_n 0, 1) := by decide +kernel
theorem dX0_circularOnes_17 : decode cX0_circularOnes 17 = .ok (.getfield 24, 3) := by decide +kernel
theorem dX0_circularOnes_20 : decode cX0_circularOnes 20 = .ok (.iload_n 2, 1) := by decide +kernel
theorem dX0_circularOnes_21 : decode cX0_circularOnes 21 = .ok (.iaload, 1) := by decide +kernel
theorem dX0_circularOnes_22 : decode cX0_circularOnes 22 = .ok (.iload_n 2, 1) := by decide +kernel
theorem dX0_circularOnes_23 : decode cX0_circularOnes 23 = .ok (.invokestatic 45, 3) := by decide +kernel
theorem dX0_circularOnes_26 : decode cX0_circularOnes 26 = .ok (.iand, 1) := by decide +kernel
theorem dX0_circularOnes_27 : decode cX0_circularOnes 27 = .ok (.ior, 1) := by decide +kernel
theorem dX0_circularOnes_28 : decode cX0_circularOnes 28 = .ok (.istore_n 1, 1) := by decide +kernel
theorem dX0_circularOnes_29 : decode cX0_circularOnes 29 = .ok (.iinc 2 1, 3) := by decide +kernel
theorem dX0_circularOnes_32 : decode cX0_circularOnes 32 = .ok (.goto (-28), 3) := by decide +kernel
theorem dX0_circularOnes_35 : decode cX0_circularOnes 35 = .ok (.iload_n 1, 1) := by decide +kernel
theorem dX0_circularOnes_36 : decode cX0_circularOnes 36 = .ok (.ireturn, 1) := by decide +kernel
theorem dX0_countBounds_0 : decode cX0_countBounds 0 = .ok (.iconst 1, 1) := by decide +kernel
theorem dX0_countBounds_1 : decode cX0_countBounds 1 = .ok (.istore_n 1, 1) := by decide +kernel
theorem dX0_countBounds_2 : decode cX0_countBounds 2 = .ok (.aload_n 0, 1) := by decide +kernel
theorem dX0_countBounds_3 : decode cX0_countBounds 3 = .ok (.getfield 28, 3) := by decide +kernel
theorem dX0_countBounds_6 : decode cX0_countBounds 6 = .ok (.istore_n 2, 1) := by decide +kernel
theorem dX0_countBounds_7 : decode cX0_countBounds 7 = .ok (.iconst 0, 1) := by decide +kernel
theorem dX0_countBounds_8 : decode cX0_countBounds 8 = .ok (.istore_n 3, 1) := by decide +kernel
theorem dX0_countBounds_9 : decode cX0_countBounds 9 = .ok (.iload_n 3, 1) := by decide +kernel
theorem dX0_countBounds_10 : decode cX0_countBounds 10 = .ok (.aload_n 0, 1) := by decide +kernel
theorem dX0_countBounds_11 : decode cX0_countBounds 11 = .ok (.getfield 9, 3) := by decide +kernel
theorem dX0_countBounds_14 : decode cX0_countBounds 14 = .ok (.getfield 75, 3) := by decide +kernel
theorem dX0_countBounds_17 : decode cX0_countBounds 17 = .ok (.if_icmp .ge 147, 3) := by decide +kernel
theorem dX0_countBounds_20 : decode cX0_countBounds 20 = .ok (.iload_n 2, 1) := by decide +kernel
theorem dX0_countBounds_21 : decode cX0_countBounds 21 = .ok (.ifCond .eq 143, 3) := by decide +kernel
theorem dX0_countBounds_24 : decode cX0_countBounds 24 = .ok (.iconst 0, 1) := by decide +kernel
theorem dX0_countBounds_25 : decode cX0_countBounds 25 = .ok (.istore 4, 2) := by decide +kernel
theorem dX0_countBounds_27 : decode cX0_countBounds 27 = .ok (.iload 4, 2) := by decide +kernel
theorem dX0_countBounds_29 : decode cX0_countBounds 29 = .ok (.aload_n 0, 1) := by decide +kernel
theorem dX0_countBounds_30 : decode cX0_countBounds 30 = .ok (.getfield 9, 3) := by decide +kernel
theorem dX0_countBounds_33 : decode cX0_countBounds 33 = .ok (.getfield 75, 3) := by decide +kernel
theorem dX0_countBounds_36 : decode cX0_countBounds 36 = .ok (.if_icmp .ge 122, 3) := by decide +kernel
theorem dX0_countBounds_39 : decode cX0_countBounds 39 = .ok (.aload_n 0, 1) := by decide +kernel
theorem dX0_countBounds_40 : decode cX0_countBounds 40 = .ok (.getfield 9, 3) := by decide +kernel
theorem dX0_countBounds_43 : decode cX0_countBounds 43 = .ok (.iload 4, 2) := by decide +kernel
theorem dX0_countBounds_45 : decode cX0_countBounds 45 = .ok (.i2l, 1) := by decide +kernel
theorem dX0_countBounds_46 : decode cX0_countBounds 46 = .ok (.invokevirtual 80, 3) := by decide +kernel
theorem dX0_countBounds_49 : decode cX0_countBounds 49 = .ok (.astore 5, 2) := by decide +kernel
theorem dX0_countBounds_51 : decode cX0_countBounds 51 = .ok (.aload 5, 2) := by decide +kernel
theorem dX0_countBounds_53 : decode cX0_countBounds 53 = .ok (.ifnull 99, 3) := by decide +kernel
theorem dX0_countBounds_56 : decode cX0_countBounds 56 = .ok (.iload 4, 2) := by decide +kernel
theorem dX0_countBounds_58 : decode cX0_countBounds 58 = .ok (.iload_n 2, 1) := by decide +kernel
theorem dX0_countBounds_59 : decode cX0_countBounds 59 = .ok (.invokestatic 60, 3) := by decide +kernel
theorem dX0_countBounds_62 : decode cX0_countBounds 62 = .ok (.ifCond .eq 90, 3) := by decide +kernel
theorem dX0_countBounds_65 : decode cX0_countBounds 65 = .ok (.aload_n 0, 1) := by decide +kernel
theorem dX0_countBounds_66 : decode cX0_countBounds 66 = .ok (.getfield 24, 3) := by decide +kernel
theorem dX0_countBounds_69 : decode cX0_countBounds 69 = .ok (.iload 4, 2) := by decide +kernel
theorem dX0_countBounds_71 : decode cX0_countBounds 71 = .ok (.iaload, 1) := by decide +kernel
theorem dX0_countBounds_72 : decode cX0_countBounds 72 = .ok (.iload_n 2, 1) := by decide +kernel
theorem dX0_countBounds_73 : decode cX0_countBounds 73 = .ok (.iand, 1) := by decide +kernel
theorem dX0_countBounds_74 : decode cX0_countBounds 74 = .ok (.ifCond .ne 78, 3) := by decide +kernel
theorem dX0_countBounds_77 : decode cX0_countBounds 77 = .ok (.aload_n 0, 1) := by decide +kernel
theorem dX0_countBounds_78 : decode cX0_countBounds 78 = .ok (.getfield 20, 3) := by decide +kernel
theorem dX0_countBounds_81 : decode cX0_countBounds 81 = .ok (.getfield 66, 3) := by decide +kernel
theorem dX0_countBounds_84 : decode cX0_countBounds 84 = .ok (.iload 4, 2) := by decide +kernel
theorem dX0_countBounds_86 : decode cX0_countBounds 86 = .ok (.aload_n 0, 1) := by decide +kernel
theorem dX0_countBounds_87 : decode cX0_countBounds 87 = .ok (.getfield 20, 3) := by decide +kernel
theorem dX0_countBounds_90 : decode cX0_countBounds 90 = .ok (.aload 5, 2) := by decide +kernel
theorem dX0_countBounds_92 : decode cX0_countBounds 92 = .ok (.invokevirtual 106, 3) := by decide +kernel
theorem dX0_countBounds_95 : decode cX0_countBounds 95 = .ok (.lastore, 1) := by decide +kernel
theorem dX0_countBounds_96 : decode cX0_countBounds 96 = .ok (.aload_n 0, 1) := by decide +kernel
theorem dX0_countBounds_97 : decode cX0_countBounds 97 = .ok (.getfield 20, 3) := by decide +kernel
theorem dX0_countBounds_100 : decode cX0_countBounds 100 = .ok (.getfield 70, 3) := by decide +kernel
theorem dX0_countBounds_103 : decode cX0_countBounds 103 = .ok (.iload 4, 2) := by decide +kernel
theorem dX0_countBounds_105 : decode cX0_countBounds 105 = .ok (.aload_n 0, 1) := by decide +kernel
theorem dX0_countBounds_106 : decode cX0_countBounds 106 = .ok (.getfield 20, 3) := by decide +kernel
theorem dX0_countBounds_109 : decode cX0_countBounds 109 = .ok (.aload 5, 2) := by decide +kernel
theorem dX0_countBounds_111 : decode cX0_countBounds 111 = .ok (.invokevirtual 110, 3) := by decide +kernel
theorem dX0_countBounds_114 : decode cX0_countBounds 114 = .ok (.lastore, 1) := by decide +kernel
theorem dX0_countBounds_115 : decode cX0_countBounds 115 = .ok (.iload_n 2, 1) := by decide +kernel
theorem dX0_countBounds_116 : decode cX0_countBounds 116 = .ok (.iload 4, 2) := by decide +kernel
theorem dX0_countBounds_118 : decode cX0_countBounds 118 = .ok (.invokestatic 45, 3) := by decide +kernel
theorem dX0_countBounds_121 : decode cX0_countBounds 121 = .ok (.iconst (-1), 1) := by decide +kernel
theorem dX0_countBounds_122 : decode cX0_countBounds 122 = .ok (.ixor, 1) := by decide +kernel
theorem dX0_countBounds_123 : decode cX0_countBounds 123 = .ok (.iand, 1) := by decide +kernel
theorem dX0_countBounds_124 : decode cX0_countBounds 124 = .ok (.istore_n 2, 1) := by decide +kernel
theorem dX0_countBounds_125 : decode cX0_countBounds 125 = .ok (.iload_n 1, 1) := by decide +kernel
theorem dX0_countBounds_126 : decode cX0_countBounds 126 = .ok (.ifCond .eq 24, 3) := by decide +kernel
theorem dX0_countBounds_129 : decode cX0_countBounds 129 = .ok (.aload_n 0, 1) := by decide +kernel
theorem dX0_countBounds_130 : decode cX0_countBounds 130 = .ok (.getfield 20, 3) := by decide +kernel
theorem dX0_countBounds_133 : decode cX0_countBounds 133 = .ok (.getfield 70, 3) := by decide +kernel
theorem dX0_countBounds_136 : decode cX0_countBounds 136 = .ok (.iload 4, 2) := by decide +kernel
theorem dX0_countBounds_138 : decode cX0_countBounds 138 = .ok (.laload, 1) := by decide +kernel
theorem dX0_countBounds_139 : decode cX0_countBounds 139 = .ok (.ldc2_w 73, 3) := by decide +kernel
theorem dX0_countBounds_142 : decode cX0_countBounds 142 = .ok (.lcmp, 1) := by decide +kernel
theorem dX0_countBounds_143 : decode cX0_countBounds 143 = .ok (.ifCond .eq 7, 3) := by decide +kernel
theorem dX0_countBounds_146 : decode cX0_countBounds 146 = .ok (.iconst 1, 1) := by decide +kernel
theorem dX0_countBounds_147 : decode cX0_countBounds 147 = .ok (.goto 4, 3) := by decide +kernel
theorem dX0_countBounds_150 : decode cX0_countBounds 150 = .ok (.iconst 0, 1) := by decide +kernel
theorem dX0_countBounds_151 : decode cX0_countBounds 151 = .ok (.istore_n 1, 1) := by decide +kernel
theorem dX0_countBounds_152 : decode cX0_countBounds 152 = .ok (.iinc 4 1, 3) := by decide +kernel
theorem dX0_countBounds_155 : decode cX0_countBounds 155 = .ok (.goto (-128), 3) := by decide +kernel
theorem dX0_countBounds_158 : decode cX0_countBounds 158 = .ok (.iinc 3 1, 3) := by decide +kernel
theorem dX0_countBounds_161 : decode cX0_countBounds 161 = .ok (.goto (-152), 3) := by decide +kernel
theorem dX0_countBounds_164 : decode cX0_countBounds 164 = .ok (.iload_n 1, 1) := by decide +kernel
theorem dX0_countBounds_165 : decode cX0_countBounds 165 = .ok (.ireturn, 1) := by decide +kernel
theorem dX0_bit_0 : decode cX0_bit 0 = .ok (.iconst 1, 1) := by decide +kernel
theorem dX0_bit_1 : decode cX0_bit 1 = .ok (.iload_n 0, 1) := by decide +kernel
theorem dX0_bit_2 : decode cX0_bit 2 = .ok (.ishl, 1) := by decide +kernel
theorem dX0_bit_3 : decode cX0_bit 3 = .ok (.ireturn, 1) := by decide +kernel
theorem dX0_isIn_0 : decode cX0_isIn 0 = .ok (.iload_n 1, 1) := by decide +kernel
theorem dX0_isIn_1 : decode cX0_isIn 1 = .ok (.iload_n 0, 1) := by decide +kernel
theorem dX0_isIn_2 : decode cX0_isIn 2 = .ok (.invokestatic 45, 3) := by decide +kernel
theorem dX0_isIn_5 : decode cX0_isIn 5 = .ok (.iand, 1) := by decide +kernel
theorem dX0_isIn_6 : decode cX0_isIn 6 = .ok (.ifCond .eq 7, 3) := by decide +kernel
theorem dX0_isIn_9 : decode cX0_isIn 9 = .ok (.iconst 1, 1) := by decide +kernel
theorem dX0_isIn_10 : decode cX0_isIn 10 = .ok (.goto 4, 3) := by decide +kernel
theorem dX0_isIn_13 : decode cX0_isIn 13 = .ok (.iconst 0, 1) := by decide +kernel
theorem dX0_isIn_14 : decode cX0_isIn 14 = .ok (.ireturn, 1) := by decide +kernel
theorem dX1_init_0 : decode cX1_init 0 = .ok (.aload_n 0, 1) := by decide +kernel
theorem dX1_init_1 : decode cX1_init 1 = .ok (.invokespecial 3, 3) := by decide +kernel
theorem dX1_init_4 : decode cX1_init 4 = .ok (.aload_n 0, 1) := by decide +kernel
theorem dX1_init_5 : decode cX1_init 5 = .ok (.aload_n 1, 1) := by decide +kernel
theorem dX1_init_6 : decode cX1_init 6 = .ok (.putfield 9, 3) := by decide +kernel
theorem dX1_init_9 : decode cX1_init 9 = .ok (.aload_n 0, 1) := by decide +kernel
theorem dX1_init_10 : decode cX1_init 10 = .ok (.bipush 32, 2) := by decide +kernel
theorem dX1_init_12 : decode cX1_init 12 = .ok (.newarray .long, 2) := by decide +kernel
theorem dX1_init_14 : decode cX1_init 14 = .ok (.putfield 15, 3) := by decide +kernel
theorem dX1_init_17 : decode cX1_init 17 = .ok (.aload_n 0, 1) := by decide +kernel
theorem dX1_init_18 : decode cX1_init 18 = .ok (.bipush 32, 2) := by decide +kernel
theorem dX1_init_20 : decode cX1_init 20 = .ok (.newarray .long, 2) := by decide +kernel
theorem dX1_init_22 : decode cX1_init 22 = .ok (.putfield 19, 3) := by decide +kernel
theorem dX1_init_25 : decode cX1_init 25 = .ok (.aload_n 0, 1) := by decide +kernel
theorem dX1_init_26 : decode cX1_init 26 = .ok (.bipush 121, 2) := by decide +kernel
theorem dX1_init_28 : decode cX1_init 28 = .ok (.newarray .long, 2) := by decide +kernel
theorem dX1_init_30 : decode cX1_init 30 = .ok (.putfield 22, 3) := by decide +kernel
theorem dX1_init_33 : decode cX1_init 33 = .ok (.aload_n 0, 1) := by decide +kernel
theorem dX1_init_34 : decode cX1_init 34 = .ok (.bipush 121, 2) := by decide +kernel
theorem dX1_init_36 : decode cX1_init 36 = .ok (.newarray .long, 2) := by decide +kernel
theorem dX1_init_38 : decode cX1_init 38 = .ok (.putfield 25, 3) := by decide +kernel
theorem dX1_init_41 : decode cX1_init 41 = .ok (.return_, 1) := by decide +kernel
theorem dX1_stackOf_0 : decode cX1_stackOf 0 = .ok (.lconst 0, 1) := by decide +kernel
theorem dX1_stackOf_1 : decode cX1_stackOf 1 = .ok (.lstore_n 2, 1) := by decide +kernel
theorem dX1_stackOf_2 : decode cX1_stackOf 2 = .ok (.iconst 0, 1) := by decide +kernel
theorem dX1_stackOf_3 : decode cX1_stackOf 3 = .ok (.istore 4, 2) := by decide +kernel
theorem dX1_stackOf_5 : decode cX1_stackOf 5 = .ok (.iload 4, 2) := by decide +kernel
theorem dX1_stackOf_7 : decode cX1_stackOf 7 = .ok (.aload_n 1, 1) := by decide +kernel
theorem dX1_stackOf_8 : decode cX1_stackOf 8 = .ok (.getfield 28, 3) := by decide +kernel
theorem dX1_stackOf_11 : decode cX1_stackOf 11 = .ok (.if_icmp .ge 48, 3) := by decide +kernel
theorem dX1_stackOf_14 : decode cX1_stackOf 14 = .ok (.aload_n 1, 1) := by decide +kernel
theorem dX1_stackOf_15 : decode cX1_stackOf 15 = .ok (.iload 4, 2) := by decide +kernel
theorem dX1_stackOf_17 : decode cX1_stackOf 17 = .ok (.invokevirtual 34, 3) := by decide +kernel
theorem dX1_stackOf_20 : decode cX1_stackOf 20 = .ok (.ifCond .eq 33, 3) := by decide +kernel
theorem dX1_stackOf_23 : decode cX1_stackOf 23 = .ok (.lload_n 2, 1) := by decide +kernel
theorem dX1_stackOf_24 : decode cX1_stackOf 24 = .ok (.aload_n 1, 1) := by decide +kernel
theorem dX1_stackOf_25 : decode cX1_stackOf 25 = .ok (.getfield 38, 3) := by decide +kernel
theorem dX1_stackOf_28 : decode cX1_stackOf 28 = .ok (.aload_n 1, 1) := by decide +kernel
theorem dX1_stackOf_29 : decode cX1_stackOf 29 = .ok (.getfield 41, 3) := by decide +kernel
theorem dX1_stackOf_32 : decode cX1_stackOf 32 = .ok (.iload 4, 2) := by decide +kernel
theorem dX1_stackOf_34 : decode cX1_stackOf 34 = .ok (.iaload, 1) := by decide +kernel
theorem dX1_stackOf_35 : decode cX1_stackOf 35 = .ok (.iadd, 1) := by decide +kernel
theorem dX1_stackOf_36 : decode cX1_stackOf 36 = .ok (.i2l, 1) := by decide +kernel
theorem dX1_stackOf_37 : decode cX1_stackOf 37 = .ok (.invokestatic 45, 3) := by decide +kernel
theorem dX1_stackOf_40 : decode cX1_stackOf 40 = .ok (.lstore_n 2, 1) := by decide +kernel
theorem dX1_stackOf_41 : decode cX1_stackOf 41 = .ok (.lload_n 2, 1) := by decide +kernel
theorem dX1_stackOf_42 : decode cX1_stackOf 42 = .ok (.aload_n 0, 1) := by decide +kernel
theorem dX1_stackOf_43 : decode cX1_stackOf 43 = .ok (.aload_n 1, 1) := by decide +kernel
theorem dX1_stackOf_44 : decode cX1_stackOf 44 = .ok (.iload 4, 2) := by decide +kernel
theorem dX1_stackOf_46 : decode cX1_stackOf 46 = .ok (.invokevirtual 51, 3) := by decide +kernel
theorem dX1_stackOf_49 : decode cX1_stackOf 49 = .ok (.invokestatic 45, 3) := by decide +kernel
theorem dX1_stackOf_52 : decode cX1_stackOf 52 = .ok (.lstore_n 2, 1) := by decide +kernel
theorem dX1_stackOf_53 : decode cX1_stackOf 53 = .ok (.iinc 4 1, 3) := by decide +kernel
theorem dX1_stackOf_56 : decode cX1_stackOf 56 = .ok (.goto (-51), 3) := by decide +kernel
theorem dX1_stackOf_59 : decode cX1_stackOf 59 = .ok (.lload_n 2, 1) := by decide +kernel
theorem dX1_stackOf_60 : decode cX1_stackOf 60 = .ok (.lreturn, 1) := by decide +kernel
theorem dX1_stackOfCall_0 : decode cX1_stackOfCall 0 = .ok (.aload_n 1, 1) := by decide +kernel
theorem dX1_stackOfCall_1 : decode cX1_stackOfCall 1 = .ok (.getfield 55, 3) := by decide +kernel
theorem dX1_stackOfCall_4 : decode cX1_stackOfCall 4 = .ok (.iload_n 2, 1) := by decide +kernel
theorem dX1_stackOfCall_5 : decode cX1_stackOfCall 5 = .ok (.iaload, 1) := by decide +kernel
theorem dX1_stackOfCall_6 : decode cX1_stackOfCall 6 = .ok (.bipush 16, 2) := by decide +kernel
theorem dX1_stackOfCall_8 : decode cX1_stackOfCall 8 = .ok (.if_icmp .ne 19, 3) := by decide +kernel
theorem dX1_stackOfCall_11 : decode cX1_stackOfCall 11 = .ok (.aload_n 0, 1) := by decide +kernel
theorem dX1_stackOfCall_12 : decode cX1_stackOfCall 12 = .ok (.getfield 9, 3) := by decide +kernel
theorem dX1_stackOfCall_15 : decode cX1_stackOfCall 15 = .ok (.aload_n 1, 1) := by decide +kernel
theorem dX1_stackOfCall_16 : decode cX1_stackOfCall 16 = .ok (.getfield 58, 3) := by decide +kernel
theorem dX1_stackOfCall_19 : decode cX1_stackOfCall 19 = .ok (.iload_n 2, 1) := by decide +kernel
theorem dX1_stackOfCall_20 : decode cX1_stackOfCall 20 = .ok (.laload, 1) := by decide +kernel
theorem dX1_stackOfCall_21 : decode cX1_stackOfCall 21 = .ok (.invokevirtual 61, 3) := by decide +kernel
theorem dX1_stackOfCall_24 : decode cX1_stackOfCall 24 = .ok (.goto 4, 3) := by decide +kernel
theorem dX1_stackOfCall_27 : decode cX1_stackOfCall 27 = .ok (.aconst_null, 1) := by decide +kernel
theorem dX1_stackOfCall_28 : decode cX1_stackOfCall 28 = .ok (.astore_n 3, 1) := by decide +kernel
theorem dX1_stackOfCall_29 : decode cX1_stackOfCall 29 = .ok (.aload_n 3, 1) := by decide +kernel
theorem dX1_stackOfCall_30 : decode cX1_stackOfCall 30 = .ok (.ifnonnull 5, 3) := by decide +kernel
theorem dX1_stackOfCall_33 : decode cX1_stackOfCall 33 = .ok (.lconst 0, 1) := by decide +kernel
theorem dX1_stackOfCall_34 : decode cX1_stackOfCall 34 = .ok (.lreturn, 1) := by decide +kernel
theorem dX1_stackOfCall_35 : decode cX1_stackOfCall 35 = .ok (.aload_n 1, 1) := by decide +kernel
theorem dX1_stackOfCall_36 : decode cX1_stackOfCall 36 = .ok (.getfield 38, 3) := by decide +kernel
theorem dX1_stackOfCall_39 : decode cX1_stackOfCall 39 = .ok (.aload_n 1, 1) := by decide +kernel
theorem dX1_stackOfCall_40 : decode cX1_stackOfCall 40 = .ok (.getfield 41, 3) := by decide +kernel
theorem dX1_stackOfCall_43 : decode cX1_stackOfCall 43 = .ok (.iload_n 2, 1) := by decide +kernel
theorem dX1_stackOfCall_44 : decode cX1_stackOfCall 44 = .ok (.iaload, 1) := by decide +kernel
theorem dX1_stackOfCall_45 : decode cX1_stackOfCall 45 = .ok (.iadd, 1) := by decide +kernel
theorem dX1_stackOfCall_46 : decode cX1_stackOfCall 46 = .ok (.aload_n 3, 1) := by decide +kernel
theorem dX1_stackOfCall_47 : decode cX1_stackOfCall 47 = .ok (.getfield 67, 3) := by decide +kernel
theorem dX1_stackOfCall_50 : decode cX1_stackOfCall 50 = .ok (.isub, 1) := by decide +kernel
theorem dX1_stackOfCall_51 : decode cX1_stackOfCall 51 = .ok (.iconst 2, 1) := by decide +kernel
theorem dX1_stackOfCall_52 : decode cX1_stackOfCall 52 = .ok (.iadd, 1) := by decide +kernel
theorem dX1_stackOfCall_53 : decode cX1_stackOfCall 53 = .ok (.i2l, 1) := by decide +kernel
theorem dX1_stackOfCall_54 : decode cX1_stackOfCall 54 = .ok (.aload_n 0, 1) := by decide +kernel
theorem dX1_stackOfCall_55 : decode cX1_stackOfCall 55 = .ok (.getfield 15, 3) := by decide +kernel
theorem dX1_stackOfCall_58 : decode cX1_stackOfCall 58 = .ok (.aload_n 1, 1) := by decide +kernel
theorem dX1_stackOfCall_59 : decode cX1_stackOfCall 59 = .ok (.getfield 58, 3) := by decide +kernel
theorem dX1_stackOfCall_62 : decode cX1_stackOfCall 62 = .ok (.iload_n 2, 1) := by decide +kernel
theorem dX1_stackOfCall_63 : decode cX1_stackOfCall 63 = .ok (.laload, 1) := by decide +kernel
theorem dX1_stackOfCall_64 : decode cX1_stackOfCall 64 = .ok (.l2i, 1) := by decide +kernel
theorem dX1_stackOfCall_65 : decode cX1_stackOfCall 65 = .ok (.laload, 1) := by decide +kernel
theorem dX1_stackOfCall_66 : decode cX1_stackOfCall 66 = .ok (.ladd, 1) := by decide +kernel
theorem dX1_stackOfCall_67 : decode cX1_stackOfCall 67 = .ok (.lreturn, 1) := by decide +kernel
theorem dX1_timeOf_0 : decode cX1_timeOf 0 = .ok (.aload_n 0, 1) := by decide +kernel
theorem dX1_timeOf_1 : decode cX1_timeOf 1 = .ok (.getfield 22, 3) := by decide +kernel
theorem dX1_timeOf_4 : decode cX1_timeOf 4 = .ok (.aload_n 1, 1) := by decide +kernel
theorem dX1_timeOf_5 : decode cX1_timeOf 5 = .ok (.getfield 28, 3) := by decide +kernel
theorem dX1_timeOf_8 : decode cX1_timeOf 8 = .ok (.ldc2_w 70, 3) := by decide +kernel
theorem dX1_timeOf_11 : decode cX1_timeOf 11 = .ok (.lastore, 1) := by decide +kernel
theorem dX1_timeOf_12 : decode cX1_timeOf 12 = .ok (.aload_n 0, 1) := by decide +kernel
theorem dX1_timeOf_13 : decode cX1_timeOf 13 = .ok (.getfield 25, 3) := by decide +kernel
theorem dX1_timeOf_16 : decode cX1_timeOf 16 = .ok (.aload_n 1, 1) := by decide +kernel
theorem dX1_timeOf_17 : decode cX1_timeOf 17 = .ok (.getfield 28, 3) := by decide +kernel
theorem dX1_timeOf_20 : decode cX1_timeOf 20 = .ok (.ldc2_w 70, 3) := by decide +kernel
theorem dX1_timeOf_23 : decode cX1_timeOf 23 = .ok (.lastore, 1) := by decide +kernel
theorem dX1_timeOf_24 : decode cX1_timeOf 24 = .ok (.aload_n 1, 1) := by decide +kernel
theorem dX1_timeOf_25 : decode cX1_timeOf 25 = .ok (.getfield 28, 3) := by decide +kernel
theorem dX1_timeOf_28 : decode cX1_timeOf 28 = .ok (.iconst 1, 1) := by decide +kernel
theorem dX1_timeOf_29 : decode cX1_timeOf 29 = .ok (.isub, 1) := by decide +kernel
theorem dX1_timeOf_30 : decode cX1_timeOf 30 = .ok (.istore_n 2, 1) := by decide +kernel
theorem dX1_timeOf_31 : decode cX1_timeOf 31 = .ok (.iload_n 2, 1) := by decide +kernel
theorem dX1_timeOf_32 : decode cX1_timeOf 32 = .ok (.ifCond .lt 41, 3) := by decide +kernel
theorem dX1_timeOf_35 : decode cX1_timeOf 35 = .ok (.aload_n 0, 1) := by decide +kernel
theorem dX1_timeOf_36 : decode cX1_timeOf 36 = .ok (.getfield 22, 3) := by decide +kernel
theorem dX1_timeOf_39 : decode cX1_timeOf 39 = .ok (.iload_n 2, 1) := by decide +kernel
theorem dX1_timeOf_40 : decode cX1_timeOf 40 = .ok (.ldc2_w 70, 3) := by decide +kernel
theorem dX1_timeOf_43 : decode cX1_timeOf 43 = .ok (.lastore, 1) := by decide +kernel
theorem dX1_timeOf_44 : decode cX1_timeOf 44 = .ok (.aload_n 0, 1) := by decide +kernel
theorem dX1_timeOf_45 : decode cX1_timeOf 45 = .ok (.getfield 25, 3) := by decide +kernel
theorem dX1_timeOf_48 : decode cX1_timeOf 48 = .ok (.iload_n 2, 1) := by decide +kernel
theorem dX1_timeOf_49 : decode cX1_timeOf 49 = .ok (.ldc2_w 70, 3) := by decide +kernel
theorem dX1_timeOf_52 : decode cX1_timeOf 52 = .ok (.lastore, 1) := by decide +kernel
theorem dX1_timeOf_53 : decode cX1_timeOf 53 = .ok (.aload_n 1, 1) := by decide +kernel
theorem dX1_timeOf_54 : decode cX1_timeOf 54 = .ok (.iload_n 2, 1) := by decide +kernel
theorem dX1_timeOf_55 : decode cX1_timeOf 55 = .ok (.invokevirtual 34, 3) := by decide +kernel
theorem dX1_timeOf_58 : decode cX1_timeOf 58 = .ok (.ifCond .eq 9, 3) := by decide +kernel
theorem dX1_timeOf_61 : decode cX1_timeOf 61 = .ok (.aload_n 0, 1) := by decide +kernel
theorem dX1_timeOf_62 : decode cX1_timeOf 62 = .ok (.aload_n 1, 1) := by decide +kernel
theorem dX1_timeOf_63 : decode cX1_timeOf 63 = .ok (.iload_n 2, 1) := by decide +kernel
theorem dX1_timeOf_64 : decode cX1_timeOf 64 = .ok (.invokevirtual 72, 3) := by decide +kernel
theorem dX1_timeOf_67 : decode cX1_timeOf 67 = .ok (.iinc 2 (-1), 3) := by decide +kernel
theorem dX1_timeOf_70 : decode cX1_timeOf 70 = .ok (.goto (-39), 3) := by decide +kernel
theorem dX1_timeOf_73 : decode cX1_timeOf 73 = .ok (.aload_n 0, 1) := by decide +kernel
theorem dX1_timeOf_74 : decode cX1_timeOf 74 = .ok (.getfield 25, 3) := by decide +kernel
theorem dX1_timeOf_77 : decode cX1_timeOf 77 = .ok (.iconst 0, 1) := by decide +kernel
theorem dX1_timeOf_78 : decode cX1_timeOf 78 = .ok (.laload, 1) := by decide +kernel
theorem dX1_timeOf_79 : decode cX1_timeOf 79 = .ok (.lreturn, 1) := by decide +kernel
theorem dX1_lengthen_0 : decode cX1_lengthen 0 = .ok (.aload_n 0, 1) := by decide +kernel
theorem dX1_lengthen_1 : decode cX1_lengthen 1 = .ok (.getfield 9, 3) := by decide +kernel
theorem dX1_lengthen_4 : decode cX1_lengthen 4 = .ok (.aload_n 1, 1) := by decide +kernel
theorem dX1_lengthen_5 : decode cX1_lengthen 5 = .ok (.getfield 55, 3) := by decide +kernel
theorem dX1_lengthen_8 : decode cX1_lengthen 8 = .ok (.iload_n 2, 1) := by decide +kernel
theorem dX1_lengthen_9 : decode cX1_lengthen 9 = .ok (.iaload, 1) := by decide +kernel
theorem dX1_lengthen_10 : decode cX1_lengthen 10 = .ok (.invokevirtual 76, 3) := by decide +kernel
theorem dX1_lengthen_13 : decode cX1_lengthen 13 = .ok (.i2l, 1) := by decide +kernel
theorem dX1_lengthen_14 : decode cX1_lengthen 14 = .ok (.lstore_n 3, 1) := by decide +kernel
theorem dX1_lengthen_15 : decode cX1_lengthen 15 = .ok (.aload_n 1, 1) := by decide +kernel
theorem dX1_lengthen_16 : decode cX1_lengthen 16 = .ok (.getfield 55, 3) := by decide +kernel
theorem dX1_lengthen_19 : decode cX1_lengthen 19 = .ok (.iload_n 2, 1) := by decide +kernel
theorem dX1_lengthen_20 : decode cX1_lengthen 20 = .ok (.iaload, 1) := by decide +kernel
theorem dX1_lengthen_21 : decode cX1_lengthen 21 = .ok (.tableswitch 159 12 17 #[59, 75, 100, 49, 138, 39], 39) := by decide +kernel
theorem dX1_lengthen_60 : decode cX1_lengthen 60 = .ok (.aload_n 0, 1) := by decide +kernel
theorem dX1_lengthen_61 : decode cX1_lengthen 61 = .ok (.getfield 25, 3) := by decide +kernel
theorem dX1_lengthen_64 : decode cX1_lengthen 64 = .ok (.iload_n 2, 1) := by decide +kernel
theorem dX1_lengthen_65 : decode cX1_lengthen 65 = .ok (.lload_n 3, 1) := by decide +kernel
theorem dX1_lengthen_66 : decode cX1_lengthen 66 = .ok (.lastore, 1) := by decide +kernel
theorem dX1_lengthen_67 : decode cX1_lengthen 67 = .ok (.goto 122, 3) := by decide +kernel
theorem dX1_lengthen_70 : decode cX1_lengthen 70 = .ok (.aload_n 0, 1) := by decide +kernel
theorem dX1_lengthen_71 : decode cX1_lengthen 71 = .ok (.getfield 22, 3) := by decide +kernel
theorem dX1_lengthen_74 : decode cX1_lengthen 74 = .ok (.iload_n 2, 1) := by decide +kernel
theorem dX1_lengthen_75 : decode cX1_lengthen 75 = .ok (.lload_n 3, 1) := by decide +kernel
theorem dX1_lengthen_76 : decode cX1_lengthen 76 = .ok (.lastore, 1) := by decide +kernel
theorem dX1_lengthen_77 : decode cX1_lengthen 77 = .ok (.goto 112, 3) := by decide +kernel
theorem dX1_lengthen_80 : decode cX1_lengthen 80 = .ok (.aload_n 0, 1) := by decide +kernel
theorem dX1_lengthen_81 : decode cX1_lengthen 81 = .ok (.iload_n 2, 1) := by decide +kernel
theorem dX1_lengthen_82 : decode cX1_lengthen 82 = .ok (.lload_n 3, 1) := by decide +kernel
theorem dX1_lengthen_83 : decode cX1_lengthen 83 = .ok (.aload_n 1, 1) := by decide +kernel
theorem dX1_lengthen_84 : decode cX1_lengthen 84 = .ok (.getfield 58, 3) := by decide +kernel
theorem dX1_lengthen_87 : decode cX1_lengthen 87 = .ok (.iload_n 2, 1) := by decide +kernel
theorem dX1_lengthen_88 : decode cX1_lengthen 88 = .ok (.laload, 1) := by decide +kernel
theorem dX1_lengthen_89 : decode cX1_lengthen 89 = .ok (.l2i, 1) := by decide +kernel
theorem dX1_lengthen_90 : decode cX1_lengthen 90 = .ok (.invokevirtual 80, 3) := by decide +kernel
theorem dX1_lengthen_93 : decode cX1_lengthen 93 = .ok (.goto 96, 3) := by decide +kernel
theorem dX1_lengthen_96 : decode cX1_lengthen 96 = .ok (.aload_n 0, 1) := by decide +kernel
theorem dX1_lengthen_97 : decode cX1_lengthen 97 = .ok (.iload_n 2, 1) := by decide +kernel
theorem dX1_lengthen_98 : decode cX1_lengthen 98 = .ok (.lload_n 3, 1) := by decide +kernel
theorem dX1_lengthen_99 : decode cX1_lengthen 99 = .ok (.iload_n 2, 1) := by decide +kernel
theorem dX1_lengthen_100 : decode cX1_lengthen 100 = .ok (.iconst 1, 1) := by decide +kernel
theorem dX1_lengthen_101 : decode cX1_lengthen 101 = .ok (.iadd, 1) := by decide +kernel
theorem dX1_lengthen_102 : decode cX1_lengthen 102 = .ok (.invokevirtual 80, 3) := by decide +kernel
theorem dX1_lengthen_105 : decode cX1_lengthen 105 = .ok (.aload_n 0, 1) := by decide +kernel
theorem dX1_lengthen_106 : decode cX1_lengthen 106 = .ok (.iload_n 2, 1) := by decide +kernel
theorem dX1_lengthen_107 : decode cX1_lengthen 107 = .ok (.lload_n 3, 1) := by decide +kernel
theorem dX1_lengthen_108 : decode cX1_lengthen 108 = .ok (.aload_n 1, 1) := by decide +kernel
theorem dX1_lengthen_109 : decode cX1_lengthen 109 = .ok (.getfield 58, 3) := by decide +kernel
theorem dX1_lengthen_112 : decode cX1_lengthen 112 = .ok (.iload_n 2, 1) := by decide +kernel
theorem dX1_lengthen_113 : decode cX1_lengthen 113 = .ok (.laload, 1) := by decide +kernel
theorem dX1_lengthen_114 : decode cX1_lengthen 114 = .ok (.l2i, 1) := by decide +kernel
theorem dX1_lengthen_115 : decode cX1_lengthen 115 = .ok (.invokevirtual 80, 3) := by decide +kernel
theorem dX1_lengthen_118 : decode cX1_lengthen 118 = .ok (.goto 71, 3) := by decide +kernel
theorem dX1_lengthen_121 : decode cX1_lengthen 121 = .ok (.aload_n 1, 1) := by decide +kernel
theorem dX1_lengthen_122 : decode cX1_lengthen 122 = .ok (.getfield 58, 3) := by decide +kernel
theorem dX1_lengthen_125 : decode cX1_lengthen 125 = .ok (.iload_n 2, 1) := by decide +kernel
theorem dX1_lengthen_126 : decode cX1_lengthen 126 = .ok (.laload, 1) := by decide +kernel
theorem dX1_lengthen_127 : decode cX1_lengthen 127 = .ok (.lconst 0, 1) := by decide +kernel
theorem dX1_lengthen_128 : decode cX1_lengthen 128 = .ok (.lcmp, 1) := by decide +kernel
theorem dX1_lengthen_129 : decode cX1_lengthen 129 = .ok (.ifCond .le 13, 3) := by decide +kernel
theorem dX1_lengthen_132 : decode cX1_lengthen 132 = .ok (.aload_n 0, 1) := by decide +kernel
theorem dX1_lengthen_133 : decode cX1_lengthen 133 = .ok (.aload_n 1, 1) := by decide +kernel
theorem dX1_lengthen_134 : decode cX1_lengthen 134 = .ok (.iload_n 2, 1) := by decide +kernel
theorem dX1_lengthen_135 : decode cX1_lengthen 135 = .ok (.lload_n 3, 1) := by decide +kernel
theorem dX1_lengthen_136 : decode cX1_lengthen 136 = .ok (.invokevirtual 84, 3) := by decide +kernel
theorem dX1_lengthen_139 : decode cX1_lengthen 139 = .ok (.goto 50, 3) := by decide +kernel
theorem dX1_lengthen_142 : decode cX1_lengthen 142 = .ok (.aload_n 0, 1) := by decide +kernel
theorem dX1_lengthen_143 : decode cX1_lengthen 143 = .ok (.iload_n 2, 1) := by decide +kernel
theorem dX1_lengthen_144 : decode cX1_lengthen 144 = .ok (.lload_n 3, 1) := by decide +kernel
theorem dX1_lengthen_145 : decode cX1_lengthen 145 = .ok (.aload_n 1, 1) := by decide +kernel
theorem dX1_lengthen_146 : decode cX1_lengthen 146 = .ok (.getfield 88, 3) := by decide +kernel
theorem dX1_lengthen_149 : decode cX1_lengthen 149 = .ok (.iload_n 2, 1) := by decide +kernel
theorem dX1_lengthen_150 : decode cX1_lengthen 150 = .ok (.iaload, 1) := by decide +kernel
theorem dX1_lengthen_151 : decode cX1_lengthen 151 = .ok (.iconst 1, 1) := by decide +kernel
theorem dX1_lengthen_152 : decode cX1_lengthen 152 = .ok (.iadd, 1) := by decide +kernel
theorem dX1_lengthen_153 : decode cX1_lengthen 153 = .ok (.invokevirtual 80, 3) := by decide +kernel
theorem dX1_lengthen_156 : decode cX1_lengthen 156 = .ok (.goto 33, 3) := by decide +kernel
theorem dX1_lengthen_159 : decode cX1_lengthen 159 = .ok (.aload_n 0, 1) := by decide +kernel
theorem dX1_lengthen_160 : decode cX1_lengthen 160 = .ok (.iload_n 2, 1) := by decide +kernel
theorem dX1_lengthen_161 : decode cX1_lengthen 161 = .ok (.lload_n 3, 1) := by decide +kernel
theorem dX1_lengthen_162 : decode cX1_lengthen 162 = .ok (.aload_n 0, 1) := by decide +kernel
theorem dX1_lengthen_163 : decode cX1_lengthen 163 = .ok (.aload_n 1, 1) := by decide +kernel
theorem dX1_lengthen_164 : decode cX1_lengthen 164 = .ok (.iload_n 2, 1) := by decide +kernel
theorem dX1_lengthen_165 : decode cX1_lengthen 165 = .ok (.invokevirtual 91, 3) := by decide +kernel
theorem dX1_lengthen_168 : decode cX1_lengthen 168 = .ok (.invokestatic 94, 3) := by decide +kernel
theorem dX1_lengthen_171 : decode cX1_lengthen 171 = .ok (.iload_n 2, 1) := by decide +kernel
theorem dX1_lengthen_172 : decode cX1_lengthen 172 = .ok (.iconst 1, 1) := by decide +kernel
theorem dX1_lengthen_173 : decode cX1_lengthen 173 = .ok (.iadd, 1) := by decide +kernel
theorem dX1_lengthen_174 : decode cX1_lengthen 174 = .ok (.invokevirtual 80, 3) := by decide +kernel
theorem dX1_lengthen_177 : decode cX1_lengthen 177 = .ok (.goto 12, 3) := by decide +kernel
theorem dX1_lengthen_180 : decode cX1_lengthen 180 = .ok (.aload_n 0, 1) := by decide +kernel
theorem dX1_lengthen_181 : decode cX1_lengthen 181 = .ok (.iload_n 2, 1) := by decide +kernel
theorem dX1_lengthen_182 : decode cX1_lengthen 182 = .ok (.lload_n 3, 1) := by decide +kernel
theorem dX1_lengthen_183 : decode cX1_lengthen 183 = .ok (.iload_n 2, 1) := by decide +kernel
theorem dX1_lengthen_184 : decode cX1_lengthen 184 = .ok (.iconst 1, 1) := by decide +kernel
theorem dX1_lengthen_185 : decode cX1_lengthen 185 = .ok (.iadd, 1) := by decide +kernel
theorem dX1_lengthen_186 : decode cX1_lengthen 186 = .ok (.invokevirtual 80, 3) := by decide +kernel
theorem dX1_lengthen_189 : decode cX1_lengthen 189 = .ok (.return_, 1) := by decide +kernel
theorem dX1_timeOfCall_0 : decode cX1_timeOfCall 0 = .ok (.aload_n 0, 1) := by decide +kernel
theorem dX1_timeOfCall_1 : decode cX1_timeOfCall 1 = .ok (.getfield 9, 3) := by decide +kernel
theorem dX1_timeOfCall_4 : decode cX1_timeOfCall 4 = .ok (.aload_n 1, 1) := by decide +kernel
theorem dX1_timeOfCall_5 : decode cX1_timeOfCall 5 = .ok (.getfield 58, 3) := by decide +kernel
theorem dX1_timeOfCall_8 : decode cX1_timeOfCall 8 = .ok (.iload_n 2, 1) := by decide +kernel
theorem dX1_timeOfCall_9 : decode cX1_timeOfCall 9 = .ok (.laload, 1) := by decide +kernel
theorem dX1_timeOfCall_10 : decode cX1_timeOfCall 10 = .ok (.invokevirtual 61, 3) := by decide +kernel
theorem dX1_timeOfCall_13 : decode cX1_timeOfCall 13 = .ok (.ifnonnull 7, 3) := by decide +kernel
theorem dX1_timeOfCall_16 : decode cX1_timeOfCall 16 = .ok (.lconst 0, 1) := by decide +kernel
theorem dX1_timeOfCall_17 : decode cX1_timeOfCall 17 = .ok (.goto 15, 3) := by decide +kernel
theorem dX1_timeOfCall_20 : decode cX1_timeOfCall 20 = .ok (.aload_n 0, 1) := by decide +kernel
theorem dX1_timeOfCall_21 : decode cX1_timeOfCall 21 = .ok (.getfield 19, 3) := by decide +kernel
theorem dX1_timeOfCall_24 : decode cX1_timeOfCall 24 = .ok (.aload_n 1, 1) := by decide +kernel
theorem dX1_timeOfCall_25 : decode cX1_timeOfCall 25 = .ok (.getfield 58, 3) := by decide +kernel
theorem dX1_timeOfCall_28 : decode cX1_timeOfCall 28 = .ok (.iload_n 2, 1) := by decide +kernel
theorem dX1_timeOfCall_29 : decode cX1_timeOfCall 29 = .ok (.laload, 1) := by decide +kernel
theorem dX1_timeOfCall_30 : decode cX1_timeOfCall 30 = .ok (.l2i, 1) := by decide +kernel
theorem dX1_timeOfCall_31 : decode cX1_timeOfCall 31 = .ok (.laload, 1) := by decide +kernel
theorem dX1_timeOfCall_32 : decode cX1_timeOfCall 32 = .ok (.lreturn, 1) := by decide +kernel
theorem dX1_goTo_0 : decode cX1_goTo 0 = .ok (.aload_n 0, 1) := by decide +kernel
theorem dX1_goTo_1 : decode cX1_goTo 1 = .ok (.getfield 22, 3) := by decide +kernel
theorem dX1_goTo_4 : decode cX1_goTo 4 = .ok (.iload_n 1, 1) := by decide +kernel
theorem dX1_goTo_5 : decode cX1_goTo 5 = .ok (.aload_n 0, 1) := by decide +kernel
theorem dX1_goTo_6 : decode cX1_goTo 6 = .ok (.getfield 22, 3) := by decide +kernel
theorem dX1_goTo_9 : decode cX1_goTo 9 = .ok (.iload_n 1, 1) := by decide +kernel
theorem dX1_goTo_10 : decode cX1_goTo 10 = .ok (.laload, 1) := by decide +kernel
theorem dX1_goTo_11 : decode cX1_goTo 11 = .ok (.lload_n 2, 1) := by decide +kernel
theorem dX1_goTo_12 : decode cX1_goTo 12 = .ok (.aload_n 0, 1) := by decide +kernel
theorem dX1_goTo_13 : decode cX1_goTo 13 = .ok (.getfield 22, 3) := by decide +kernel
theorem dX1_goTo_16 : decode cX1_goTo 16 = .ok (.iload 4, 2) := by decide +kernel
theorem dX1_goTo_18 : decode cX1_goTo 18 = .ok (.laload, 1) := by decide +kernel
theorem dX1_goTo_19 : decode cX1_goTo 19 = .ok (.invokestatic 94, 3) := by decide +kernel
theorem dX1_goTo_22 : decode cX1_goTo 22 = .ok (.invokestatic 97, 3) := by decide +kernel
theorem dX1_goTo_25 : decode cX1_goTo 25 = .ok (.lastore, 1) := by decide +kernel
theorem dX1_goTo_26 : decode cX1_goTo 26 = .ok (.aload_n 0, 1) := by decide +kernel
theorem dX1_goTo_27 : decode cX1_goTo 27 = .ok (.getfield 25, 3) := by decide +kernel
theorem dX1_goTo_30 : decode cX1_goTo 30 = .ok (.iload_n 1, 1) := by decide +kernel
theorem dX1_goTo_31 : decode cX1_goTo 31 = .ok (.aload_n 0, 1) := by decide +kernel
theorem dX1_goTo_32 : decode cX1_goTo 32 = .ok (.getfield 25, 3) := by decide +kernel
theorem dX1_goTo_35 : decode cX1_goTo 35 = .ok (.iload_n 1, 1) := by decide +kernel
theorem dX1_goTo_36 : decode cX1_goTo 36 = .ok (.laload, 1) := by decide +kernel
theorem dX1_goTo_37 : decode cX1_goTo 37 = .ok (.lload_n 2, 1) := by decide +kernel
theorem dX1_goTo_38 : decode cX1_goTo 38 = .ok (.aload_n 0, 1) := by decide +kernel
theorem dX1_goTo_39 : decode cX1_goTo 39 = .ok (.getfield 25, 3) := by decide +kernel
theorem dX1_goTo_42 : decode cX1_goTo 42 = .ok (.iload 4, 2) := by decide +kernel
theorem dX1_goTo_44 : decode cX1_goTo 44 = .ok (.laload, 1) := by decide +kernel
theorem dX1_goTo_45 : decode cX1_goTo 45 = .ok (.invokestatic 94, 3) := by decide +kernel
theorem dX1_goTo_48 : decode cX1_goTo 48 = .ok (.invokestatic 97, 3) := by decide +kernel
theorem dX1_goTo_51 : decode cX1_goTo 51 = .ok (.lastore, 1) := by decide +kernel
theorem dX1_goTo_52 : decode cX1_goTo 52 = .ok (.return_, 1) := by decide +kernel
theorem dX1_goThrough_0 : decode cX1_goThrough 0 = .ok (.aload_n 0, 1) := by decide +kernel
theorem dX1_goThrough_1 : decode cX1_goThrough 1 = .ok (.getfield 22, 3) := by decide +kernel
theorem dX1_goThrough_4 : decode cX1_goThrough 4 = .ok (.iload_n 2, 1) := by decide +kernel
theorem dX1_goThrough_5 : decode cX1_goThrough 5 = .ok (.iconst 1, 1) := by decide +kernel
theorem dX1_goThrough_6 : decode cX1_goThrough 6 = .ok (.iadd, 1) := by decide +kernel
theorem dX1_goThrough_7 : decode cX1_goThrough 7 = .ok (.laload, 1) := by decide +kernel
theorem dX1_goThrough_8 : decode cX1_goThrough 8 = .ok (.lstore 5, 2) := by decide +kernel
theorem dX1_goThrough_10 : decode cX1_goThrough 10 = .ok (.aload_n 1, 1) := by decide +kernel
theorem dX1_goThrough_11 : decode cX1_goThrough 11 = .ok (.getfield 88, 3) := by decide +kernel
theorem dX1_goThrough_14 : decode cX1_goThrough 14 = .ok (.iload_n 2, 1) := by decide +kernel
theorem dX1_goThrough_15 : decode cX1_goThrough 15 = .ok (.iaload, 1) := by decide +kernel
theorem dX1_goThrough_16 : decode cX1_goThrough 16 = .ok (.iconst 1, 1) := by decide +kernel
theorem dX1_goThrough_17 : decode cX1_goThrough 17 = .ok (.iadd, 1) := by decide +kernel
theorem dX1_goThrough_18 : decode cX1_goThrough 18 = .ok (.istore 7, 2) := by decide +kernel
theorem dX1_goThrough_20 : decode cX1_goThrough 20 = .ok (.lload_n 3, 1) := by decide +kernel
theorem dX1_goThrough_21 : decode cX1_goThrough 21 = .ok (.lload 5, 2) := by decide +kernel
theorem dX1_goThrough_23 : decode cX1_goThrough 23 = .ok (.aload_n 1, 1) := by decide +kernel
theorem dX1_goThrough_24 : decode cX1_goThrough 24 = .ok (.getfield 58, 3) := by decide +kernel
theorem dX1_goThrough_27 : decode cX1_goThrough 27 = .ok (.iload_n 2, 1) := by decide +kernel
theorem dX1_goThrough_28 : decode cX1_goThrough 28 = .ok (.laload, 1) := by decide +kernel
theorem dX1_goThrough_29 : decode cX1_goThrough 29 = .ok (.invokestatic 100, 3) := by decide +kernel
theorem dX1_goThrough_32 : decode cX1_goThrough 32 = .ok (.invokestatic 94, 3) := by decide +kernel
theorem dX1_goThrough_35 : decode cX1_goThrough 35 = .ok (.lstore 8, 2) := by decide +kernel
theorem dX1_goThrough_37 : decode cX1_goThrough 37 = .ok (.lload 5, 2) := by decide +kernel
theorem dX1_goThrough_39 : decode cX1_goThrough 39 = .ok (.ldc2_w 70, 3) := by decide +kernel
theorem dX1_goThrough_42 : decode cX1_goThrough 42 = .ok (.lcmp, 1) := by decide +kernel
theorem dX1_goThrough_43 : decode cX1_goThrough 43 = .ok (.ifCond .ne 7, 3) := by decide +kernel
theorem dX1_goThrough_46 : decode cX1_goThrough 46 = .ok (.lload_n 3, 1) := by decide +kernel
theorem dX1_goThrough_47 : decode cX1_goThrough 47 = .ok (.goto 20, 3) := by decide +kernel
theorem dX1_goThrough_50 : decode cX1_goThrough 50 = .ok (.lload_n 3, 1) := by decide +kernel
theorem dX1_goThrough_51 : decode cX1_goThrough 51 = .ok (.lload 5, 2) := by decide +kernel
theorem dX1_goThrough_53 : decode cX1_goThrough 53 = .ok (.aload_n 1, 1) := by decide +kernel
theorem dX1_goThrough_54 : decode cX1_goThrough 54 = .ok (.getfield 58, 3) := by decide +kernel
theorem dX1_goThrough_57 : decode cX1_goThrough 57 = .ok (.iload_n 2, 1) := by decide +kernel
theorem dX1_goThrough_58 : decode cX1_goThrough 58 = .ok (.laload, 1) := by decide +kernel
theorem dX1_goThrough_59 : decode cX1_goThrough 59 = .ok (.lconst 1, 1) := by decide +kernel
theorem dX1_goThrough_60 : decode cX1_goThrough 60 = .ok (.lsub, 1) := by decide +kernel
theorem dX1_goThrough_61 : decode cX1_goThrough 61 = .ok (.invokestatic 100, 3) := by decide +kernel
theorem dX1_goThrough_64 : decode cX1_goThrough 64 = .ok (.invokestatic 94, 3) := by decide +kernel
theorem dX1_goThrough_67 : decode cX1_goThrough 67 = .ok (.lstore 10, 2) := by decide +kernel
theorem dX1_goThrough_69 : decode cX1_goThrough 69 = .ok (.aload_n 0, 1) := by decide +kernel
theorem dX1_goThrough_70 : decode cX1_goThrough 70 = .ok (.getfield 22, 3) := by decide +kernel
theorem dX1_goThrough_73 : decode cX1_goThrough 73 = .ok (.iload_n 2, 1) := by decide +kernel
theorem dX1_goThrough_74 : decode cX1_goThrough 74 = .ok (.lload 8, 2) := by decide +kernel
theorem dX1_goThrough_76 : decode cX1_goThrough 76 = .ok (.aload_n 0, 1) := by decide +kernel
theorem dX1_goThrough_77 : decode cX1_goThrough 77 = .ok (.getfield 22, 3) := by decide +kernel
theorem dX1_goThrough_80 : decode cX1_goThrough 80 = .ok (.iload 7, 2) := by decide +kernel
theorem dX1_goThrough_82 : decode cX1_goThrough 82 = .ok (.laload, 1) := by decide +kernel
theorem dX1_goThrough_83 : decode cX1_goThrough 83 = .ok (.invokestatic 94, 3) := by decide +kernel
theorem dX1_goThrough_86 : decode cX1_goThrough 86 = .ok (.lastore, 1) := by decide +kernel
theorem dX1_goThrough_87 : decode cX1_goThrough 87 = .ok (.aload_n 0, 1) := by decide +kernel
theorem dX1_goThrough_88 : decode cX1_goThrough 88 = .ok (.getfield 25, 3) := by decide +kernel
theorem dX1_goThrough_91 : decode cX1_goThrough 91 = .ok (.iload_n 2, 1) := by decide +kernel
theorem dX1_goThrough_92 : decode cX1_goThrough 92 = .ok (.lload 8, 2) := by decide +kernel
theorem dX1_goThrough_94 : decode cX1_goThrough 94 = .ok (.aload_n 0, 1) := by decide +kernel
theorem dX1_goThrough_95 : decode cX1_goThrough 95 = .ok (.getfield 25, 3) := by decide +kernel
theorem dX1_goThrough_98 : decode cX1_goThrough 98 = .ok (.iload 7, 2) := by decide +kernel
theorem dX1_goThrough_100 : decode cX1_goThrough 100 = .ok (.laload, 1) := by decide +kernel
theorem dX1_goThrough_101 : decode cX1_goThrough 101 = .ok (.invokestatic 94, 3) := by decide +kernel
theorem dX1_goThrough_104 : decode cX1_goThrough 104 = .ok (.lload 10, 2) := by decide +kernel
theorem dX1_goThrough_106 : decode cX1_goThrough 106 = .ok (.aload_n 0, 1) := by decide +kernel
theorem dX1_goThrough_107 : decode cX1_goThrough 107 = .ok (.getfield 25, 3) := by decide +kernel
theorem dX1_goThrough_110 : decode cX1_goThrough 110 = .ok (.iload_n 2, 1) := by decide +kernel
theorem dX1_goThrough_111 : decode cX1_goThrough 111 = .ok (.iconst 1, 1) := by decide +kernel
theorem dX1_goThrough_112 : decode cX1_goThrough 112 = .ok (.iadd, 1) := by decide +kernel
theorem dX1_goThrough_113 : decode cX1_goThrough 113 = .ok (.laload, 1) := by decide +kernel
theorem dX1_goThrough_114 : decode cX1_goThrough 114 = .ok (.invokestatic 94, 3) := by decide +kernel
theorem dX1_goThrough_117 : decode cX1_goThrough 117 = .ok (.invokestatic 97, 3) := by decide +kernel
theorem dX1_goThrough_120 : decode cX1_goThrough 120 = .ok (.lastore, 1) := by decide +kernel
theorem dX1_goThrough_121 : decode cX1_goThrough 121 = .ok (.return_, 1) := by decide +kernel
theorem dX1_plus_0 : decode cX1_plus 0 = .ok (.lload_n 0, 1) := by decide +kernel
theorem dX1_plus_1 : decode cX1_plus 1 = .ok (.ldc2_w 70, 3) := by decide +kernel
theorem dX1_plus_4 : decode cX1_plus 4 = .ok (.lcmp, 1) := by decide +kernel
theorem dX1_plus_5 : decode cX1_plus 5 = .ok (.ifCond .eq 11, 3) := by decide +kernel
theorem dX1_plus_8 : decode cX1_plus 8 = .ok (.lload_n 2, 1) := by decide +kernel
theorem dX1_plus_9 : decode cX1_plus 9 = .ok (.ldc2_w 70, 3) := by decide +kernel
theorem dX1_plus_12 : decode cX1_plus 12 = .ok (.lcmp, 1) := by decide +kernel
theorem dX1_plus_13 : decode cX1_plus 13 = .ok (.ifCond .ne 7, 3) := by decide +kernel
theorem dX1_plus_16 : decode cX1_plus 16 = .ok (.ldc2_w 70, 3) := by decide +kernel
theorem dX1_plus_19 : decode cX1_plus 19 = .ok (.lreturn, 1) := by decide +kernel
theorem dX1_plus_20 : decode cX1_plus 20 = .ok (.lload_n 0, 1) := by decide +kernel
theorem dX1_plus_21 : decode cX1_plus 21 = .ok (.ldc2_w 103, 3) := by decide +kernel
theorem dX1_plus_24 : decode cX1_plus 24 = .ok (.lcmp, 1) := by decide +kernel
theorem dX1_plus_25 : decode cX1_plus 25 = .ok (.ifCond .eq 19, 3) := by decide +kernel
theorem dX1_plus_28 : decode cX1_plus 28 = .ok (.lload_n 2, 1) := by decide +kernel
theorem dX1_plus_29 : decode cX1_plus 29 = .ok (.ldc2_w 103, 3) := by decide +kernel
theorem dX1_plus_32 : decode cX1_plus 32 = .ok (.lcmp, 1) := by decide +kernel
theorem dX1_plus_33 : decode cX1_plus 33 = .ok (.ifCond .eq 11, 3) := by decide +kernel
theorem dX1_plus_36 : decode cX1_plus 36 = .ok (.lload_n 0, 1) := by decide +kernel
theorem dX1_plus_37 : decode cX1_plus 37 = .ok (.lload_n 2, 1) := by decide +kernel
theorem dX1_plus_38 : decode cX1_plus 38 = .ok (.ladd, 1) := by decide +kernel
theorem dX1_plus_39 : decode cX1_plus 39 = .ok (.lconst 0, 1) := by decide +kernel
theorem dX1_plus_40 : decode cX1_plus 40 = .ok (.lcmp, 1) := by decide +kernel
theorem dX1_plus_41 : decode cX1_plus 41 = .ok (.ifCond .ge 7, 3) := by decide +kernel
theorem dX1_plus_44 : decode cX1_plus 44 = .ok (.ldc2_w 103, 3) := by decide +kernel
theorem dX1_plus_47 : decode cX1_plus 47 = .ok (.lreturn, 1) := by decide +kernel
theorem dX1_plus_48 : decode cX1_plus 48 = .ok (.lload_n 0, 1) := by decide +kernel
theorem dX1_plus_49 : decode cX1_plus 49 = .ok (.lload_n 2, 1) := by decide +kernel
theorem dX1_plus_50 : decode cX1_plus 50 = .ok (.ladd, 1) := by decide +kernel
theorem dX1_plus_51 : decode cX1_plus 51 = .ok (.lreturn, 1) := by decide +kernel
theorem dX1_repeated_0 : decode cX1_repeated 0 = .ok (.lload_n 0, 1) := by decide +kernel
theorem dX1_repeated_1 : decode cX1_repeated 1 = .ok (.ldc2_w 70, 3) := by decide +kernel
theorem dX1_repeated_4 : decode cX1_repeated 4 = .ok (.lcmp, 1) := by decide +kernel
theorem dX1_repeated_5 : decode cX1_repeated 5 = .ok (.ifCond .ne 7, 3) := by decide +kernel
theorem dX1_repeated_8 : decode cX1_repeated 8 = .ok (.ldc2_w 70, 3) := by decide +kernel
theorem dX1_repeated_11 : decode cX1_repeated 11 = .ok (.lreturn, 1) := by decide +kernel
theorem dX1_repeated_12 : decode cX1_repeated 12 = .ok (.lload_n 0, 1) := by decide +kernel
theorem dX1_repeated_13 : decode cX1_repeated 13 = .ok (.lconst 0, 1) := by decide +kernel
theorem dX1_repeated_14 : decode cX1_repeated 14 = .ok (.lcmp, 1) := by decide +kernel
theorem dX1_repeated_15 : decode cX1_repeated 15 = .ok (.ifCond .eq 9, 3) := by decide +kernel
theorem dX1_repeated_18 : decode cX1_repeated 18 = .ok (.lload_n 2, 1) := by decide +kernel
theorem dX1_repeated_19 : decode cX1_repeated 19 = .ok (.lconst 0, 1) := by decide +kernel
theorem dX1_repeated_20 : decode cX1_repeated 20 = .ok (.lcmp, 1) := by decide +kernel
theorem dX1_repeated_21 : decode cX1_repeated 21 = .ok (.ifCond .ne 5, 3) := by decide +kernel
theorem dX1_repeated_24 : decode cX1_repeated 24 = .ok (.lconst 0, 1) := by decide +kernel
theorem dX1_repeated_25 : decode cX1_repeated 25 = .ok (.lreturn, 1) := by decide +kernel
theorem dX1_repeated_26 : decode cX1_repeated 26 = .ok (.lload_n 0, 1) := by decide +kernel
theorem dX1_repeated_27 : decode cX1_repeated 27 = .ok (.ldc2_w 103, 3) := by decide +kernel
theorem dX1_repeated_30 : decode cX1_repeated 30 = .ok (.lcmp, 1) := by decide +kernel
theorem dX1_repeated_31 : decode cX1_repeated 31 = .ok (.ifCond .eq 13, 3) := by decide +kernel
theorem dX1_repeated_34 : decode cX1_repeated 34 = .ok (.lload_n 2, 1) := by decide +kernel
theorem dX1_repeated_35 : decode cX1_repeated 35 = .ok (.ldc2_w 107, 3) := by decide +kernel
theorem dX1_repeated_38 : decode cX1_repeated 38 = .ok (.lload_n 0, 1) := by decide +kernel
theorem dX1_repeated_39 : decode cX1_repeated 39 = .ok (.ldiv, 1) := by decide +kernel
theorem dX1_repeated_40 : decode cX1_repeated 40 = .ok (.lcmp, 1) := by decide +kernel
theorem dX1_repeated_41 : decode cX1_repeated 41 = .ok (.ifCond .le 9, 3) := by decide +kernel
theorem dX1_repeated_44 : decode cX1_repeated 44 = .ok (.ldc2_w 103, 3) := by decide +kernel
theorem dX1_repeated_47 : decode cX1_repeated 47 = .ok (.goto 6, 3) := by decide +kernel
theorem dX1_repeated_50 : decode cX1_repeated 50 = .ok (.lload_n 0, 1) := by decide +kernel
theorem dX1_repeated_51 : decode cX1_repeated 51 = .ok (.lload_n 2, 1) := by decide +kernel
theorem dX1_repeated_52 : decode cX1_repeated 52 = .ok (.lmul, 1) := by decide +kernel
theorem dX1_repeated_53 : decode cX1_repeated 53 = .ok (.lreturn, 1) := by decide +kernel
theorem dX1_greater_0 : decode cX1_greater 0 = .ok (.lload_n 0, 1) := by decide +kernel
theorem dX1_greater_1 : decode cX1_greater 1 = .ok (.ldc2_w 103, 3) := by decide +kernel
theorem dX1_greater_4 : decode cX1_greater 4 = .ok (.lcmp, 1) := by decide +kernel
theorem dX1_greater_5 : decode cX1_greater 5 = .ok (.ifCond .eq 11, 3) := by decide +kernel
theorem dX1_greater_8 : decode cX1_greater 8 = .ok (.lload_n 2, 1) := by decide +kernel
theorem dX1_greater_9 : decode cX1_greater 9 = .ok (.ldc2_w 103, 3) := by decide +kernel
theorem dX1_greater_12 : decode cX1_greater 12 = .ok (.lcmp, 1) := by decide +kernel
theorem dX1_greater_13 : decode cX1_greater 13 = .ok (.ifCond .ne 7, 3) := by decide +kernel
theorem dX1_greater_16 : decode cX1_greater 16 = .ok (.ldc2_w 103, 3) := by decide +kernel
theorem dX1_greater_19 : decode cX1_greater 19 = .ok (.lreturn, 1) := by decide +kernel
theorem dX1_greater_20 : decode cX1_greater 20 = .ok (.lload_n 0, 1) := by decide +kernel
theorem dX1_greater_21 : decode cX1_greater 21 = .ok (.lload_n 2, 1) := by decide +kernel
theorem dX1_greater_22 : decode cX1_greater 22 = .ok (.lcmp, 1) := by decide +kernel
theorem dX1_greater_23 : decode cX1_greater 23 = .ok (.ifCond .le 7, 3) := by decide +kernel
theorem dX1_greater_26 : decode cX1_greater 26 = .ok (.lload_n 0, 1) := by decide +kernel
theorem dX1_greater_27 : decode cX1_greater 27 = .ok (.goto 4, 3) := by decide +kernel
theorem dX1_greater_30 : decode cX1_greater 30 = .ok (.lload_n 2, 1) := by decide +kernel
theorem dX1_greater_31 : decode cX1_greater 31 = .ok (.lreturn, 1) := by decide +kernel
theorem dX2_init_0 : decode cX2_init 0 = .ok (.aload_n 0, 1) := by decide +kernel
theorem dX2_init_1 : decode cX2_init 1 = .ok (.invokespecial 3, 3) := by decide +kernel
theorem dX2_init_4 : decode cX2_init 4 = .ok (.aload_n 0, 1) := by decide +kernel
theorem dX2_init_5 : decode cX2_init 5 = .ok (.aload_n 1, 1) := by decide +kernel
theorem dX2_init_6 : decode cX2_init 6 = .ok (.putfield 9, 3) := by decide +kernel
theorem dX2_init_9 : decode cX2_init 9 = .ok (.aload_n 0, 1) := by decide +kernel
theorem dX2_init_10 : decode cX2_init 10 = .ok (.bipush 120, 2) := by decide +kernel
theorem dX2_init_12 : decode cX2_init 12 = .ok (.newarray .int, 2) := by decide +kernel
theorem dX2_init_14 : decode cX2_init 14 = .ok (.putfield 15, 3) := by decide +kernel
theorem dX2_init_17 : decode cX2_init 17 = .ok (.aload_n 0, 1) := by decide +kernel
theorem dX2_init_18 : decode cX2_init 18 = .ok (.bipush 120, 2) := by decide +kernel
theorem dX2_init_20 : decode cX2_init 20 = .ok (.newarray .int, 2) := by decide +kernel
theorem dX2_init_22 : decode cX2_init 22 = .ok (.putfield 19, 3) := by decide +kernel
theorem dX2_init_25 : decode cX2_init 25 = .ok (.aload_n 0, 1) := by decide +kernel
theorem dX2_init_26 : decode cX2_init 26 = .ok (.bipush 120, 2) := by decide +kernel
theorem dX2_init_28 : decode cX2_init 28 = .ok (.newarray .int, 2) := by decide +kernel
theorem dX2_init_30 : decode cX2_init 30 = .ok (.putfield 22, 3) := by decide +kernel
theorem dX2_init_33 : decode cX2_init 33 = .ok (.return_, 1) := by decide +kernel
theorem dX2_refresh_0 : decode cX2_refresh 0 = .ok (.iconst 0, 1) := by decide +kernel
theorem dX2_refresh_1 : decode cX2_refresh 1 = .ok (.istore_n 1, 1) := by decide +kernel
theorem dX2_refresh_2 : decode cX2_refresh 2 = .ok (.iload_n 1, 1) := by decide +kernel
theorem dX2_refresh_3 : decode cX2_refresh 3 = .ok (.aload_n 0, 1) := by decide +kernel
theorem dX2_refresh_4 : decode cX2_refresh 4 = .ok (.getfield 9, 3) := by decide +kernel
theorem dX2_refresh_7 : decode cX2_refresh 7 = .ok (.getfield 25, 3) := by decide +kernel
theorem dX2_refresh_10 : decode cX2_refresh 10 = .ok (.if_icmp .ge 53, 3) := by decide +kernel
theorem dX2_refresh_13 : decode cX2_refresh 13 = .ok (.aload_n 0, 1) := by decide +kernel
theorem dX2_refresh_14 : decode cX2_refresh 14 = .ok (.getfield 9, 3) := by decide +kernel
theorem dX2_refresh_17 : decode cX2_refresh 17 = .ok (.iload_n 1, 1) := by decide +kernel
theorem dX2_refresh_18 : decode cX2_refresh 18 = .ok (.i2l, 1) := by decide +kernel
theorem dX2_refresh_19 : decode cX2_refresh 19 = .ok (.invokevirtual 31, 3) := by decide +kernel
theorem dX2_refresh_22 : decode cX2_refresh 22 = .ok (.astore_n 2, 1) := by decide +kernel
theorem dX2_refresh_23 : decode cX2_refresh 23 = .ok (.aload_n 2, 1) := by decide +kernel
theorem dX2_refresh_24 : decode cX2_refresh 24 = .ok (.ifnull 33, 3) := by decide +kernel
theorem dX2_refresh_27 : decode cX2_refresh 27 = .ok (.aload_n 2, 1) := by decide +kernel
theorem dX2_refresh_28 : decode cX2_refresh 28 = .ok (.getfield 35, 3) := by decide +kernel
theorem dX2_refresh_31 : decode cX2_refresh 31 = .ok (.aload_n 0, 1) := by decide +kernel
theorem dX2_refresh_32 : decode cX2_refresh 32 = .ok (.getfield 9, 3) := by decide +kernel
theorem dX2_refresh_35 : decode cX2_refresh 35 = .ok (.getfield 25, 3) := by decide +kernel
theorem dX2_refresh_38 : decode cX2_refresh 38 = .ok (.if_icmp .eq 19, 3) := by decide +kernel
theorem dX2_refresh_41 : decode cX2_refresh 41 = .ok (.aload_n 0, 1) := by decide +kernel
theorem dX2_refresh_42 : decode cX2_refresh 42 = .ok (.aload_n 2, 1) := by decide +kernel
theorem dX2_refresh_43 : decode cX2_refresh 43 = .ok (.invokevirtual 40, 3) := by decide +kernel
theorem dX2_refresh_46 : decode cX2_refresh 46 = .ok (.aload_n 2, 1) := by decide +kernel
theorem dX2_refresh_47 : decode cX2_refresh 47 = .ok (.aload_n 0, 1) := by decide +kernel
theorem dX2_refresh_48 : decode cX2_refresh 48 = .ok (.getfield 9, 3) := by decide +kernel
theorem dX2_refresh_51 : decode cX2_refresh 51 = .ok (.getfield 25, 3) := by decide +kernel
theorem dX2_refresh_54 : decode cX2_refresh 54 = .ok (.putfield 35, 3) := by decide +kernel
theorem dX2_refresh_57 : decode cX2_refresh 57 = .ok (.iinc 1 1, 3) := by decide +kernel
theorem dX2_refresh_60 : decode cX2_refresh 60 = .ok (.goto (-58), 3) := by decide +kernel
theorem dX2_refresh_63 : decode cX2_refresh 63 = .ok (.return_, 1) := by decide +kernel
theorem dX2_inspect_0 : decode cX2_inspect 0 = .ok (.aload_n 1, 1) := by decide +kernel
theorem dX2_inspect_1 : decode cX2_inspect 1 = .ok (.iconst 0, 1) := by decide +kernel
theorem dX2_inspect_2 : decode cX2_inspect 2 = .ok (.iconst (-1), 1) := by decide +kernel
theorem dX2_inspect_3 : decode cX2_inspect 3 = .ok (.invokevirtual 44, 3) := by decide +kernel
theorem dX2_inspect_6 : decode cX2_inspect 6 = .ok (.aload_n 0, 1) := by decide +kernel
theorem dX2_inspect_7 : decode cX2_inspect 7 = .ok (.aload_n 1, 1) := by decide +kernel
theorem dX2_inspect_8 : decode cX2_inspect 8 = .ok (.invokevirtual 48, 3) := by decide +kernel
theorem dX2_inspect_11 : decode cX2_inspect 11 = .ok (.aload_n 0, 1) := by decide +kernel
theorem dX2_inspect_12 : decode cX2_inspect 12 = .ok (.aload_n 1, 1) := by decide +kernel
theorem dX2_inspect_13 : decode cX2_inspect 13 = .ok (.invokevirtual 51, 3) := by decide +kernel
theorem dX2_inspect_16 : decode cX2_inspect 16 = .ok (.aload_n 1, 1) := by decide +kernel
theorem dX2_inspect_17 : decode cX2_inspect 17 = .ok (.invokevirtual 54, 3) := by decide +kernel
theorem dX2_inspect_20 : decode cX2_inspect 20 = .ok (.ifCond .eq 8, 3) := by decide +kernel
theorem dX2_inspect_23 : decode cX2_inspect 23 = .ok (.aload_n 0, 1) := by decide +kernel
theorem dX2_inspect_24 : decode cX2_inspect 24 = .ok (.aload_n 1, 1) := by decide +kernel
theorem dX2_inspect_25 : decode cX2_inspect 25 = .ok (.invokevirtual 58, 3) := by decide +kernel
theorem dX2_inspect_28 : decode cX2_inspect 28 = .ok (.return_, 1) := by decide +kernel
theorem dX2_pairLoops_0 : decode cX2_pairLoops 0 = .ok (.iconst 0, 1) := by decide +kernel
theorem dX2_pairLoops_1 : decode cX2_pairLoops 1 = .ok (.istore_n 2, 1) := by decide +kernel
theorem dX2_pairLoops_2 : decode cX2_pairLoops 2 = .ok (.iconst 0, 1) := by decide +kernel
theorem dX2_pairLoops_3 : decode cX2_pairLoops 3 = .ok (.istore_n 3, 1) := by decide +kernel
theorem dX2_pairLoops_4 : decode cX2_pairLoops 4 = .ok (.iload_n 3, 1) := by decide +kernel
theorem dX2_pairLoops_5 : decode cX2_pairLoops 5 = .ok (.aload_n 1, 1) := by decide +kernel
theorem dX2_pairLoops_6 : decode cX2_pairLoops 6 = .ok (.getfield 61, 3) := by decide +kernel
theorem dX2_pairLoops_9 : decode cX2_pairLoops 9 = .ok (.if_icmp .ge 111, 3) := by decide +kernel
theorem dX2_pairLoops_12 : decode cX2_pairLoops 12 = .ok (.aload_n 1, 1) := by decide +kernel
theorem dX2_pairLoops_13 : decode cX2_pairLoops 13 = .ok (.getfield 64, 3) := by decide +kernel
theorem dX2_pairLoops_16 : decode cX2_pairLoops 16 = .ok (.iload_n 3, 1) := by decide +kernel
theorem dX2_pairLoops_17 : decode cX2_pairLoops 17 = .ok (.iconst (-1), 1) := by decide +kernel
theorem dX2_pairLoops_18 : decode cX2_pairLoops 18 = .ok (.iastore, 1) := by decide +kernel
theorem dX2_pairLoops_19 : decode cX2_pairLoops 19 = .ok (.aload_n 0, 1) := by decide +kernel
theorem dX2_pairLoops_20 : decode cX2_pairLoops 20 = .ok (.getfield 19, 3) := by decide +kernel
theorem dX2_pairLoops_23 : decode cX2_pairLoops 23 = .ok (.iload_n 3, 1) := by decide +kernel
theorem dX2_pairLoops_24 : decode cX2_pairLoops 24 = .ok (.iload_n 2, 1) := by decide +kernel
theorem dX2_pairLoops_25 : decode cX2_pairLoops 25 = .ok (.iastore, 1) := by decide +kernel
theorem dX2_pairLoops_26 : decode cX2_pairLoops 26 = .ok (.aload_n 0, 1) := by decide +kernel
theorem dX2_pairLoops_27 : decode cX2_pairLoops 27 = .ok (.getfield 15, 3) := by decide +kernel
theorem dX2_pairLoops_30 : decode cX2_pairLoops 30 = .ok (.iload_n 3, 1) := by decide +kernel
theorem dX2_pairLoops_31 : decode cX2_pairLoops 31 = .ok (.iload_n 2, 1) := by decide +kernel
theorem dX2_pairLoops_32 : decode cX2_pairLoops 32 = .ok (.ifCond .le 14, 3) := by decide +kernel
theorem dX2_pairLoops_35 : decode cX2_pairLoops 35 = .ok (.aload_n 0, 1) := by decide +kernel
theorem dX2_pairLoops_36 : decode cX2_pairLoops 36 = .ok (.getfield 22, 3) := by decide +kernel
theorem dX2_pairLoops_39 : decode cX2_pairLoops 39 = .ok (.iload_n 2, 1) := by decide +kernel
theorem dX2_pairLoops_40 : decode cX2_pairLoops 40 = .ok (.iconst 1, 1) := by decide +kernel
theorem dX2_pairLoops_41 : decode cX2_pairLoops 41 = .ok (.isub, 1) := by decide +kernel
theorem dX2_pairLoops_42 : decode cX2_pairLoops 42 = .ok (.iaload, 1) := by decide +kernel
theorem dX2_pairLoops_43 : decode cX2_pairLoops 43 = .ok (.goto 4, 3) := by decide +kernel
theorem dX2_pairLoops_46 : decode cX2_pairLoops 46 = .ok (.iconst (-1), 1) := by decide +kernel
theorem dX2_pairLoops_47 : decode cX2_pairLoops 47 = .ok (.iastore, 1) := by decide +kernel
theorem dX2_pairLoops_48 : decode cX2_pairLoops 48 = .ok (.aload_n 1, 1) := by decide +kernel
theorem dX2_pairLoops_49 : decode cX2_pairLoops 49 = .ok (.getfield 67, 3) := by decide +kernel
theorem dX2_pairLoops_52 : decode cX2_pairLoops 52 = .ok (.iload_n 3, 1) := by decide +kernel
theorem dX2_pairLoops_53 : decode cX2_pairLoops 53 = .ok (.iaload, 1) := by decide +kernel
theorem dX2_pairLoops_54 : decode cX2_pairLoops 54 = .ok (.bipush 14, 2) := by decide +kernel
theorem dX2_pairLoops_56 : decode cX2_pairLoops 56 = .ok (.if_icmp .ne 16, 3) := by decide +kernel
theorem dX2_pairLoops_59 : decode cX2_pairLoops 59 = .ok (.aload_n 0, 1) := by decide +kernel
theorem dX2_pairLoops_60 : decode cX2_pairLoops 60 = .ok (.getfield 22, 3) := by decide +kernel
theorem dX2_pairLoops_63 : decode cX2_pairLoops 63 = .ok (.iload_n 2, 1) := by decide +kernel
theorem dX2_pairLoops_64 : decode cX2_pairLoops 64 = .ok (.iload_n 3, 1) := by decide +kernel
theorem dX2_pairLoops_65 : decode cX2_pairLoops 65 = .ok (.iastore, 1) := by decide +kernel
theorem dX2_pairLoops_66 : decode cX2_pairLoops 66 = .ok (.iinc 2 1, 3) := by decide +kernel
theorem dX2_pairLoops_69 : decode cX2_pairLoops 69 = .ok (.goto 45, 3) := by decide +kernel
theorem dX2_pairLoops_72 : decode cX2_pairLoops 72 = .ok (.aload_n 1, 1) := by decide +kernel
theorem dX2_pairLoops_73 : decode cX2_pairLoops 73 = .ok (.getfield 67, 3) := by decide +kernel
theorem dX2_pairLoops_76 : decode cX2_pairLoops 76 = .ok (.iload_n 3, 1) := by decide +kernel
theorem dX2_pairLoops_77 : decode cX2_pairLoops 77 = .ok (.iaload, 1) := by decide +kernel
theorem dX2_pairLoops_78 : decode cX2_pairLoops 78 = .ok (.bipush 15, 2) := by decide +kernel
theorem dX2_pairLoops_80 : decode cX2_pairLoops 80 = .ok (.if_icmp .ne 34, 3) := by decide +kernel
theorem dX2_pairLoops_83 : decode cX2_pairLoops 83 = .ok (.iload_n 2, 1) := by decide +kernel
theorem dX2_pairLoops_84 : decode cX2_pairLoops 84 = .ok (.ifCond .le 30, 3) := by decide +kernel
theorem dX2_pairLoops_87 : decode cX2_pairLoops 87 = .ok (.iinc 2 (-1), 3) := by decide +kernel
theorem dX2_pairLoops_90 : decode cX2_pairLoops 90 = .ok (.aload_n 1, 1) := by decide +kernel
theorem dX2_pairLoops_91 : decode cX2_pairLoops 91 = .ok (.getfield 64, 3) := by decide +kernel
theorem dX2_pairLoops_94 : decode cX2_pairLoops 94 = .ok (.iload_n 3, 1) := by decide +kernel
theorem dX2_pairLoops_95 : decode cX2_pairLoops 95 = .ok (.aload_n 0, 1) := by decide +kernel
theorem dX2_pairLoops_96 : decode cX2_pairLoops 96 = .ok (.getfield 22, 3) := by decide +kernel
theorem dX2_pairLoops_99 : decode cX2_pairLoops 99 = .ok (.iload_n 2, 1) := by decide +kernel
theorem dX2_pairLoops_100 : decode cX2_pairLoops 100 = .ok (.iaload, 1) := by decide +kernel
theorem dX2_pairLoops_101 : decode cX2_pairLoops 101 = .ok (.iastore, 1) := by decide +kernel
theorem dX2_pairLoops_102 : decode cX2_pairLoops 102 = .ok (.aload_n 1, 1) := by decide +kernel
theorem dX2_pairLoops_103 : decode cX2_pairLoops 103 = .ok (.getfield 64, 3) := by decide +kernel
theorem dX2_pairLoops_106 : decode cX2_pairLoops 106 = .ok (.aload_n 0, 1) := by decide +kernel
theorem dX2_pairLoops_107 : decode cX2_pairLoops 107 = .ok (.getfield 22, 3) := by decide +kernel
theorem dX2_pairLoops_110 : decode cX2_pairLoops 110 = .ok (.iload_n 2, 1) := by decide +kernel
theorem dX2_pairLoops_111 : decode cX2_pairLoops 111 = .ok (.iaload, 1) := by decide +kernel
theorem dX2_pairLoops_112 : decode cX2_pairLoops 112 = .ok (.iload_n 3, 1) := by decide +kernel
theorem dX2_pairLoops_113 : decode cX2_pairLoops 113 = .ok (.iastore, 1) := by decide +kernel
theorem dX2_pairLoops_114 : decode cX2_pairLoops 114 = .ok (.iinc 3 1, 3) := by decide +kernel
theorem dX2_pairLoops_117 : decode cX2_pairLoops 117 = .ok (.goto (-113), 3) := by decide +kernel
theorem dX2_pairLoops_120 : decode cX2_pairLoops 120 = .ok (.return_, 1) := by decide +kernel
theorem dX2_findFaultOfForm_0 : decode cX2_findFaultOfForm 0 = .ok (.iconst 0, 1) := by decide +kernel
theorem dX2_findFaultOfForm_1 : decode cX2_findFaultOfForm 1 = .ok (.istore_n 2, 1) := by decide +kernel
theorem dX2_findFaultOfForm_2 : decode cX2_findFaultOfForm 2 = .ok (.iload_n 2, 1) := by decide +kernel
theorem dX2_findFaultOfForm_3 : decode cX2_findFaultOfForm 3 = .ok (.aload_n 1, 1) := by decide +kernel
theorem dX2_findFaultOfForm_4 : decode cX2_findFaultOfForm 4 = .ok (.getfield 61, 3) := by decide +kernel
theorem dX2_findFaultOfForm_7 : decode cX2_findFaultOfForm 7 = .ok (.if_icmp .ge 27, 3) := by decide +kernel
theorem dX2_findFaultOfForm_10 : decode cX2_findFaultOfForm 10 = .ok (.aload_n 0, 1) := by decide +kernel
theorem dX2_findFaultOfForm_11 : decode cX2_findFaultOfForm 11 = .ok (.aload_n 1, 1) := by decide +kernel
theorem dX2_findFaultOfForm_12 : decode cX2_findFaultOfForm 12 = .ok (.iload_n 2, 1) := by decide +kernel
theorem dX2_findFaultOfForm_13 : decode cX2_findFaultOfForm 13 = .ok (.invokevirtual 70, 3) := by decide +kernel
theorem dX2_findFaultOfForm_16 : decode cX2_findFaultOfForm 16 = .ok (.istore_n 3, 1) := by decide +kernel
theorem dX2_findFaultOfForm_17 : decode cX2_findFaultOfForm 17 = .ok (.iload_n 3, 1) := by decide +kernel
theorem dX2_findFaultOfForm_18 : decode cX2_findFaultOfForm 18 = .ok (.ifCond .eq 10, 3) := by decide +kernel
theorem dX2_findFaultOfForm_21 : decode cX2_findFaultOfForm 21 = .ok (.aload_n 1, 1) := by decide +kernel
theorem dX2_findFaultOfForm_22 : decode cX2_findFaultOfForm 22 = .ok (.iload_n 3, 1) := by decide +kernel
theorem dX2_findFaultOfForm_23 : decode cX2_findFaultOfForm 23 = .ok (.iload_n 2, 1) := by decide +kernel
theorem dX2_findFaultOfForm_24 : decode cX2_findFaultOfForm 24 = .ok (.invokevirtual 44, 3) := by decide +kernel
theorem dX2_findFaultOfForm_27 : decode cX2_findFaultOfForm 27 = .ok (.return_, 1) := by decide +kernel
theorem dX2_findFaultOfForm_28 : decode cX2_findFaultOfForm 28 = .ok (.iinc 2 1, 3) := by decide +kernel
theorem dX2_findFaultOfForm_31 : decode cX2_findFaultOfForm 31 = .ok (.goto (-29), 3) := by decide +kernel
theorem dX2_findFaultOfForm_34 : decode cX2_findFaultOfForm 34 = .ok (.return_, 1) := by decide +kernel
theorem dX2_faultOfForm_0 : decode cX2_faultOfForm 0 = .ok (.aload_n 1, 1) := by decide +kernel
theorem dX2_faultOfForm_1 : decode cX2_faultOfForm 1 = .ok (.getfield 74, 3) := by decide +kernel
theorem dX2_faultOfForm_4 : decode cX2_faultOfForm 4 = .ok (.iload_n 2, 1) := by decide +kernel
theorem dX2_faultOfForm_5 : decode cX2_faultOfForm 5 = .ok (.laload, 1) := by decide +kernel
theorem dX2_faultOfForm_6 : decode cX2_faultOfForm 6 = .ok (.lstore_n 3, 1) := by decide +kernel
theorem dX2_faultOfForm_7 : decode cX2_faultOfForm 7 = .ok (.aload_n 0, 1) := by decide +kernel
theorem dX2_faultOfForm_8 : decode cX2_faultOfForm 8 = .ok (.aload_n 1, 1) := by decide +kernel
theorem dX2_faultOfForm_9 : decode cX2_faultOfForm 9 = .ok (.iload_n 2, 1) := by decide +kernel
theorem dX2_faultOfForm_10 : decode cX2_faultOfForm 10 = .ok (.lload_n 3, 1) := by decide +kernel
theorem dX2_faultOfForm_11 : decode cX2_faultOfForm 11 = .ok (.invokevirtual 78, 3) := by decide +kernel
theorem dX2_faultOfForm_14 : decode cX2_faultOfForm 14 = .ok (.ifCond .ne 5, 3) := by decide +kernel
theorem dX2_faultOfForm_17 : decode cX2_faultOfForm 17 = .ok (.iconst 1, 1) := by decide +kernel
theorem dX2_faultOfForm_18 : decode cX2_faultOfForm 18 = .ok (.ireturn, 1) := by decide +kernel
theorem dX2_faultOfForm_19 : decode cX2_faultOfForm 19 = .ok (.aload_n 1, 1) := by decide +kernel
theorem dX2_faultOfForm_20 : decode cX2_faultOfForm 20 = .ok (.getfield 67, 3) := by decide +kernel
theorem dX2_faultOfForm_23 : decode cX2_faultOfForm 23 = .ok (.iload_n 2, 1) := by decide +kernel
theorem dX2_faultOfForm_24 : decode cX2_faultOfForm 24 = .ok (.iaload, 1) := by decide +kernel
theorem dX2_faultOfForm_25 : decode cX2_faultOfForm 25 = .ok (.tableswitch 117 12 16 #[78, 78, 35, 62, 100], 35) := by decide +kernel
theorem dX2_faultOfForm_60 : decode cX2_faultOfForm 60 = .ok (.aload_n 1, 1) := by decide +kernel
theorem dX2_faultOfForm_61 : decode cX2_faultOfForm 61 = .ok (.getfield 64, 3) := by decide +kernel
theorem dX2_faultOfForm_64 : decode cX2_faultOfForm 64 = .ok (.iload_n 2, 1) := by decide +kernel
theorem dX2_faultOfForm_65 : decode cX2_faultOfForm 65 = .ok (.iaload, 1) := by decide +kernel
theorem dX2_faultOfForm_66 : decode cX2_faultOfForm 66 = .ok (.iconst (-1), 1) := by decide +kernel
theorem dX2_faultOfForm_67 : decode cX2_faultOfForm 67 = .ok (.if_icmp .eq 14, 3) := by decide +kernel
theorem dX2_faultOfForm_70 : decode cX2_faultOfForm 70 = .ok (.aload_n 0, 1) := by decide +kernel
theorem dX2_faultOfForm_71 : decode cX2_faultOfForm 71 = .ok (.getfield 19, 3) := by decide +kernel
theorem dX2_faultOfForm_74 : decode cX2_faultOfForm 74 = .ok (.iload_n 2, 1) := by decide +kernel
theorem dX2_faultOfForm_75 : decode cX2_faultOfForm 75 = .ok (.iaload, 1) := by decide +kernel
theorem dX2_faultOfForm_76 : decode cX2_faultOfForm 76 = .ok (.bipush 8, 2) := by decide +kernel
theorem dX2_faultOfForm_78 : decode cX2_faultOfForm 78 = .ok (.if_icmp .lt 7, 3) := by decide +kernel
theorem dX2_faultOfForm_81 : decode cX2_faultOfForm 81 = .ok (.iconst 2, 1) := by decide +kernel
theorem dX2_faultOfForm_82 : decode cX2_faultOfForm 82 = .ok (.goto 4, 3) := by decide +kernel
theorem dX2_faultOfForm_85 : decode cX2_faultOfForm 85 = .ok (.iconst 0, 1) := by decide +kernel
theorem dX2_faultOfForm_86 : decode cX2_faultOfForm 86 = .ok (.ireturn, 1) := by decide +kernel
theorem dX2_faultOfForm_87 : decode cX2_faultOfForm 87 = .ok (.aload_n 1, 1) := by decide +kernel
theorem dX2_faultOfForm_88 : decode cX2_faultOfForm 88 = .ok (.getfield 64, 3) := by decide +kernel
theorem dX2_faultOfForm_91 : decode cX2_faultOfForm 91 = .ok (.iload_n 2, 1) := by decide +kernel
theorem dX2_faultOfForm_92 : decode cX2_faultOfForm 92 = .ok (.iaload, 1) := by decide +kernel
theorem dX2_faultOfForm_93 : decode cX2_faultOfForm 93 = .ok (.iconst (-1), 1) := by decide +kernel
theorem dX2_faultOfForm_94 : decode cX2_faultOfForm 94 = .ok (.if_icmp .ne 7, 3) := by decide +kernel
theorem dX2_faultOfForm_97 : decode cX2_faultOfForm 97 = .ok (.iconst 2, 1) := by decide +kernel
theorem dX2_faultOfForm_98 : decode cX2_faultOfForm 98 = .ok (.goto 4, 3) := by decide +kernel
theorem dX2_faultOfForm_101 : decode cX2_faultOfForm 101 = .ok (.iconst 0, 1) := by decide +kernel
theorem dX2_faultOfForm_102 : decode cX2_faultOfForm 102 = .ok (.ireturn, 1) := by decide +kernel
theorem dX2_faultOfForm_103 : decode cX2_faultOfForm 103 = .ok (.aload_n 0, 1) := by decide +kernel
theorem dX2_faultOfForm_104 : decode cX2_faultOfForm 104 = .ok (.getfield 15, 3) := by decide +kernel
theorem dX2_faultOfForm_107 : decode cX2_faultOfForm 107 = .ok (.lload_n 3, 1) := by decide +kernel
theorem dX2_faultOfForm_108 : decode cX2_faultOfForm 108 = .ok (.l2i, 1) := by decide +kernel
theorem dX2_faultOfForm_109 : decode cX2_faultOfForm 109 = .ok (.iaload, 1) := by decide +kernel
theorem dX2_faultOfForm_110 : decode cX2_faultOfForm 110 = .ok (.aload_n 0, 1) := by decide +kernel
theorem dX2_faultOfForm_111 : decode cX2_faultOfForm 111 = .ok (.getfield 15, 3) := by decide +kernel
theorem dX2_faultOfForm_114 : decode cX2_faultOfForm 114 = .ok (.iload_n 2, 1) := by decide +kernel
theorem dX2_faultOfForm_115 : decode cX2_faultOfForm 115 = .ok (.iaload, 1) := by decide +kernel
theorem dX2_faultOfForm_116 : decode cX2_faultOfForm 116 = .ok (.if_icmp .eq 7, 3) := by decide +kernel
theorem dX2_faultOfForm_119 : decode cX2_faultOfForm 119 = .ok (.iconst 3, 1) := by decide +kernel
theorem dX2_faultOfForm_120 : decode cX2_faultOfForm 120 = .ok (.goto 4, 3) := by decide +kernel
theorem dX2_faultOfForm_123 : decode cX2_faultOfForm 123 = .ok (.iconst 0, 1) := by decide +kernel
theorem dX2_faultOfForm_124 : decode cX2_faultOfForm 124 = .ok (.ireturn, 1) := by decide +kernel
theorem dX2_faultOfForm_125 : decode cX2_faultOfForm 125 = .ok (.aload_n 0, 1) := by decide +kernel
theorem dX2_faultOfForm_126 : decode cX2_faultOfForm 126 = .ok (.getfield 9, 3) := by decide +kernel
theorem dX2_faultOfForm_129 : decode cX2_faultOfForm 129 = .ok (.lload_n 3, 1) := by decide +kernel
theorem dX2_faultOfForm_130 : decode cX2_faultOfForm 130 = .ok (.invokevirtual 31, 3) := by decide +kernel
theorem dX2_faultOfForm_133 : decode cX2_faultOfForm 133 = .ok (.ifnonnull 7, 3) := by decide +kernel
theorem dX2_faultOfForm_136 : decode cX2_faultOfForm 136 = .ok (.iconst 4, 1) := by decide +kernel
theorem dX2_faultOfForm_137 : decode cX2_faultOfForm 137 = .ok (.goto 4, 3) := by decide +kernel
theorem dX2_faultOfForm_140 : decode cX2_faultOfForm 140 = .ok (.iconst 0, 1) := by decide +kernel
theorem dX2_faultOfForm_141 : decode cX2_faultOfForm 141 = .ok (.ireturn, 1) := by decide +kernel
theorem dX2_faultOfForm_142 : decode cX2_faultOfForm 142 = .ok (.iconst 0, 1) := by decide +kernel
theorem dX2_faultOfForm_143 : decode cX2_faultOfForm 143 = .ok (.ireturn, 1) := by decide +kernel
theorem dX2_hasForm_0 : decode cX2_hasForm 0 = .ok (.aload_n 1, 1) := by decide +kernel
theorem dX2_hasForm_1 : decode cX2_hasForm 1 = .ok (.getfield 67, 3) := by decide +kernel
theorem dX2_hasForm_4 : decode cX2_hasForm 4 = .ok (.iload_n 2, 1) := by decide +kernel
theorem dX2_hasForm_5 : decode cX2_hasForm 5 = .ok (.iaload, 1) := by decide +kernel
theorem dX2_hasForm_6 : decode cX2_hasForm 6 = .ok (.tableswitch 167 0 16 #[82, 167, 167, 167, 167, 167, 167, 167, 167, 84, 84, 106, 126, 126, 147, 167, 82], 82) := by decide +kernel
theorem dX2_hasForm_88 : decode cX2_hasForm 88 = .ok (.iconst 1, 1) := by decide +kernel
theorem dX2_hasForm_89 : decode cX2_hasForm 89 = .ok (.ireturn, 1) := by decide +kernel
theorem dX2_hasForm_90 : decode cX2_hasForm 90 = .ok (.lload_n 3, 1) := by decide +kernel
theorem dX2_hasForm_91 : decode cX2_hasForm 91 = .ok (.lconst 0, 1) := by decide +kernel
theorem dX2_hasForm_92 : decode cX2_hasForm 92 = .ok (.lcmp, 1) := by decide +kernel
theorem dX2_hasForm_93 : decode cX2_hasForm 93 = .ok (.ifCond .lt 17, 3) := by decide +kernel
theorem dX2_hasForm_96 : decode cX2_hasForm 96 = .ok (.lload_n 3, 1) := by decide +kernel
theorem dX2_hasForm_97 : decode cX2_hasForm 97 = .ok (.aload_n 1, 1) := by decide +kernel
theorem dX2_hasForm_98 : decode cX2_hasForm 98 = .ok (.getfield 82, 3) := by decide +kernel
theorem dX2_hasForm_101 : decode cX2_hasForm 101 = .ok (.i2l, 1) := by decide +kernel
theorem dX2_hasForm_102 : decode cX2_hasForm 102 = .ok (.lcmp, 1) := by decide +kernel
theorem dX2_hasForm_103 : decode cX2_hasForm 103 = .ok (.ifCond .ge 7, 3) := by decide +kernel
theorem dX2_hasForm_106 : decode cX2_hasForm 106 = .ok (.iconst 1, 1) := by decide +kernel
theorem dX2_hasForm_107 : decode cX2_hasForm 107 = .ok (.goto 4, 3) := by decide +kernel
theorem dX2_hasForm_110 : decode cX2_hasForm 110 = .ok (.iconst 0, 1) := by decide +kernel
theorem dX2_hasForm_111 : decode cX2_hasForm 111 = .ok (.ireturn, 1) := by decide +kernel
theorem dX2_hasForm_112 : decode cX2_hasForm 112 = .ok (.lload_n 3, 1) := by decide +kernel
theorem dX2_hasForm_113 : decode cX2_hasForm 113 = .ok (.lconst 0, 1) := by decide +kernel
theorem dX2_hasForm_114 : decode cX2_hasForm 114 = .ok (.lcmp, 1) := by decide +kernel
theorem dX2_hasForm_115 : decode cX2_hasForm 115 = .ok (.ifCond .lt 15, 3) := by decide +kernel
theorem dX2_hasForm_118 : decode cX2_hasForm 118 = .ok (.lload_n 3, 1) := by decide +kernel
theorem dX2_hasForm_119 : decode cX2_hasForm 119 = .ok (.ldc2_w 85, 3) := by decide +kernel
theorem dX2_hasForm_122 : decode cX2_hasForm 122 = .ok (.lcmp, 1) := by decide +kernel
theorem dX2_hasForm_123 : decode cX2_hasForm 123 = .ok (.ifCond .gt 7, 3) := by decide +kernel
theorem dX2_hasForm_126 : decode cX2_hasForm 126 = .ok (.iconst 1, 1) := by decide +kernel
theorem dX2_hasForm_127 : decode cX2_hasForm 127 = .ok (.goto 4, 3) := by decide +kernel
theorem dX2_hasForm_130 : decode cX2_hasForm 130 = .ok (.iconst 0, 1) := by decide +kernel
theorem dX2_hasForm_131 : decode cX2_hasForm 131 = .ok (.ireturn, 1) := by decide +kernel
theorem dX2_hasForm_132 : decode cX2_hasForm 132 = .ok (.lload_n 3, 1) := by decide +kernel
theorem dX2_hasForm_133 : decode cX2_hasForm 133 = .ok (.iload_n 2, 1) := by decide +kernel
theorem dX2_hasForm_134 : decode cX2_hasForm 134 = .ok (.i2l, 1) := by decide +kernel
theorem dX2_hasForm_135 : decode cX2_hasForm 135 = .ok (.lcmp, 1) := by decide +kernel
theorem dX2_hasForm_136 : decode cX2_hasForm 136 = .ok (.ifCond .le 15, 3) := by decide +kernel
theorem dX2_hasForm_139 : decode cX2_hasForm 139 = .ok (.aload_n 1, 1) := by decide +kernel
theorem dX2_hasForm_140 : decode cX2_hasForm 140 = .ok (.lload_n 3, 1) := by decide +kernel
theorem dX2_hasForm_141 : decode cX2_hasForm 141 = .ok (.invokevirtual 87, 3) := by decide +kernel
theorem dX2_hasForm_144 : decode cX2_hasForm 144 = .ok (.ifCond .eq 7, 3) := by decide +kernel
theorem dX2_hasForm_147 : decode cX2_hasForm 147 = .ok (.iconst 1, 1) := by decide +kernel
theorem dX2_hasForm_148 : decode cX2_hasForm 148 = .ok (.goto 4, 3) := by decide +kernel
theorem dX2_hasForm_151 : decode cX2_hasForm 151 = .ok (.iconst 0, 1) := by decide +kernel
theorem dX2_hasForm_152 : decode cX2_hasForm 152 = .ok (.ireturn, 1) := by decide +kernel
theorem dX2_hasForm_153 : decode cX2_hasForm 153 = .ok (.lload_n 3, 1) := by decide +kernel
theorem dX2_hasForm_154 : decode cX2_hasForm 154 = .ok (.lconst 0, 1) := by decide +kernel
theorem dX2_hasForm_155 : decode cX2_hasForm 155 = .ok (.lcmp, 1) := by decide +kernel
theorem dX2_hasForm_156 : decode cX2_hasForm 156 = .ok (.ifCond .lt 15, 3) := by decide +kernel
theorem dX2_hasForm_159 : decode cX2_hasForm 159 = .ok (.lload_n 3, 1) := by decide +kernel
theorem dX2_hasForm_160 : decode cX2_hasForm 160 = .ok (.ldc2_w 91, 3) := by decide +kernel
theorem dX2_hasForm_163 : decode cX2_hasForm 163 = .ok (.lcmp, 1) := by decide +kernel
theorem dX2_hasForm_164 : decode cX2_hasForm 164 = .ok (.ifCond .gt 7, 3) := by decide +kernel
theorem dX2_hasForm_167 : decode cX2_hasForm 167 = .ok (.iconst 1, 1) := by decide +kernel
theorem dX2_hasForm_168 : decode cX2_hasForm 168 = .ok (.goto 4, 3) := by decide +kernel
theorem dX2_hasForm_171 : decode cX2_hasForm 171 = .ok (.iconst 0, 1) := by decide +kernel
theorem dX2_hasForm_172 : decode cX2_hasForm 172 = .ok (.ireturn, 1) := by decide +kernel
theorem dX2_hasForm_173 : decode cX2_hasForm 173 = .ok (.aload_n 1, 1) := by decide +kernel
theorem dX2_hasForm_174 : decode cX2_hasForm 174 = .ok (.getfield 67, 3) := by decide +kernel
theorem dX2_hasForm_177 : decode cX2_hasForm 177 = .ok (.iload_n 2, 1) := by decide +kernel
theorem dX2_hasForm_178 : decode cX2_hasForm 178 = .ok (.iaload, 1) := by decide +kernel
theorem dX2_hasForm_179 : decode cX2_hasForm 179 = .ok (.invokestatic 93, 3) := by decide +kernel
theorem dX2_hasForm_182 : decode cX2_hasForm 182 = .ok (.ifCond .eq 13, 3) := by decide +kernel
theorem dX2_hasForm_185 : decode cX2_hasForm 185 = .ok (.lload_n 3, 1) := by decide +kernel
theorem dX2_hasForm_186 : decode cX2_hasForm 186 = .ok (.lconst 0, 1) := by decide +kernel
theorem dX2_hasForm_187 : decode cX2_hasForm 187 = .ok (.lcmp, 1) := by decide +kernel
theorem dX2_hasForm_188 : decode cX2_hasForm 188 = .ok (.ifCond .ne 7, 3) := by decide +kernel
theorem dX2_hasForm_191 : decode cX2_hasForm 191 = .ok (.iconst 1, 1) := by decide +kernel
theorem dX2_hasForm_192 : decode cX2_hasForm 192 = .ok (.goto 4, 3) := by decide +kernel
theorem dX2_hasForm_195 : decode cX2_hasForm 195 = .ok (.iconst 0, 1) := by decide +kernel
theorem dX2_hasForm_196 : decode cX2_hasForm 196 = .ok (.ireturn, 1) := by decide +kernel
theorem dX2_findHeights_0 : decode cX2_findHeights 0 = .ok (.aload_n 1, 1) := by decide +kernel
theorem dX2_findHeights_1 : decode cX2_findHeights 1 = .ok (.getfield 97, 3) := by decide +kernel
theorem dX2_findHeights_4 : decode cX2_findHeights 4 = .ok (.iconst (-1), 1) := by decide +kernel
theorem dX2_findHeights_5 : decode cX2_findHeights 5 = .ok (.invokestatic 100, 3) := by decide +kernel
theorem dX2_findHeights_8 : decode cX2_findHeights 8 = .ok (.aload_n 1, 1) := by decide +kernel
theorem dX2_findHeights_9 : decode cX2_findHeights 9 = .ok (.getfield 61, 3) := by decide +kernel
theorem dX2_findHeights_12 : decode cX2_findHeights 12 = .ok (.ifCond .ne 11, 3) := by decide +kernel
theorem dX2_findHeights_15 : decode cX2_findHeights 15 = .ok (.aload_n 1, 1) := by decide +kernel
theorem dX2_findHeights_16 : decode cX2_findHeights 16 = .ok (.bipush 9, 2) := by decide +kernel
theorem dX2_findHeights_18 : decode cX2_findHeights 18 = .ok (.iconst 0, 1) := by decide +kernel
theorem dX2_findHeights_19 : decode cX2_findHeights 19 = .ok (.invokevirtual 44, 3) := by decide +kernel
theorem dX2_findHeights_22 : decode cX2_findHeights 22 = .ok (.return_, 1) := by decide +kernel
theorem dX2_findHeights_23 : decode cX2_findHeights 23 = .ok (.aload_n 1, 1) := by decide +kernel
theorem dX2_findHeights_24 : decode cX2_findHeights 24 = .ok (.getfield 97, 3) := by decide +kernel
theorem dX2_findHeights_27 : decode cX2_findHeights 27 = .ok (.iconst 0, 1) := by decide +kernel
theorem dX2_findHeights_28 : decode cX2_findHeights 28 = .ok (.iconst 0, 1) := by decide +kernel
theorem dX2_findHeights_29 : decode cX2_findHeights 29 = .ok (.iastore, 1) := by decide +kernel
theorem dX2_findHeights_30 : decode cX2_findHeights 30 = .ok (.iconst 0, 1) := by decide +kernel
theorem dX2_findHeights_31 : decode cX2_findHeights 31 = .ok (.istore_n 2, 1) := by decide +kernel
theorem dX2_findHeights_32 : decode cX2_findHeights 32 = .ok (.iload_n 2, 1) := by decide +kernel
theorem dX2_findHeights_33 : decode cX2_findHeights 33 = .ok (.aload_n 1, 1) := by decide +kernel
theorem dX2_findHeights_34 : decode cX2_findHeights 34 = .ok (.getfield 61, 3) := by decide +kernel
theorem dX2_findHeights_37 : decode cX2_findHeights 37 = .ok (.if_icmp .ge 41, 3) := by decide +kernel
theorem dX2_findHeights_40 : decode cX2_findHeights 40 = .ok (.aload_n 1, 1) := by decide +kernel
theorem dX2_findHeights_41 : decode cX2_findHeights 41 = .ok (.getfield 97, 3) := by decide +kernel
theorem dX2_findHeights_44 : decode cX2_findHeights 44 = .ok (.iload_n 2, 1) := by decide +kernel
theorem dX2_findHeights_45 : decode cX2_findHeights 45 = .ok (.iaload, 1) := by decide +kernel
theorem dX2_findHeights_46 : decode cX2_findHeights 46 = .ok (.iconst (-1), 1) := by decide +kernel
theorem dX2_findHeights_47 : decode cX2_findHeights 47 = .ok (.if_icmp .eq 12, 3) := by decide +kernel
theorem dX2_findHeights_50 : decode cX2_findHeights 50 = .ok (.aload_n 0, 1) := by decide +kernel
theorem dX2_findHeights_51 : decode cX2_findHeights 51 = .ok (.aload_n 1, 1) := by decide +kernel
theorem dX2_findHeights_52 : decode cX2_findHeights 52 = .ok (.iload_n 2, 1) := by decide +kernel
theorem dX2_findHeights_53 : decode cX2_findHeights 53 = .ok (.invokevirtual 106, 3) := by decide +kernel
theorem dX2_findHeights_56 : decode cX2_findHeights 56 = .ok (.goto 4, 3) := by decide +kernel
theorem dX2_findHeights_59 : decode cX2_findHeights 59 = .ok (.iconst 0, 1) := by decide +kernel
theorem dX2_findHeights_60 : decode cX2_findHeights 60 = .ok (.istore_n 3, 1) := by decide +kernel
theorem dX2_findHeights_61 : decode cX2_findHeights 61 = .ok (.iload_n 3, 1) := by decide +kernel
theorem dX2_findHeights_62 : decode cX2_findHeights 62 = .ok (.ifCond .eq 10, 3) := by decide +kernel
theorem dX2_findHeights_65 : decode cX2_findHeights 65 = .ok (.aload_n 1, 1) := by decide +kernel
theorem dX2_findHeights_66 : decode cX2_findHeights 66 = .ok (.iload_n 3, 1) := by decide +kernel
theorem dX2_findHeights_67 : decode cX2_findHeights 67 = .ok (.iload_n 2, 1) := by decide +kernel
theorem dX2_findHeights_68 : decode cX2_findHeights 68 = .ok (.invokevirtual 44, 3) := by decide +kernel
theorem dX2_findHeights_71 : decode cX2_findHeights 71 = .ok (.return_, 1) := by decide +kernel
theorem dX2_findHeights_72 : decode cX2_findHeights 72 = .ok (.iinc 2 1, 3) := by decide +kernel
theorem dX2_findHeights_75 : decode cX2_findHeights 75 = .ok (.goto (-43), 3) := by decide +kernel
theorem dX2_findHeights_78 : decode cX2_findHeights 78 = .ok (.return_, 1) := by decide +kernel
theorem dX2_faultOfHeight_0 : decode cX2_faultOfHeight 0 = .ok (.aload_n 1, 1) := by decide +kernel
theorem dX2_faultOfHeight_1 : decode cX2_faultOfHeight 1 = .ok (.getfield 97, 3) := by decide +kernel
theorem dX2_faultOfHeight_4 : decode cX2_faultOfHeight 4 = .ok (.iload_n 2, 1) := by decide +kernel
theorem dX2_faultOfHeight_5 : decode cX2_faultOfHeight 5 = .ok (.iaload, 1) := by decide +kernel
theorem dX2_faultOfHeight_6 : decode cX2_faultOfHeight 6 = .ok (.istore_n 3, 1) := by decide +kernel
theorem dX2_faultOfHeight_7 : decode cX2_faultOfHeight 7 = .ok (.aload_n 0, 1) := by decide +kernel
theorem dX2_faultOfHeight_8 : decode cX2_faultOfHeight 8 = .ok (.aload_n 1, 1) := by decide +kernel
theorem dX2_faultOfHeight_9 : decode cX2_faultOfHeight 9 = .ok (.iload_n 2, 1) := by decide +kernel
theorem dX2_faultOfHeight_10 : decode cX2_faultOfHeight 10 = .ok (.invokevirtual 109, 3) := by decide +kernel
theorem dX2_faultOfHeight_13 : decode cX2_faultOfHeight 13 = .ok (.istore 4, 2) := by decide +kernel
theorem dX2_faultOfHeight_15 : decode cX2_faultOfHeight 15 = .ok (.iload_n 3, 1) := by decide +kernel
theorem dX2_faultOfHeight_16 : decode cX2_faultOfHeight 16 = .ok (.iload 4, 2) := by decide +kernel
theorem dX2_faultOfHeight_18 : decode cX2_faultOfHeight 18 = .ok (.if_icmp .ge 5, 3) := by decide +kernel
theorem dX2_faultOfHeight_21 : decode cX2_faultOfHeight 21 = .ok (.iconst 5, 1) := by decide +kernel
theorem dX2_faultOfHeight_22 : decode cX2_faultOfHeight 22 = .ok (.ireturn, 1) := by decide +kernel
theorem dX2_faultOfHeight_23 : decode cX2_faultOfHeight 23 = .ok (.iload_n 3, 1) := by decide +kernel
theorem dX2_faultOfHeight_24 : decode cX2_faultOfHeight 24 = .ok (.iload 4, 2) := by decide +kernel
theorem dX2_faultOfHeight_26 : decode cX2_faultOfHeight 26 = .ok (.isub, 1) := by decide +kernel
theorem dX2_faultOfHeight_27 : decode cX2_faultOfHeight 27 = .ok (.aload_n 0, 1) := by decide +kernel
theorem dX2_faultOfHeight_28 : decode cX2_faultOfHeight 28 = .ok (.aload_n 1, 1) := by decide +kernel
theorem dX2_faultOfHeight_29 : decode cX2_faultOfHeight 29 = .ok (.iload_n 2, 1) := by decide +kernel
theorem dX2_faultOfHeight_30 : decode cX2_faultOfHeight 30 = .ok (.invokevirtual 112, 3) := by decide +kernel
theorem dX2_faultOfHeight_33 : decode cX2_faultOfHeight 33 = .ok (.iadd, 1) := by decide +kernel
theorem dX2_faultOfHeight_34 : decode cX2_faultOfHeight 34 = .ok (.istore 5, 2) := by decide +kernel
theorem dX2_faultOfHeight_36 : decode cX2_faultOfHeight 36 = .ok (.iload 5, 2) := by decide +kernel
theorem dX2_faultOfHeight_38 : decode cX2_faultOfHeight 38 = .ok (.bipush 100, 2) := by decide +kernel
theorem dX2_faultOfHeight_40 : decode cX2_faultOfHeight 40 = .ok (.if_icmp .le 6, 3) := by decide +kernel
theorem dX2_faultOfHeight_43 : decode cX2_faultOfHeight 43 = .ok (.bipush 6, 2) := by decide +kernel
theorem dX2_faultOfHeight_45 : decode cX2_faultOfHeight 45 = .ok (.ireturn, 1) := by decide +kernel
theorem dX2_faultOfHeight_46 : decode cX2_faultOfHeight 46 = .ok (.aload_n 1, 1) := by decide +kernel
theorem dX2_faultOfHeight_47 : decode cX2_faultOfHeight 47 = .ok (.getfield 67, 3) := by decide +kernel
theorem dX2_faultOfHeight_50 : decode cX2_faultOfHeight 50 = .ok (.iload_n 2, 1) := by decide +kernel
theorem dX2_faultOfHeight_51 : decode cX2_faultOfHeight 51 = .ok (.iaload, 1) := by decide +kernel
theorem dX2_faultOfHeight_52 : decode cX2_faultOfHeight 52 = .ok (.tableswitch 169 12 17 #[40, 54, 91, 126, 169, 157], 40) := by decide +kernel
theorem dX2_faultOfHeight_92 : decode cX2_faultOfHeight 92 = .ok (.aload_n 0, 1) := by decide +kernel
theorem dX2_faultOfHeight_93 : decode cX2_faultOfHeight 93 = .ok (.aload_n 1, 1) := by decide +kernel
theorem dX2_faultOfHeight_94 : decode cX2_faultOfHeight 94 = .ok (.aload_n 1, 1) := by decide +kernel
theorem dX2_faultOfHeight_95 : decode cX2_faultOfHeight 95 = .ok (.getfield 74, 3) := by decide +kernel
theorem dX2_faultOfHeight_98 : decode cX2_faultOfHeight 98 = .ok (.iload_n 2, 1) := by decide +kernel
theorem dX2_faultOfHeight_99 : decode cX2_faultOfHeight 99 = .ok (.laload, 1) := by decide +kernel
theorem dX2_faultOfHeight_100 : decode cX2_faultOfHeight 100 = .ok (.iload 5, 2) := by decide +kernel
theorem dX2_faultOfHeight_102 : decode cX2_faultOfHeight 102 = .ok (.invokevirtual 115, 3) := by decide +kernel
theorem dX2_faultOfHeight_105 : decode cX2_faultOfHeight 105 = .ok (.ireturn, 1) := by decide +kernel
theorem dX2_faultOfHeight_106 : decode cX2_faultOfHeight 106 = .ok (.aload_n 0, 1) := by decide +kernel
theorem dX2_faultOfHeight_107 : decode cX2_faultOfHeight 107 = .ok (.aload_n 1, 1) := by decide +kernel
theorem dX2_faultOfHeight_108 : decode cX2_faultOfHeight 108 = .ok (.aload_n 1, 1) := by decide +kernel
theorem dX2_faultOfHeight_109 : decode cX2_faultOfHeight 109 = .ok (.getfield 74, 3) := by decide +kernel
theorem dX2_faultOfHeight_112 : decode cX2_faultOfHeight 112 = .ok (.iload_n 2, 1) := by decide +kernel
theorem dX2_faultOfHeight_113 : decode cX2_faultOfHeight 113 = .ok (.laload, 1) := by decide +kernel
theorem dX2_faultOfHeight_114 : decode cX2_faultOfHeight 114 = .ok (.iload 5, 2) := by decide +kernel
theorem dX2_faultOfHeight_116 : decode cX2_faultOfHeight 116 = .ok (.invokevirtual 115, 3) := by decide +kernel
theorem dX2_faultOfHeight_119 : decode cX2_faultOfHeight 119 = .ok (.istore 6, 2) := by decide +kernel
theorem dX2_faultOfHeight_121 : decode cX2_faultOfHeight 121 = .ok (.iload 6, 2) := by decide +kernel
theorem dX2_faultOfHeight_123 : decode cX2_faultOfHeight 123 = .ok (.ifCond .eq 8, 3) := by decide +kernel
theorem dX2_faultOfHeight_126 : decode cX2_faultOfHeight 126 = .ok (.iload 6, 2) := by decide +kernel
theorem dX2_faultOfHeight_128 : decode cX2_faultOfHeight 128 = .ok (.goto 14, 3) := by decide +kernel
theorem dX2_faultOfHeight_131 : decode cX2_faultOfHeight 131 = .ok (.aload_n 0, 1) := by decide +kernel
theorem dX2_faultOfHeight_132 : decode cX2_faultOfHeight 132 = .ok (.aload_n 1, 1) := by decide +kernel
theorem dX2_faultOfHeight_133 : decode cX2_faultOfHeight 133 = .ok (.iload_n 2, 1) := by decide +kernel
theorem dX2_faultOfHeight_134 : decode cX2_faultOfHeight 134 = .ok (.iconst 1, 1) := by decide +kernel
theorem dX2_faultOfHeight_135 : decode cX2_faultOfHeight 135 = .ok (.iadd, 1) := by decide +kernel
theorem dX2_faultOfHeight_136 : decode cX2_faultOfHeight 136 = .ok (.i2l, 1) := by decide +kernel
theorem dX2_faultOfHeight_137 : decode cX2_faultOfHeight 137 = .ok (.iload 5, 2) := by decide +kernel
theorem dX2_faultOfHeight_139 : decode cX2_faultOfHeight 139 = .ok (.invokevirtual 115, 3) := by decide +kernel
theorem dX2_faultOfHeight_142 : decode cX2_faultOfHeight 142 = .ok (.ireturn, 1) := by decide +kernel
theorem dX2_faultOfHeight_143 : decode cX2_faultOfHeight 143 = .ok (.aload_n 0, 1) := by decide +kernel
theorem dX2_faultOfHeight_144 : decode cX2_faultOfHeight 144 = .ok (.aload_n 1, 1) := by decide +kernel
theorem dX2_faultOfHeight_145 : decode cX2_faultOfHeight 145 = .ok (.aload_n 1, 1) := by decide +kernel
theorem dX2_faultOfHeight_146 : decode cX2_faultOfHeight 146 = .ok (.getfield 74, 3) := by decide +kernel
theorem dX2_faultOfHeight_149 : decode cX2_faultOfHeight 149 = .ok (.iload_n 2, 1) := by decide +kernel
theorem dX2_faultOfHeight_150 : decode cX2_faultOfHeight 150 = .ok (.laload, 1) := by decide +kernel
theorem dX2_faultOfHeight_151 : decode cX2_faultOfHeight 151 = .ok (.lconst 0, 1) := by decide +kernel
theorem dX2_faultOfHeight_152 : decode cX2_faultOfHeight 152 = .ok (.lcmp, 1) := by decide +kernel
theorem dX2_faultOfHeight_153 : decode cX2_faultOfHeight 153 = .ok (.ifCond .le 10, 3) := by decide +kernel
theorem dX2_faultOfHeight_156 : decode cX2_faultOfHeight 156 = .ok (.iload_n 2, 1) := by decide +kernel
theorem dX2_faultOfHeight_157 : decode cX2_faultOfHeight 157 = .ok (.iconst 1, 1) := by decide +kernel
theorem dX2_faultOfHeight_158 : decode cX2_faultOfHeight 158 = .ok (.iadd, 1) := by decide +kernel
theorem dX2_faultOfHeight_159 : decode cX2_faultOfHeight 159 = .ok (.i2l, 1) := by decide +kernel
theorem dX2_faultOfHeight_160 : decode cX2_faultOfHeight 160 = .ok (.goto 12, 3) := by decide +kernel
theorem dX2_faultOfHeight_163 : decode cX2_faultOfHeight 163 = .ok (.aload_n 1, 1) := by decide +kernel
theorem dX2_faultOfHeight_164 : decode cX2_faultOfHeight 164 = .ok (.getfield 64, 3) := by decide +kernel
theorem dX2_faultOfHeight_167 : decode cX2_faultOfHeight 167 = .ok (.iload_n 2, 1) := by decide +kernel
theorem dX2_faultOfHeight_168 : decode cX2_faultOfHeight 168 = .ok (.iaload, 1) := by decide +kernel
theorem dX2_faultOfHeight_169 : decode cX2_faultOfHeight 169 = .ok (.iconst 1, 1) := by decide +kernel
theorem dX2_faultOfHeight_170 : decode cX2_faultOfHeight 170 = .ok (.iadd, 1) := by decide +kernel
theorem dX2_faultOfHeight_171 : decode cX2_faultOfHeight 171 = .ok (.i2l, 1) := by decide +kernel
theorem dX2_faultOfHeight_172 : decode cX2_faultOfHeight 172 = .ok (.iload 5, 2) := by decide +kernel
theorem dX2_faultOfHeight_174 : decode cX2_faultOfHeight 174 = .ok (.invokevirtual 115, 3) := by decide +kernel
theorem dX2_faultOfHeight_177 : decode cX2_faultOfHeight 177 = .ok (.ireturn, 1) := by decide +kernel
theorem dX2_faultOfHeight_178 : decode cX2_faultOfHeight 178 = .ok (.iload_n 3, 1) := by decide +kernel
theorem dX2_faultOfHeight_179 : decode cX2_faultOfHeight 179 = .ok (.aload_n 1, 1) := by decide +kernel
theorem dX2_faultOfHeight_180 : decode cX2_faultOfHeight 180 = .ok (.aload_n 1, 1) := by decide +kernel
theorem dX2_faultOfHeight_181 : decode cX2_faultOfHeight 181 = .ok (.getfield 64, 3) := by decide +kernel
theorem dX2_faultOfHeight_184 : decode cX2_faultOfHeight 184 = .ok (.iload_n 2, 1) := by decide +kernel
theorem dX2_faultOfHeight_185 : decode cX2_faultOfHeight 185 = .ok (.iaload, 1) := by decide +kernel
theorem dX2_faultOfHeight_186 : decode cX2_faultOfHeight 186 = .ok (.invokevirtual 119, 3) := by decide +kernel
theorem dX2_faultOfHeight_189 : decode cX2_faultOfHeight 189 = .ok (.if_icmp .eq 8, 3) := by decide +kernel
theorem dX2_faultOfHeight_192 : decode cX2_faultOfHeight 192 = .ok (.bipush 7, 2) := by decide +kernel
theorem dX2_faultOfHeight_194 : decode cX2_faultOfHeight 194 = .ok (.goto 14, 3) := by decide +kernel
theorem dX2_faultOfHeight_197 : decode cX2_faultOfHeight 197 = .ok (.aload_n 0, 1) := by decide +kernel
theorem dX2_faultOfHeight_198 : decode cX2_faultOfHeight 198 = .ok (.aload_n 1, 1) := by decide +kernel
theorem dX2_faultOfHeight_199 : decode cX2_faultOfHeight 199 = .ok (.iload_n 2, 1) := by decide +kernel
theorem dX2_faultOfHeight_200 : decode cX2_faultOfHeight 200 = .ok (.iconst 1, 1) := by decide +kernel
theorem dX2_faultOfHeight_201 : decode cX2_faultOfHeight 201 = .ok (.iadd, 1) := by decide +kernel
theorem dX2_faultOfHeight_202 : decode cX2_faultOfHeight 202 = .ok (.i2l, 1) := by decide +kernel
theorem dX2_faultOfHeight_203 : decode cX2_faultOfHeight 203 = .ok (.iload 5, 2) := by decide +kernel
theorem dX2_faultOfHeight_205 : decode cX2_faultOfHeight 205 = .ok (.invokevirtual 115, 3) := by decide +kernel
theorem dX2_faultOfHeight_208 : decode cX2_faultOfHeight 208 = .ok (.ireturn, 1) := by decide +kernel
theorem dX2_faultOfHeight_209 : decode cX2_faultOfHeight 209 = .ok (.iload 5, 2) := by decide +kernel
theorem dX2_faultOfHeight_211 : decode cX2_faultOfHeight 211 = .ok (.ifCond .le 8, 3) := by decide +kernel
theorem dX2_faultOfHeight_214 : decode cX2_faultOfHeight 214 = .ok (.bipush 8, 2) := by decide +kernel
theorem dX2_faultOfHeight_216 : decode cX2_faultOfHeight 216 = .ok (.goto 4, 3) := by decide +kernel
theorem dX2_faultOfHeight_219 : decode cX2_faultOfHeight 219 = .ok (.iconst 0, 1) := by decide +kernel
theorem dX2_faultOfHeight_220 : decode cX2_faultOfHeight 220 = .ok (.ireturn, 1) := by decide +kernel
theorem dX2_faultOfHeight_221 : decode cX2_faultOfHeight 221 = .ok (.aload_n 0, 1) := by decide +kernel
theorem dX2_faultOfHeight_222 : decode cX2_faultOfHeight 222 = .ok (.aload_n 1, 1) := by decide +kernel
theorem dX2_faultOfHeight_223 : decode cX2_faultOfHeight 223 = .ok (.iload_n 2, 1) := by decide +kernel
theorem dX2_faultOfHeight_224 : decode cX2_faultOfHeight 224 = .ok (.iconst 1, 1) := by decide +kernel
theorem dX2_faultOfHeight_225 : decode cX2_faultOfHeight 225 = .ok (.iadd, 1) := by decide +kernel
theorem dX2_faultOfHeight_226 : decode cX2_faultOfHeight 226 = .ok (.i2l, 1) := by decide +kernel
theorem dX2_faultOfHeight_227 : decode cX2_faultOfHeight 227 = .ok (.iload 5, 2) := by decide +kernel
theorem dX2_faultOfHeight_229 : decode cX2_faultOfHeight 229 = .ok (.invokevirtual 115, 3) := by decide +kernel
theorem dX2_faultOfHeight_232 : decode cX2_faultOfHeight 232 = .ok (.ireturn, 1) := by decide +kernel
theorem dX2_lead_0 : decode cX2_lead 0 = .ok (.aload_n 1, 1) := by decide +kernel
theorem dX2_lead_1 : decode cX2_lead 1 = .ok (.lload_n 2, 1) := by decide +kernel
theorem dX2_lead_2 : decode cX2_lead 2 = .ok (.invokevirtual 87, 3) := by decide +kernel
theorem dX2_lead_5 : decode cX2_lead 5 = .ok (.ifCond .ne 6, 3) := by decide +kernel
theorem dX2_lead_8 : decode cX2_lead 8 = .ok (.bipush 9, 2) := by decide +kernel
theorem dX2_lead_10 : decode cX2_lead 10 = .ok (.ireturn, 1) := by decide +kernel
theorem dX2_lead_11 : decode cX2_lead 11 = .ok (.lload_n 2, 1) := by decide +kernel
theorem dX2_lead_12 : decode cX2_lead 12 = .ok (.l2i, 1) := by decide +kernel
theorem dX2_lead_13 : decode cX2_lead 13 = .ok (.istore 5, 2) := by decide +kernel
theorem dX2_lead_15 : decode cX2_lead 15 = .ok (.aload_n 1, 1) := by decide +kernel
theorem dX2_lead_16 : decode cX2_lead 16 = .ok (.getfield 97, 3) := by decide +kernel
theorem dX2_lead_19 : decode cX2_lead 19 = .ok (.iload 5, 2) := by decide +kernel
theorem dX2_lead_21 : decode cX2_lead 21 = .ok (.iaload, 1) := by decide +kernel
theorem dX2_lead_22 : decode cX2_lead 22 = .ok (.iconst (-1), 1) := by decide +kernel
theorem dX2_lead_23 : decode cX2_lead 23 = .ok (.if_icmp .eq 18, 3) := by decide +kernel
theorem dX2_lead_26 : decode cX2_lead 26 = .ok (.aload_n 1, 1) := by decide +kernel
theorem dX2_lead_27 : decode cX2_lead 27 = .ok (.getfield 97, 3) := by decide +kernel
theorem dX2_lead_30 : decode cX2_lead 30 = .ok (.iload 5, 2) := by decide +kernel
theorem dX2_lead_32 : decode cX2_lead 32 = .ok (.iaload, 1) := by decide +kernel
theorem dX2_lead_33 : decode cX2_lead 33 = .ok (.iload 4, 2) := by decide +kernel
theorem dX2_lead_35 : decode cX2_lead 35 = .ok (.if_icmp .eq 6, 3) := by decide +kernel
theorem dX2_lead_38 : decode cX2_lead 38 = .ok (.bipush 7, 2) := by decide +kernel
theorem dX2_lead_40 : decode cX2_lead 40 = .ok (.ireturn, 1) := by decide +kernel
theorem dX2_lead_41 : decode cX2_lead 41 = .ok (.aload_n 1, 1) := by decide +kernel
theorem dX2_lead_42 : decode cX2_lead 42 = .ok (.getfield 97, 3) := by decide +kernel
theorem dX2_lead_45 : decode cX2_lead 45 = .ok (.iload 5, 2) := by decide +kernel
theorem dX2_lead_47 : decode cX2_lead 47 = .ok (.iload 4, 2) := by decide +kernel
theorem dX2_lead_49 : decode cX2_lead 49 = .ok (.iastore, 1) := by decide +kernel
theorem dX2_lead_50 : decode cX2_lead 50 = .ok (.iconst 0, 1) := by decide +kernel
theorem dX2_lead_51 : decode cX2_lead 51 = .ok (.ireturn, 1) := by decide +kernel
theorem dX2_takenBy_0 : decode cX2_takenBy 0 = .ok (.aload_n 1, 1) := by decide +kernel
theorem dX2_takenBy_1 : decode cX2_takenBy 1 = .ok (.getfield 67, 3) := by decide +kernel
theorem dX2_takenBy_4 : decode cX2_takenBy 4 = .ok (.iload_n 2, 1) := by decide +kernel
theorem dX2_takenBy_5 : decode cX2_takenBy 5 = .ok (.iaload, 1) := by decide +kernel
theorem dX2_takenBy_6 : decode cX2_takenBy 6 = .ok (.lookupswitch 76 #[(11, 34), (16, 44), (17, 71)], 34) := by decide +kernel
theorem dX2_takenBy_40 : decode cX2_takenBy 40 = .ok (.aload_n 1, 1) := by decide +kernel
theorem dX2_takenBy_41 : decode cX2_takenBy 41 = .ok (.getfield 74, 3) := by decide +kernel
theorem dX2_takenBy_44 : decode cX2_takenBy 44 = .ok (.iload_n 2, 1) := by decide +kernel
theorem dX2_takenBy_45 : decode cX2_takenBy 45 = .ok (.laload, 1) := by decide +kernel
theorem dX2_takenBy_46 : decode cX2_takenBy 46 = .ok (.l2i, 1) := by decide +kernel
theorem dX2_takenBy_47 : decode cX2_takenBy 47 = .ok (.iconst 1, 1) := by decide +kernel
theorem dX2_takenBy_48 : decode cX2_takenBy 48 = .ok (.iadd, 1) := by decide +kernel
theorem dX2_takenBy_49 : decode cX2_takenBy 49 = .ok (.ireturn, 1) := by decide +kernel
theorem dX2_takenBy_50 : decode cX2_takenBy 50 = .ok (.aload_n 0, 1) := by decide +kernel
theorem dX2_takenBy_51 : decode cX2_takenBy 51 = .ok (.getfield 9, 3) := by decide +kernel
theorem dX2_takenBy_54 : decode cX2_takenBy 54 = .ok (.aload_n 1, 1) := by decide +kernel
theorem dX2_takenBy_55 : decode cX2_takenBy 55 = .ok (.getfield 74, 3) := by decide +kernel
theorem dX2_takenBy_58 : decode cX2_takenBy 58 = .ok (.iload_n 2, 1) := by decide +kernel
theorem dX2_takenBy_59 : decode cX2_takenBy 59 = .ok (.laload, 1) := by decide +kernel
theorem dX2_takenBy_60 : decode cX2_takenBy 60 = .ok (.invokevirtual 31, 3) := by decide +kernel
theorem dX2_takenBy_63 : decode cX2_takenBy 63 = .ok (.astore_n 3, 1) := by decide +kernel
theorem dX2_takenBy_64 : decode cX2_takenBy 64 = .ok (.aload_n 3, 1) := by decide +kernel
theorem dX2_takenBy_65 : decode cX2_takenBy 65 = .ok (.ifnonnull 7, 3) := by decide +kernel
theorem dX2_takenBy_68 : decode cX2_takenBy 68 = .ok (.iconst 0, 1) := by decide +kernel
theorem dX2_takenBy_69 : decode cX2_takenBy 69 = .ok (.goto 7, 3) := by decide +kernel
theorem dX2_takenBy_72 : decode cX2_takenBy 72 = .ok (.aload_n 3, 1) := by decide +kernel
theorem dX2_takenBy_73 : decode cX2_takenBy 73 = .ok (.getfield 123, 3) := by decide +kernel
theorem dX2_takenBy_76 : decode cX2_takenBy 76 = .ok (.ireturn, 1) := by decide +kernel
theorem dX2_takenBy_77 : decode cX2_takenBy 77 = .ok (.aload_n 1, 1) := by decide +kernel
theorem dX2_takenBy_78 : decode cX2_takenBy 78 = .ok (.getfield 126, 3) := by decide +kernel
theorem dX2_takenBy_81 : decode cX2_takenBy 81 = .ok (.ireturn, 1) := by decide +kernel
theorem dX2_takenBy_82 : decode cX2_takenBy 82 = .ok (.aload_n 1, 1) := by decide +kernel
theorem dX2_takenBy_83 : decode cX2_takenBy 83 = .ok (.getfield 67, 3) := by decide +kernel
theorem dX2_takenBy_86 : decode cX2_takenBy 86 = .ok (.iload_n 2, 1) := by decide +kernel
theorem dX2_takenBy_87 : decode cX2_takenBy 87 = .ok (.iaload, 1) := by decide +kernel
theorem dX2_takenBy_88 : decode cX2_takenBy 88 = .ok (.invokestatic 93, 3) := by decide +kernel
theorem dX2_takenBy_91 : decode cX2_takenBy 91 = .ok (.ifCond .eq 16, 3) := by decide +kernel
theorem dX2_takenBy_94 : decode cX2_takenBy 94 = .ok (.getstatic 129, 3) := by decide +kernel
theorem dX2_takenBy_97 : decode cX2_takenBy 97 = .ok (.aload_n 1, 1) := by decide +kernel
theorem dX2_takenBy_98 : decode cX2_takenBy 98 = .ok (.getfield 67, 3) := by decide +kernel
theorem dX2_takenBy_101 : decode cX2_takenBy 101 = .ok (.iload_n 2, 1) := by decide +kernel
theorem dX2_takenBy_102 : decode cX2_takenBy 102 = .ok (.iaload, 1) := by decide +kernel
theorem dX2_takenBy_103 : decode cX2_takenBy 103 = .ok (.iaload, 1) := by decide +kernel
theorem dX2_takenBy_104 : decode cX2_takenBy 104 = .ok (.goto 4, 3) := by decide +kernel
theorem dX2_takenBy_107 : decode cX2_takenBy 107 = .ok (.iconst 0, 1) := by decide +kernel
theorem dX2_takenBy_108 : decode cX2_takenBy 108 = .ok (.ireturn, 1) := by decide +kernel
theorem dX2_givenBy_0 : decode cX2_givenBy 0 = .ok (.aload_n 1, 1) := by decide +kernel
theorem dX2_givenBy_1 : decode cX2_givenBy 1 = .ok (.getfield 67, 3) := by decide +kernel
theorem dX2_givenBy_4 : decode cX2_givenBy 4 = .ok (.iload_n 2, 1) := by decide +kernel
theorem dX2_givenBy_5 : decode cX2_givenBy 5 = .ok (.iaload, 1) := by decide +kernel
theorem dX2_givenBy_6 : decode cX2_givenBy 6 = .ok (.lookupswitch 63 #[(11, 26), (16, 36)], 26) := by decide +kernel
theorem dX2_givenBy_32 : decode cX2_givenBy 32 = .ok (.aload_n 1, 1) := by decide +kernel
theorem dX2_givenBy_33 : decode cX2_givenBy 33 = .ok (.getfield 74, 3) := by decide +kernel
theorem dX2_givenBy_36 : decode cX2_givenBy 36 = .ok (.iload_n 2, 1) := by decide +kernel
theorem dX2_givenBy_37 : decode cX2_givenBy 37 = .ok (.laload, 1) := by decide +kernel
theorem dX2_givenBy_38 : decode cX2_givenBy 38 = .ok (.l2i, 1) := by decide +kernel
theorem dX2_givenBy_39 : decode cX2_givenBy 39 = .ok (.iconst 2, 1) := by decide +kernel
theorem dX2_givenBy_40 : decode cX2_givenBy 40 = .ok (.iadd, 1) := by decide +kernel
theorem dX2_givenBy_41 : decode cX2_givenBy 41 = .ok (.ireturn, 1) := by decide +kernel
theorem dX2_givenBy_42 : decode cX2_givenBy 42 = .ok (.aload_n 0, 1) := by decide +kernel
theorem dX2_givenBy_43 : decode cX2_givenBy 43 = .ok (.getfield 9, 3) := by decide +kernel
theorem dX2_givenBy_46 : decode cX2_givenBy 46 = .ok (.aload_n 1, 1) := by decide +kernel
theorem dX2_givenBy_47 : decode cX2_givenBy 47 = .ok (.getfield 74, 3) := by decide +kernel
theorem dX2_givenBy_50 : decode cX2_givenBy 50 = .ok (.iload_n 2, 1) := by decide +kernel
theorem dX2_givenBy_51 : decode cX2_givenBy 51 = .ok (.laload, 1) := by decide +kernel
theorem dX2_givenBy_52 : decode cX2_givenBy 52 = .ok (.invokevirtual 31, 3) := by decide +kernel
theorem dX2_givenBy_55 : decode cX2_givenBy 55 = .ok (.astore_n 3, 1) := by decide +kernel
theorem dX2_givenBy_56 : decode cX2_givenBy 56 = .ok (.aload_n 3, 1) := by decide +kernel
theorem dX2_givenBy_57 : decode cX2_givenBy 57 = .ok (.ifnonnull 7, 3) := by decide +kernel
theorem dX2_givenBy_60 : decode cX2_givenBy 60 = .ok (.iconst 0, 1) := by decide +kernel
theorem dX2_givenBy_61 : decode cX2_givenBy 61 = .ok (.goto 7, 3) := by decide +kernel
theorem dX2_givenBy_64 : decode cX2_givenBy 64 = .ok (.aload_n 3, 1) := by decide +kernel
theorem dX2_givenBy_65 : decode cX2_givenBy 65 = .ok (.getfield 126, 3) := by decide +kernel
theorem dX2_givenBy_68 : decode cX2_givenBy 68 = .ok (.ireturn, 1) := by decide +kernel
theorem dX2_givenBy_69 : decode cX2_givenBy 69 = .ok (.aload_n 1, 1) := by decide +kernel
theorem dX2_givenBy_70 : decode cX2_givenBy 70 = .ok (.getfield 67, 3) := by decide +kernel
theorem dX2_givenBy_73 : decode cX2_givenBy 73 = .ok (.iload_n 2, 1) := by decide +kernel
theorem dX2_givenBy_74 : decode cX2_givenBy 74 = .ok (.iaload, 1) := by decide +kernel
theorem dX2_givenBy_75 : decode cX2_givenBy 75 = .ok (.invokestatic 93, 3) := by decide +kernel
theorem dX2_givenBy_78 : decode cX2_givenBy 78 = .ok (.ifCond .eq 16, 3) := by decide +kernel
theorem dX2_givenBy_81 : decode cX2_givenBy 81 = .ok (.getstatic 132, 3) := by decide +kernel
theorem dX2_givenBy_84 : decode cX2_givenBy 84 = .ok (.aload_n 1, 1) := by decide +kernel
theorem dX2_givenBy_85 : decode cX2_givenBy 85 = .ok (.getfield 67, 3) := by decide +kernel
theorem dX2_givenBy_88 : decode cX2_givenBy 88 = .ok (.iload_n 2, 1) := by decide +kernel
theorem dX2_givenBy_89 : decode cX2_givenBy 89 = .ok (.iaload, 1) := by decide +kernel
theorem dX2_givenBy_90 : decode cX2_givenBy 90 = .ok (.iaload, 1) := by decide +kernel
theorem dX2_givenBy_91 : decode cX2_givenBy 91 = .ok (.goto 4, 3) := by decide +kernel
theorem dX2_givenBy_94 : decode cX2_givenBy 94 = .ok (.iconst 0, 1) := by decide +kernel
theorem dX2_givenBy_95 : decode cX2_givenBy 95 = .ok (.ireturn, 1) := by decide +kernel
theorem dX3_init_0 : decode cX3_init 0 = .ok (.aload_n 0, 1) := by decide +kernel
theorem dX3_init_1 : decode cX3_init 1 = .ok (.invokespecial 3, 3) := by decide +kernel
theorem dX3_init_4 : decode cX3_init 4 = .ok (.aload_n 0, 1) := by decide +kernel
theorem dX3_init_5 : decode cX3_init 5 = .ok (.aload_n 1, 1) := by decide +kernel
theorem dX3_init_6 : decode cX3_init 6 = .ok (.putfield 9, 3) := by decide +kernel
theorem dX3_init_9 : decode cX3_init 9 = .ok (.aload_n 0, 1) := by decide +kernel
theorem dX3_init_10 : decode cX3_init 10 = .ok (.sipush 11600, 3) := by decide +kernel
theorem dX3_init_13 : decode cX3_init 13 = .ok (.newarray .long, 2) := by decide +kernel
theorem dX3_init_15 : decode cX3_init 15 = .ok (.putfield 15, 3) := by decide +kernel
theorem dX3_init_18 : decode cX3_init 18 = .ok (.aload_n 0, 1) := by decide +kernel
theorem dX3_init_19 : decode cX3_init 19 = .ok (.sipush 800, 3) := by decide +kernel
theorem dX3_init_22 : decode cX3_init 22 = .ok (.newarray .int, 2) := by decide +kernel
theorem dX3_init_24 : decode cX3_init 24 = .ok (.putfield 19, 3) := by decide +kernel
theorem dX3_init_27 : decode cX3_init 27 = .ok (.aload_n 0, 1) := by decide +kernel
theorem dX3_init_28 : decode cX3_init 28 = .ok (.bipush 100, 2) := by decide +kernel
theorem dX3_init_30 : decode cX3_init 30 = .ok (.anewarray 23, 3) := by decide +kernel
theorem dX3_init_33 : decode cX3_init 33 = .ok (.putfield 25, 3) := by decide +kernel
theorem dX3_init_36 : decode cX3_init 36 = .ok (.aload_n 0, 1) := by decide +kernel
theorem dX3_init_37 : decode cX3_init 37 = .ok (.bipush 100, 2) := by decide +kernel
theorem dX3_init_39 : decode cX3_init 39 = .ok (.newarray .int, 2) := by decide +kernel
theorem dX3_init_41 : decode cX3_init 41 = .ok (.putfield 29, 3) := by decide +kernel
theorem dX3_init_44 : decode cX3_init 44 = .ok (.aload_n 0, 1) := by decide +kernel
theorem dX3_init_45 : decode cX3_init 45 = .ok (.bipush 100, 2) := by decide +kernel
theorem dX3_init_47 : decode cX3_init 47 = .ok (.newarray .int, 2) := by decide +kernel
theorem dX3_init_49 : decode cX3_init 49 = .ok (.putfield 32, 3) := by decide +kernel
theorem dX3_init_52 : decode cX3_init 52 = .ok (.aload_n 0, 1) := by decide +kernel
theorem dX3_init_53 : decode cX3_init 53 = .ok (.bipush 100, 2) := by decide +kernel
theorem dX3_init_55 : decode cX3_init 55 = .ok (.newarray .int, 2) := by decide +kernel
theorem dX3_init_57 : decode cX3_init 57 = .ok (.putfield 35, 3) := by decide +kernel
theorem dX3_init_60 : decode cX3_init 60 = .ok (.return_, 1) := by decide +kernel
theorem dX3_answer_0 : decode cX3_answer 0 = .ok (.iload_n 1, 1) := by decide +kernel
theorem dX3_answer_1 : decode cX3_answer 1 = .ok (.tableswitch 53 0 3 #[31, 36, 41, 47], 31) := by decide +kernel
theorem dX3_answer_32 : decode cX3_answer 32 = .ok (.aload_n 0, 1) := by decide +kernel
theorem dX3_answer_33 : decode cX3_answer 33 = .ok (.getfield 38, 3) := by decide +kernel
theorem dX3_answer_36 : decode cX3_answer 36 = .ok (.lreturn, 1) := by decide +kernel
theorem dX3_answer_37 : decode cX3_answer 37 = .ok (.aload_n 0, 1) := by decide +kernel
theorem dX3_answer_38 : decode cX3_answer 38 = .ok (.getfield 42, 3) := by decide +kernel
theorem dX3_answer_41 : decode cX3_answer 41 = .ok (.lreturn, 1) := by decide +kernel
theorem dX3_answer_42 : decode cX3_answer 42 = .ok (.aload_n 0, 1) := by decide +kernel
theorem dX3_answer_43 : decode cX3_answer 43 = .ok (.getfield 45, 3) := by decide +kernel
theorem dX3_answer_46 : decode cX3_answer 46 = .ok (.i2l, 1) := by decide +kernel
theorem dX3_answer_47 : decode cX3_answer 47 = .ok (.lreturn, 1) := by decide +kernel
theorem dX3_answer_48 : decode cX3_answer 48 = .ok (.aload_n 0, 1) := by decide +kernel
theorem dX3_answer_49 : decode cX3_answer 49 = .ok (.getfield 49, 3) := by decide +kernel
theorem dX3_answer_52 : decode cX3_answer 52 = .ok (.i2l, 1) := by decide +kernel
theorem dX3_answer_53 : decode cX3_answer 53 = .ok (.lreturn, 1) := by decide +kernel
theorem dX3_answer_54 : decode cX3_answer 54 = .ok (.aload_n 0, 1) := by decide +kernel
theorem dX3_answer_55 : decode cX3_answer 55 = .ok (.getfield 52, 3) := by decide +kernel
theorem dX3_answer_58 : decode cX3_answer 58 = .ok (.i2l, 1) := by decide +kernel
theorem dX3_answer_59 : decode cX3_answer 59 = .ok (.lreturn, 1) := by decide +kernel
theorem dX3_perform_0 : decode cX3_perform 0 = .ok (.aload_n 0, 1) := by decide +kernel
theorem dX3_perform_1 : decode cX3_perform 1 = .ok (.invokevirtual 55, 3) := by decide +kernel
theorem dX3_perform_4 : decode cX3_perform 4 = .ok (.aload_n 1, 1) := by decide +kernel
theorem dX3_perform_5 : decode cX3_perform 5 = .ok (.invokevirtual 58, 3) := by decide +kernel
theorem dX3_perform_8 : decode cX3_perform 8 = .ok (.ifCond .ne 5, 3) := by decide +kernel
theorem dX3_perform_11 : decode cX3_perform 11 = .ok (.iconst 4, 1) := by decide +kernel
theorem dX3_perform_12 : decode cX3_perform 12 = .ok (.ireturn, 1) := by decide +kernel
theorem dX3_perform_13 : decode cX3_perform 13 = .ok (.iconst 0, 1) := by decide +kernel
theorem dX3_perform_14 : decode cX3_perform 14 = .ok (.istore 4, 2) := by decide +kernel
theorem dX3_perform_16 : decode cX3_perform 16 = .ok (.iload 4, 2) := by decide +kernel
theorem dX3_perform_18 : decode cX3_perform 18 = .ok (.aload_n 1, 1) := by decide +kernel
theorem dX3_perform_19 : decode cX3_perform 19 = .ok (.getfield 62, 3) := by decide +kernel
theorem dX3_perform_22 : decode cX3_perform 22 = .ok (.if_icmp .ge 24, 3) := by decide +kernel
theorem dX3_perform_25 : decode cX3_perform 25 = .ok (.iload 4, 2) := by decide +kernel
theorem dX3_perform_27 : decode cX3_perform 27 = .ok (.aload_n 2, 1) := by decide +kernel
theorem dX3_perform_28 : decode cX3_perform 28 = .ok (.arraylength, 1) := by decide +kernel
theorem dX3_perform_29 : decode cX3_perform 29 = .ok (.if_icmp .ge 17, 3) := by decide +kernel
theorem dX3_perform_32 : decode cX3_perform 32 = .ok (.aload_n 0, 1) := by decide +kernel
theorem dX3_perform_33 : decode cX3_perform 33 = .ok (.aload_n 2, 1) := by decide +kernel
theorem dX3_perform_34 : decode cX3_perform 34 = .ok (.iload 4, 2) := by decide +kernel
theorem dX3_perform_36 : decode cX3_perform 36 = .ok (.laload, 1) := by decide +kernel
theorem dX3_perform_37 : decode cX3_perform 37 = .ok (.invokevirtual 65, 3) := by decide +kernel
theorem dX3_perform_40 : decode cX3_perform 40 = .ok (.iinc 4 1, 3) := by decide +kernel
theorem dX3_perform_43 : decode cX3_perform 43 = .ok (.goto (-27), 3) := by decide +kernel
theorem dX3_perform_46 : decode cX3_perform 46 = .ok (.aload_n 0, 1) := by decide +kernel
theorem dX3_perform_47 : decode cX3_perform 47 = .ok (.aload_n 1, 1) := by decide +kernel
theorem dX3_perform_48 : decode cX3_perform 48 = .ok (.iconst 0, 1) := by decide +kernel
theorem dX3_perform_49 : decode cX3_perform 49 = .ok (.invokevirtual 69, 3) := by decide +kernel
theorem dX3_perform_52 : decode cX3_perform 52 = .ok (.iconst 0, 1) := by decide +kernel
theorem dX3_perform_53 : decode cX3_perform 53 = .ok (.istore 4, 2) := by decide +kernel
theorem dX3_perform_55 : decode cX3_perform 55 = .ok (.iload 4, 2) := by decide +kernel
theorem dX3_perform_57 : decode cX3_perform 57 = .ok (.iload_n 3, 1) := by decide +kernel
theorem dX3_perform_58 : decode cX3_perform 58 = .ok (.if_icmp .ge 23, 3) := by decide +kernel
