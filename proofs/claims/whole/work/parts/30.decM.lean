theorem dM_init_0 : decode bM_init 0 = .ok (.aload_n 0, 1) := by decide +kernel
theorem dM_init_1 : decode bM_init 1 = .ok (.invokespecial 1, 3) := by decide +kernel
theorem dM_init_4 : decode bM_init 4 = .ok (.aload_n 0, 1) := by decide +kernel
theorem dM_init_5 : decode bM_init 5 = .ok (.iconst 2, 1) := by decide +kernel
theorem dM_init_6 : decode bM_init 6 = .ok (.putfield 7, 3) := by decide +kernel
theorem dM_init_9 : decode bM_init 9 = .ok (.aload_n 0, 1) := by decide +kernel
theorem dM_init_10 : decode bM_init 10 = .ok (.sipush 160, 3) := by decide +kernel
theorem dM_init_13 : decode bM_init 13 = .ok (.newarray .int, 2) := by decide +kernel
theorem dM_init_15 : decode bM_init 15 = .ok (.putfield 13, 3) := by decide +kernel
theorem dM_init_18 : decode bM_init 18 = .ok (.aload_n 0, 1) := by decide +kernel
theorem dM_init_19 : decode bM_init 19 = .ok (.sipush 160, 3) := by decide +kernel
theorem dM_init_22 : decode bM_init 22 = .ok (.newarray .int, 2) := by decide +kernel
theorem dM_init_24 : decode bM_init 24 = .ok (.putfield 17, 3) := by decide +kernel
theorem dM_init_27 : decode bM_init 27 = .ok (.aload_n 0, 1) := by decide +kernel
theorem dM_init_28 : decode bM_init 28 = .ok (.sipush 160, 3) := by decide +kernel
theorem dM_init_31 : decode bM_init 31 = .ok (.newarray .int, 2) := by decide +kernel
theorem dM_init_33 : decode bM_init 33 = .ok (.putfield 20, 3) := by decide +kernel
theorem dM_init_36 : decode bM_init 36 = .ok (.aload_n 0, 1) := by decide +kernel
theorem dM_init_37 : decode bM_init 37 = .ok (.bipush 101, 2) := by decide +kernel
theorem dM_init_39 : decode bM_init 39 = .ok (.newarray .int, 2) := by decide +kernel
theorem dM_init_41 : decode bM_init 41 = .ok (.putfield 23, 3) := by decide +kernel
theorem dM_init_44 : decode bM_init 44 = .ok (.aload_n 0, 1) := by decide +kernel
theorem dM_init_45 : decode bM_init 45 = .ok (.bipush 101, 2) := by decide +kernel
theorem dM_init_47 : decode bM_init 47 = .ok (.newarray .int, 2) := by decide +kernel
theorem dM_init_49 : decode bM_init 49 = .ok (.putfield 26, 3) := by decide +kernel
theorem dM_init_52 : decode bM_init 52 = .ok (.aload_n 0, 1) := by decide +kernel
theorem dM_init_53 : decode bM_init 53 = .ok (.bipush 101, 2) := by decide +kernel
theorem dM_init_55 : decode bM_init 55 = .ok (.newarray .int, 2) := by decide +kernel
theorem dM_init_57 : decode bM_init 57 = .ok (.putfield 29, 3) := by decide +kernel
theorem dM_init_60 : decode bM_init 60 = .ok (.aload_n 0, 1) := by decide +kernel
theorem dM_init_61 : decode bM_init 61 = .ok (.bipush 101, 2) := by decide +kernel
theorem dM_init_63 : decode bM_init 63 = .ok (.newarray .int, 2) := by decide +kernel
theorem dM_init_65 : decode bM_init 65 = .ok (.putfield 32, 3) := by decide +kernel
theorem dM_init_68 : decode bM_init 68 = .ok (.aload_n 0, 1) := by decide +kernel
theorem dM_init_69 : decode bM_init 69 = .ok (.bipush 101, 2) := by decide +kernel
theorem dM_init_71 : decode bM_init 71 = .ok (.newarray .boolean, 2) := by decide +kernel
theorem dM_init_73 : decode bM_init 73 = .ok (.putfield 35, 3) := by decide +kernel
theorem dM_init_76 : decode bM_init 76 = .ok (.aload_n 0, 1) := by decide +kernel
theorem dM_init_77 : decode bM_init 77 = .ok (.bipush 101, 2) := by decide +kernel
theorem dM_init_79 : decode bM_init 79 = .ok (.newarray .boolean, 2) := by decide +kernel
theorem dM_init_81 : decode bM_init 81 = .ok (.putfield 39, 3) := by decide +kernel
theorem dM_init_84 : decode bM_init 84 = .ok (.aload_n 0, 1) := by decide +kernel
theorem dM_init_85 : decode bM_init 85 = .ok (.sipush 480, 3) := by decide +kernel
theorem dM_init_88 : decode bM_init 88 = .ok (.newarray .long, 2) := by decide +kernel
theorem dM_init_90 : decode bM_init 90 = .ok (.putfield 42, 3) := by decide +kernel
theorem dM_init_93 : decode bM_init 93 = .ok (.aload_n 0, 1) := by decide +kernel
theorem dM_init_94 : decode bM_init 94 = .ok (.sipush 480, 3) := by decide +kernel
theorem dM_init_97 : decode bM_init 97 = .ok (.newarray .long, 2) := by decide +kernel
theorem dM_init_99 : decode bM_init 99 = .ok (.putfield 46, 3) := by decide +kernel
theorem dM_init_102 : decode bM_init 102 = .ok (.aload_n 0, 1) := by decide +kernel
theorem dM_init_103 : decode bM_init 103 = .ok (.sipush 2880, 3) := by decide +kernel
theorem dM_init_106 : decode bM_init 106 = .ok (.newarray .long, 2) := by decide +kernel
theorem dM_init_108 : decode bM_init 108 = .ok (.putfield 49, 3) := by decide +kernel
theorem dM_init_111 : decode bM_init 111 = .ok (.aload_n 0, 1) := by decide +kernel
theorem dM_init_112 : decode bM_init 112 = .ok (.bipush 100, 2) := by decide +kernel
theorem dM_init_114 : decode bM_init 114 = .ok (.newarray .int, 2) := by decide +kernel
theorem dM_init_116 : decode bM_init 116 = .ok (.putfield 52, 3) := by decide +kernel
theorem dM_init_119 : decode bM_init 119 = .ok (.aload_n 0, 1) := by decide +kernel
theorem dM_init_120 : decode bM_init 120 = .ok (.getfield 13, 3) := by decide +kernel
theorem dM_init_123 : decode bM_init 123 = .ok (.iconst 1, 1) := by decide +kernel
theorem dM_init_124 : decode bM_init 124 = .ok (.iconst 1, 1) := by decide +kernel
theorem dM_init_125 : decode bM_init 125 = .ok (.iastore, 1) := by decide +kernel
theorem dM_init_126 : decode bM_init 126 = .ok (.return_, 1) := by decide +kernel
theorem dM_thrown_0 : decode bM_thrown 0 = .ok (.aload_n 0, 1) := by decide +kernel
theorem dM_thrown_1 : decode bM_thrown 1 = .ok (.getfield 55, 3) := by decide +kernel
theorem dM_thrown_4 : decode bM_thrown 4 = .ok (.ireturn, 1) := by decide +kernel
theorem dM_fails_0 : decode bM_fails 0 = .ok (.aload_n 0, 1) := by decide +kernel
theorem dM_fails_1 : decode bM_fails 1 = .ok (.iload_n 1, 1) := by decide +kernel
theorem dM_fails_2 : decode bM_fails 2 = .ok (.ifCond .eq 7, 3) := by decide +kernel
theorem dM_fails_5 : decode bM_fails 5 = .ok (.iconst 1, 1) := by decide +kernel
theorem dM_fails_6 : decode bM_fails 6 = .ok (.goto 4, 3) := by decide +kernel
theorem dM_fails_9 : decode bM_fails 9 = .ok (.iconst 0, 1) := by decide +kernel
theorem dM_fails_10 : decode bM_fails 10 = .ok (.putfield 55, 3) := by decide +kernel
theorem dM_fails_13 : decode bM_fails 13 = .ok (.iload_n 1, 1) := by decide +kernel
theorem dM_fails_14 : decode bM_fails 14 = .ok (.ireturn, 1) := by decide +kernel
theorem dM_isThere_0 : decode bM_isThere 0 = .ok (.iload_n 1, 1) := by decide +kernel
theorem dM_isThere_1 : decode bM_isThere 1 = .ok (.ifCond .lt 15, 3) := by decide +kernel
theorem dM_isThere_4 : decode bM_isThere 4 = .ok (.iload_n 1, 1) := by decide +kernel
theorem dM_isThere_5 : decode bM_isThere 5 = .ok (.aload_n 0, 1) := by decide +kernel
theorem dM_isThere_6 : decode bM_isThere 6 = .ok (.getfield 7, 3) := by decide +kernel
theorem dM_isThere_9 : decode bM_isThere 9 = .ok (.if_icmp .ge 7, 3) := by decide +kernel
theorem dM_isThere_12 : decode bM_isThere 12 = .ok (.iconst 1, 1) := by decide +kernel
theorem dM_isThere_13 : decode bM_isThere 13 = .ok (.goto 4, 3) := by decide +kernel
theorem dM_isThere_16 : decode bM_isThere 16 = .ok (.iconst 0, 1) := by decide +kernel
theorem dM_isThere_17 : decode bM_isThere 17 = .ok (.ireturn, 1) := by decide +kernel
theorem dM_isRole_0 : decode bM_isRole 0 = .ok (.iload_n 0, 1) := by decide +kernel
theorem dM_isRole_1 : decode bM_isRole 1 = .ok (.ifCond .lt 13, 3) := by decide +kernel
theorem dM_isRole_4 : decode bM_isRole 4 = .ok (.iload_n 0, 1) := by decide +kernel
theorem dM_isRole_5 : decode bM_isRole 5 = .ok (.bipush 6, 2) := by decide +kernel
theorem dM_isRole_7 : decode bM_isRole 7 = .ok (.if_icmp .ge 7, 3) := by decide +kernel
theorem dM_isRole_10 : decode bM_isRole 10 = .ok (.iconst 1, 1) := by decide +kernel
theorem dM_isRole_11 : decode bM_isRole 11 = .ok (.goto 4, 3) := by decide +kernel
theorem dM_isRole_14 : decode bM_isRole 14 = .ok (.iconst 0, 1) := by decide +kernel
theorem dM_isRole_15 : decode bM_isRole 15 = .ok (.ireturn, 1) := by decide +kernel
theorem dM_made_0 : decode bM_made 0 = .ok (.iconst 2, 1) := by decide +kernel
theorem dM_made_1 : decode bM_made 1 = .ok (.istore 4, 2) := by decide +kernel
theorem dM_made_3 : decode bM_made 3 = .ok (.iload 4, 2) := by decide +kernel
theorem dM_made_5 : decode bM_made 5 = .ok (.aload_n 0, 1) := by decide +kernel
theorem dM_made_6 : decode bM_made 6 = .ok (.getfield 7, 3) := by decide +kernel
theorem dM_made_9 : decode bM_made 9 = .ok (.if_icmp .ge 50, 3) := by decide +kernel
theorem dM_made_12 : decode bM_made 12 = .ok (.iload_n 1, 1) := by decide +kernel
theorem dM_made_13 : decode bM_made 13 = .ok (.iconst 2, 1) := by decide +kernel
theorem dM_made_14 : decode bM_made 14 = .ok (.if_icmp .eq 39, 3) := by decide +kernel
theorem dM_made_17 : decode bM_made 17 = .ok (.aload_n 0, 1) := by decide +kernel
theorem dM_made_18 : decode bM_made 18 = .ok (.getfield 13, 3) := by decide +kernel
theorem dM_made_21 : decode bM_made 21 = .ok (.iload 4, 2) := by decide +kernel
theorem dM_made_23 : decode bM_made 23 = .ok (.iaload, 1) := by decide +kernel
theorem dM_made_24 : decode bM_made 24 = .ok (.iload_n 1, 1) := by decide +kernel
theorem dM_made_25 : decode bM_made 25 = .ok (.if_icmp .ne 28, 3) := by decide +kernel
theorem dM_made_28 : decode bM_made 28 = .ok (.aload_n 0, 1) := by decide +kernel
theorem dM_made_29 : decode bM_made 29 = .ok (.getfield 17, 3) := by decide +kernel
theorem dM_made_32 : decode bM_made 32 = .ok (.iload 4, 2) := by decide +kernel
theorem dM_made_34 : decode bM_made 34 = .ok (.iaload, 1) := by decide +kernel
theorem dM_made_35 : decode bM_made 35 = .ok (.iload_n 2, 1) := by decide +kernel
theorem dM_made_36 : decode bM_made 36 = .ok (.if_icmp .ne 17, 3) := by decide +kernel
theorem dM_made_39 : decode bM_made 39 = .ok (.aload_n 0, 1) := by decide +kernel
theorem dM_made_40 : decode bM_made 40 = .ok (.getfield 20, 3) := by decide +kernel
theorem dM_made_43 : decode bM_made 43 = .ok (.iload 4, 2) := by decide +kernel
theorem dM_made_45 : decode bM_made 45 = .ok (.iaload, 1) := by decide +kernel
theorem dM_made_46 : decode bM_made 46 = .ok (.iload_n 3, 1) := by decide +kernel
theorem dM_made_47 : decode bM_made 47 = .ok (.if_icmp .ne 6, 3) := by decide +kernel
theorem dM_made_50 : decode bM_made 50 = .ok (.iload 4, 2) := by decide +kernel
theorem dM_made_52 : decode bM_made 52 = .ok (.ireturn, 1) := by decide +kernel
theorem dM_made_53 : decode bM_made 53 = .ok (.iinc 4 1, 3) := by decide +kernel
theorem dM_made_56 : decode bM_made 56 = .ok (.goto (-53), 3) := by decide +kernel
theorem dM_made_59 : decode bM_made 59 = .ok (.aload_n 0, 1) := by decide +kernel
theorem dM_made_60 : decode bM_made 60 = .ok (.getfield 7, 3) := by decide +kernel
theorem dM_made_63 : decode bM_made 63 = .ok (.sipush 160, 3) := by decide +kernel
theorem dM_made_66 : decode bM_made 66 = .ok (.if_icmp .ne 5, 3) := by decide +kernel
theorem dM_made_69 : decode bM_made 69 = .ok (.iconst (-1), 1) := by decide +kernel
theorem dM_made_70 : decode bM_made 70 = .ok (.ireturn, 1) := by decide +kernel
theorem dM_made_71 : decode bM_made 71 = .ok (.aload_n 0, 1) := by decide +kernel
theorem dM_made_72 : decode bM_made 72 = .ok (.getfield 13, 3) := by decide +kernel
theorem dM_made_75 : decode bM_made 75 = .ok (.aload_n 0, 1) := by decide +kernel
theorem dM_made_76 : decode bM_made 76 = .ok (.getfield 7, 3) := by decide +kernel
theorem dM_made_79 : decode bM_made 79 = .ok (.iload_n 1, 1) := by decide +kernel
theorem dM_made_80 : decode bM_made 80 = .ok (.iastore, 1) := by decide +kernel
theorem dM_made_81 : decode bM_made 81 = .ok (.aload_n 0, 1) := by decide +kernel
theorem dM_made_82 : decode bM_made 82 = .ok (.getfield 17, 3) := by decide +kernel
theorem dM_made_85 : decode bM_made 85 = .ok (.aload_n 0, 1) := by decide +kernel
theorem dM_made_86 : decode bM_made 86 = .ok (.getfield 7, 3) := by decide +kernel
theorem dM_made_89 : decode bM_made 89 = .ok (.iload_n 2, 1) := by decide +kernel
theorem dM_made_90 : decode bM_made 90 = .ok (.iastore, 1) := by decide +kernel
theorem dM_made_91 : decode bM_made 91 = .ok (.aload_n 0, 1) := by decide +kernel
theorem dM_made_92 : decode bM_made 92 = .ok (.getfield 20, 3) := by decide +kernel
theorem dM_made_95 : decode bM_made 95 = .ok (.aload_n 0, 1) := by decide +kernel
theorem dM_made_96 : decode bM_made 96 = .ok (.getfield 7, 3) := by decide +kernel
theorem dM_made_99 : decode bM_made 99 = .ok (.iload_n 3, 1) := by decide +kernel
theorem dM_made_100 : decode bM_made 100 = .ok (.iastore, 1) := by decide +kernel
theorem dM_made_101 : decode bM_made 101 = .ok (.aload_n 0, 1) := by decide +kernel
theorem dM_made_102 : decode bM_made 102 = .ok (.dup, 1) := by decide +kernel
theorem dM_made_103 : decode bM_made 103 = .ok (.getfield 7, 3) := by decide +kernel
theorem dM_made_106 : decode bM_made 106 = .ok (.iconst 1, 1) := by decide +kernel
theorem dM_made_107 : decode bM_made 107 = .ok (.iadd, 1) := by decide +kernel
theorem dM_made_108 : decode bM_made 108 = .ok (.putfield 7, 3) := by decide +kernel
theorem dM_made_111 : decode bM_made 111 = .ok (.aload_n 0, 1) := by decide +kernel
theorem dM_made_112 : decode bM_made 112 = .ok (.iconst 0, 1) := by decide +kernel
theorem dM_made_113 : decode bM_made 113 = .ok (.putfield 58, 3) := by decide +kernel
theorem dM_made_116 : decode bM_made 116 = .ok (.aload_n 0, 1) := by decide +kernel
theorem dM_made_117 : decode bM_made 117 = .ok (.getfield 7, 3) := by decide +kernel
theorem dM_made_120 : decode bM_made 120 = .ok (.iconst 1, 1) := by decide +kernel
theorem dM_made_121 : decode bM_made 121 = .ok (.isub, 1) := by decide +kernel
theorem dM_made_122 : decode bM_made 122 = .ok (.ireturn, 1) := by decide +kernel
theorem dM_name_0 : decode bM_name 0 = .ok (.aload_n 0, 1) := by decide +kernel
theorem dM_name_1 : decode bM_name 1 = .ok (.iconst 0, 1) := by decide +kernel
theorem dM_name_2 : decode bM_name 2 = .ok (.putfield 55, 3) := by decide +kernel
theorem dM_name_5 : decode bM_name 5 = .ok (.aload_n 0, 1) := by decide +kernel
theorem dM_name_6 : decode bM_name 6 = .ok (.iconst 2, 1) := by decide +kernel
theorem dM_name_7 : decode bM_name 7 = .ok (.iconst 0, 1) := by decide +kernel
theorem dM_name_8 : decode bM_name 8 = .ok (.iconst 0, 1) := by decide +kernel
theorem dM_name_9 : decode bM_name 9 = .ok (.invokevirtual 62, 3) := by decide +kernel
theorem dM_name_12 : decode bM_name 12 = .ok (.ireturn, 1) := by decide +kernel
theorem dM_both_0 : decode bM_both 0 = .ok (.aload_n 0, 1) := by decide +kernel
theorem dM_both_1 : decode bM_both 1 = .ok (.aload_n 0, 1) := by decide +kernel
theorem dM_both_2 : decode bM_both 2 = .ok (.iload_n 1, 1) := by decide +kernel
theorem dM_both_3 : decode bM_both 3 = .ok (.invokevirtual 66, 3) := by decide +kernel
theorem dM_both_6 : decode bM_both 6 = .ok (.ifCond .eq 11, 3) := by decide +kernel
theorem dM_both_9 : decode bM_both 9 = .ok (.aload_n 0, 1) := by decide +kernel
theorem dM_both_10 : decode bM_both 10 = .ok (.iload_n 2, 1) := by decide +kernel
theorem dM_both_11 : decode bM_both 11 = .ok (.invokevirtual 66, 3) := by decide +kernel
theorem dM_both_14 : decode bM_both 14 = .ok (.ifCond .ne 7, 3) := by decide +kernel
theorem dM_both_17 : decode bM_both 17 = .ok (.iconst 1, 1) := by decide +kernel
theorem dM_both_18 : decode bM_both 18 = .ok (.goto 4, 3) := by decide +kernel
theorem dM_both_21 : decode bM_both 21 = .ok (.iconst 0, 1) := by decide +kernel
theorem dM_both_22 : decode bM_both 22 = .ok (.invokevirtual 70, 3) := by decide +kernel
theorem dM_both_25 : decode bM_both 25 = .ok (.ifCond .eq 7, 3) := by decide +kernel
theorem dM_both_28 : decode bM_both 28 = .ok (.iconst 0, 1) := by decide +kernel
theorem dM_both_29 : decode bM_both 29 = .ok (.goto 10, 3) := by decide +kernel
theorem dM_both_32 : decode bM_both 32 = .ok (.aload_n 0, 1) := by decide +kernel
theorem dM_both_33 : decode bM_both 33 = .ok (.iconst 3, 1) := by decide +kernel
theorem dM_both_34 : decode bM_both 34 = .ok (.iload_n 1, 1) := by decide +kernel
theorem dM_both_35 : decode bM_both 35 = .ok (.iload_n 2, 1) := by decide +kernel
theorem dM_both_36 : decode bM_both 36 = .ok (.invokevirtual 62, 3) := by decide +kernel
theorem dM_both_39 : decode bM_both 39 = .ok (.ireturn, 1) := by decide +kernel
theorem dM_some_0 : decode bM_some 0 = .ok (.aload_n 0, 1) := by decide +kernel
theorem dM_some_1 : decode bM_some 1 = .ok (.iload_n 1, 1) := by decide +kernel
theorem dM_some_2 : decode bM_some 2 = .ok (.invokestatic 74, 3) := by decide +kernel
theorem dM_some_5 : decode bM_some 5 = .ok (.ifCond .eq 11, 3) := by decide +kernel
theorem dM_some_8 : decode bM_some 8 = .ok (.aload_n 0, 1) := by decide +kernel
theorem dM_some_9 : decode bM_some 9 = .ok (.iload_n 2, 1) := by decide +kernel
theorem dM_some_10 : decode bM_some 10 = .ok (.invokevirtual 66, 3) := by decide +kernel
theorem dM_some_13 : decode bM_some 13 = .ok (.ifCond .ne 7, 3) := by decide +kernel
theorem dM_some_16 : decode bM_some 16 = .ok (.iconst 1, 1) := by decide +kernel
theorem dM_some_17 : decode bM_some 17 = .ok (.goto 4, 3) := by decide +kernel
theorem dM_some_20 : decode bM_some 20 = .ok (.iconst 0, 1) := by decide +kernel
theorem dM_some_21 : decode bM_some 21 = .ok (.invokevirtual 70, 3) := by decide +kernel
theorem dM_some_24 : decode bM_some 24 = .ok (.ifCond .eq 7, 3) := by decide +kernel
theorem dM_some_27 : decode bM_some 27 = .ok (.iconst 0, 1) := by decide +kernel
theorem dM_some_28 : decode bM_some 28 = .ok (.goto 10, 3) := by decide +kernel
theorem dM_some_31 : decode bM_some 31 = .ok (.aload_n 0, 1) := by decide +kernel
theorem dM_some_32 : decode bM_some 32 = .ok (.iconst 4, 1) := by decide +kernel
theorem dM_some_33 : decode bM_some 33 = .ok (.iload_n 1, 1) := by decide +kernel
theorem dM_some_34 : decode bM_some 34 = .ok (.iload_n 2, 1) := by decide +kernel
theorem dM_some_35 : decode bM_some 35 = .ok (.invokevirtual 62, 3) := by decide +kernel
theorem dM_some_38 : decode bM_some 38 = .ok (.ireturn, 1) := by decide +kernel
theorem dM_axiom_0 : decode bM_axiom 0 = .ok (.aload_n 0, 1) := by decide +kernel
theorem dM_axiom_1 : decode bM_axiom 1 = .ok (.getfield 77, 3) := by decide +kernel
theorem dM_axiom_4 : decode bM_axiom 4 = .ok (.bipush 100, 2) := by decide +kernel
theorem dM_axiom_6 : decode bM_axiom 6 = .ok (.if_icmp .ne 5, 3) := by decide +kernel
theorem dM_axiom_9 : decode bM_axiom 9 = .ok (.iconst (-1), 1) := by decide +kernel
theorem dM_axiom_10 : decode bM_axiom 10 = .ok (.ireturn, 1) := by decide +kernel
theorem dM_axiom_11 : decode bM_axiom 11 = .ok (.aload_n 0, 1) := by decide +kernel
theorem dM_axiom_12 : decode bM_axiom 12 = .ok (.dup, 1) := by decide +kernel
theorem dM_axiom_13 : decode bM_axiom 13 = .ok (.getfield 77, 3) := by decide +kernel
theorem dM_axiom_16 : decode bM_axiom 16 = .ok (.iconst 1, 1) := by decide +kernel
theorem dM_axiom_17 : decode bM_axiom 17 = .ok (.iadd, 1) := by decide +kernel
theorem dM_axiom_18 : decode bM_axiom 18 = .ok (.putfield 77, 3) := by decide +kernel
theorem dM_axiom_21 : decode bM_axiom 21 = .ok (.aload_n 0, 1) := by decide +kernel
theorem dM_axiom_22 : decode bM_axiom 22 = .ok (.getfield 23, 3) := by decide +kernel
theorem dM_axiom_25 : decode bM_axiom 25 = .ok (.aload_n 0, 1) := by decide +kernel
theorem dM_axiom_26 : decode bM_axiom 26 = .ok (.getfield 77, 3) := by decide +kernel
theorem dM_axiom_29 : decode bM_axiom 29 = .ok (.iload_n 1, 1) := by decide +kernel
theorem dM_axiom_30 : decode bM_axiom 30 = .ok (.iastore, 1) := by decide +kernel
theorem dM_axiom_31 : decode bM_axiom 31 = .ok (.aload_n 0, 1) := by decide +kernel
theorem dM_axiom_32 : decode bM_axiom 32 = .ok (.getfield 26, 3) := by decide +kernel
theorem dM_axiom_35 : decode bM_axiom 35 = .ok (.aload_n 0, 1) := by decide +kernel
theorem dM_axiom_36 : decode bM_axiom 36 = .ok (.getfield 77, 3) := by decide +kernel
theorem dM_axiom_39 : decode bM_axiom 39 = .ok (.iload_n 2, 1) := by decide +kernel
theorem dM_axiom_40 : decode bM_axiom 40 = .ok (.iastore, 1) := by decide +kernel
theorem dM_axiom_41 : decode bM_axiom 41 = .ok (.aload_n 0, 1) := by decide +kernel
theorem dM_axiom_42 : decode bM_axiom 42 = .ok (.getfield 29, 3) := by decide +kernel
theorem dM_axiom_45 : decode bM_axiom 45 = .ok (.aload_n 0, 1) := by decide +kernel
theorem dM_axiom_46 : decode bM_axiom 46 = .ok (.getfield 77, 3) := by decide +kernel
theorem dM_axiom_49 : decode bM_axiom 49 = .ok (.iload_n 3, 1) := by decide +kernel
theorem dM_axiom_50 : decode bM_axiom 50 = .ok (.iastore, 1) := by decide +kernel
theorem dM_axiom_51 : decode bM_axiom 51 = .ok (.aload_n 0, 1) := by decide +kernel
theorem dM_axiom_52 : decode bM_axiom 52 = .ok (.getfield 32, 3) := by decide +kernel
theorem dM_axiom_55 : decode bM_axiom 55 = .ok (.aload_n 0, 1) := by decide +kernel
theorem dM_axiom_56 : decode bM_axiom 56 = .ok (.getfield 77, 3) := by decide +kernel
theorem dM_axiom_59 : decode bM_axiom 59 = .ok (.iload 4, 2) := by decide +kernel
theorem dM_axiom_61 : decode bM_axiom 61 = .ok (.iastore, 1) := by decide +kernel
theorem dM_axiom_62 : decode bM_axiom 62 = .ok (.aload_n 0, 1) := by decide +kernel
theorem dM_axiom_63 : decode bM_axiom 63 = .ok (.getfield 35, 3) := by decide +kernel
theorem dM_axiom_66 : decode bM_axiom 66 = .ok (.aload_n 0, 1) := by decide +kernel
theorem dM_axiom_67 : decode bM_axiom 67 = .ok (.getfield 77, 3) := by decide +kernel
theorem dM_axiom_70 : decode bM_axiom 70 = .ok (.iconst 1, 1) := by decide +kernel
theorem dM_axiom_71 : decode bM_axiom 71 = .ok (.bastore, 1) := by decide +kernel
theorem dM_axiom_72 : decode bM_axiom 72 = .ok (.aload_n 0, 1) := by decide +kernel
theorem dM_axiom_73 : decode bM_axiom 73 = .ok (.iconst 0, 1) := by decide +kernel
theorem dM_axiom_74 : decode bM_axiom 74 = .ok (.putfield 58, 3) := by decide +kernel
theorem dM_axiom_77 : decode bM_axiom 77 = .ok (.aload_n 0, 1) := by decide +kernel
theorem dM_axiom_78 : decode bM_axiom 78 = .ok (.getfield 77, 3) := by decide +kernel
theorem dM_axiom_81 : decode bM_axiom 81 = .ok (.ireturn, 1) := by decide +kernel
theorem dM_below_0 : decode bM_below 0 = .ok (.aload_n 0, 1) := by decide +kernel
theorem dM_below_1 : decode bM_below 1 = .ok (.aload_n 0, 1) := by decide +kernel
theorem dM_below_2 : decode bM_below 2 = .ok (.iload_n 1, 1) := by decide +kernel
theorem dM_below_3 : decode bM_below 3 = .ok (.invokevirtual 66, 3) := by decide +kernel
theorem dM_below_6 : decode bM_below 6 = .ok (.ifCond .eq 11, 3) := by decide +kernel
theorem dM_below_9 : decode bM_below 9 = .ok (.aload_n 0, 1) := by decide +kernel
theorem dM_below_10 : decode bM_below 10 = .ok (.iload_n 2, 1) := by decide +kernel
theorem dM_below_11 : decode bM_below 11 = .ok (.invokevirtual 66, 3) := by decide +kernel
theorem dM_below_14 : decode bM_below 14 = .ok (.ifCond .ne 7, 3) := by decide +kernel
theorem dM_below_17 : decode bM_below 17 = .ok (.iconst 1, 1) := by decide +kernel
theorem dM_below_18 : decode bM_below 18 = .ok (.goto 4, 3) := by decide +kernel
theorem dM_below_21 : decode bM_below 21 = .ok (.iconst 0, 1) := by decide +kernel
theorem dM_below_22 : decode bM_below 22 = .ok (.invokevirtual 70, 3) := by decide +kernel
theorem dM_below_25 : decode bM_below 25 = .ok (.ifCond .eq 7, 3) := by decide +kernel
theorem dM_below_28 : decode bM_below 28 = .ok (.iconst 0, 1) := by decide +kernel
theorem dM_below_29 : decode bM_below 29 = .ok (.goto 11, 3) := by decide +kernel
theorem dM_below_32 : decode bM_below 32 = .ok (.aload_n 0, 1) := by decide +kernel
theorem dM_below_33 : decode bM_below 33 = .ok (.iconst 0, 1) := by decide +kernel
theorem dM_below_34 : decode bM_below 34 = .ok (.iload_n 1, 1) := by decide +kernel
theorem dM_below_35 : decode bM_below 35 = .ok (.iload_n 2, 1) := by decide +kernel
theorem dM_below_36 : decode bM_below 36 = .ok (.iconst 0, 1) := by decide +kernel
theorem dM_below_37 : decode bM_below 37 = .ok (.invokevirtual 80, 3) := by decide +kernel
theorem dM_below_40 : decode bM_below 40 = .ok (.ireturn, 1) := by decide +kernel
theorem dM_equal_0 : decode bM_equal 0 = .ok (.aload_n 0, 1) := by decide +kernel
theorem dM_equal_1 : decode bM_equal 1 = .ok (.aload_n 0, 1) := by decide +kernel
theorem dM_equal_2 : decode bM_equal 2 = .ok (.iload_n 1, 1) := by decide +kernel
theorem dM_equal_3 : decode bM_equal 3 = .ok (.invokevirtual 66, 3) := by decide +kernel
theorem dM_equal_6 : decode bM_equal 6 = .ok (.ifCond .eq 11, 3) := by decide +kernel
theorem dM_equal_9 : decode bM_equal 9 = .ok (.aload_n 0, 1) := by decide +kernel
theorem dM_equal_10 : decode bM_equal 10 = .ok (.iload_n 2, 1) := by decide +kernel
theorem dM_equal_11 : decode bM_equal 11 = .ok (.invokevirtual 66, 3) := by decide +kernel
theorem dM_equal_14 : decode bM_equal 14 = .ok (.ifCond .ne 7, 3) := by decide +kernel
theorem dM_equal_17 : decode bM_equal 17 = .ok (.iconst 1, 1) := by decide +kernel
theorem dM_equal_18 : decode bM_equal 18 = .ok (.goto 4, 3) := by decide +kernel
theorem dM_equal_21 : decode bM_equal 21 = .ok (.iconst 0, 1) := by decide +kernel
theorem dM_equal_22 : decode bM_equal 22 = .ok (.invokevirtual 70, 3) := by decide +kernel
theorem dM_equal_25 : decode bM_equal 25 = .ok (.ifCond .eq 7, 3) := by decide +kernel
theorem dM_equal_28 : decode bM_equal 28 = .ok (.iconst 0, 1) := by decide +kernel
theorem dM_equal_29 : decode bM_equal 29 = .ok (.goto 11, 3) := by decide +kernel
theorem dM_equal_32 : decode bM_equal 32 = .ok (.aload_n 0, 1) := by decide +kernel
theorem dM_equal_33 : decode bM_equal 33 = .ok (.iconst 1, 1) := by decide +kernel
theorem dM_equal_34 : decode bM_equal 34 = .ok (.iload_n 1, 1) := by decide +kernel
theorem dM_equal_35 : decode bM_equal 35 = .ok (.iload_n 2, 1) := by decide +kernel
theorem dM_equal_36 : decode bM_equal 36 = .ok (.iconst 0, 1) := by decide +kernel
theorem dM_equal_37 : decode bM_equal 37 = .ok (.invokevirtual 80, 3) := by decide +kernel
theorem dM_equal_40 : decode bM_equal 40 = .ok (.ireturn, 1) := by decide +kernel
theorem dM_roleBelow_0 : decode bM_roleBelow 0 = .ok (.aload_n 0, 1) := by decide +kernel
theorem dM_roleBelow_1 : decode bM_roleBelow 1 = .ok (.iload_n 1, 1) := by decide +kernel
theorem dM_roleBelow_2 : decode bM_roleBelow 2 = .ok (.invokestatic 74, 3) := by decide +kernel
theorem dM_roleBelow_5 : decode bM_roleBelow 5 = .ok (.ifCond .eq 10, 3) := by decide +kernel
theorem dM_roleBelow_8 : decode bM_roleBelow 8 = .ok (.iload_n 2, 1) := by decide +kernel
theorem dM_roleBelow_9 : decode bM_roleBelow 9 = .ok (.invokestatic 74, 3) := by decide +kernel
theorem dM_roleBelow_12 : decode bM_roleBelow 12 = .ok (.ifCond .ne 7, 3) := by decide +kernel
theorem dM_roleBelow_15 : decode bM_roleBelow 15 = .ok (.iconst 1, 1) := by decide +kernel
theorem dM_roleBelow_16 : decode bM_roleBelow 16 = .ok (.goto 4, 3) := by decide +kernel
theorem dM_roleBelow_19 : decode bM_roleBelow 19 = .ok (.iconst 0, 1) := by decide +kernel
theorem dM_roleBelow_20 : decode bM_roleBelow 20 = .ok (.invokevirtual 70, 3) := by decide +kernel
theorem dM_roleBelow_23 : decode bM_roleBelow 23 = .ok (.ifCond .eq 7, 3) := by decide +kernel
theorem dM_roleBelow_26 : decode bM_roleBelow 26 = .ok (.iconst 0, 1) := by decide +kernel
theorem dM_roleBelow_27 : decode bM_roleBelow 27 = .ok (.goto 11, 3) := by decide +kernel
theorem dM_roleBelow_30 : decode bM_roleBelow 30 = .ok (.aload_n 0, 1) := by decide +kernel
theorem dM_roleBelow_31 : decode bM_roleBelow 31 = .ok (.iconst 2, 1) := by decide +kernel
theorem dM_roleBelow_32 : decode bM_roleBelow 32 = .ok (.iload_n 1, 1) := by decide +kernel
theorem dM_roleBelow_33 : decode bM_roleBelow 33 = .ok (.iload_n 2, 1) := by decide +kernel
theorem dM_roleBelow_34 : decode bM_roleBelow 34 = .ok (.iconst 0, 1) := by decide +kernel
theorem dM_roleBelow_35 : decode bM_roleBelow 35 = .ok (.invokevirtual 80, 3) := by decide +kernel
theorem dM_roleBelow_38 : decode bM_roleBelow 38 = .ok (.ireturn, 1) := by decide +kernel
theorem dM_chain_0 : decode bM_chain 0 = .ok (.aload_n 0, 1) := by decide +kernel
theorem dM_chain_1 : decode bM_chain 1 = .ok (.iload_n 1, 1) := by decide +kernel
theorem dM_chain_2 : decode bM_chain 2 = .ok (.invokestatic 74, 3) := by decide +kernel
theorem dM_chain_5 : decode bM_chain 5 = .ok (.ifCond .eq 17, 3) := by decide +kernel
theorem dM_chain_8 : decode bM_chain 8 = .ok (.iload_n 2, 1) := by decide +kernel
theorem dM_chain_9 : decode bM_chain 9 = .ok (.invokestatic 74, 3) := by decide +kernel
theorem dM_chain_12 : decode bM_chain 12 = .ok (.ifCond .eq 10, 3) := by decide +kernel
theorem dM_chain_15 : decode bM_chain 15 = .ok (.iload_n 3, 1) := by decide +kernel
theorem dM_chain_16 : decode bM_chain 16 = .ok (.invokestatic 74, 3) := by decide +kernel
theorem dM_chain_19 : decode bM_chain 19 = .ok (.ifCond .ne 7, 3) := by decide +kernel
theorem dM_chain_22 : decode bM_chain 22 = .ok (.iconst 1, 1) := by decide +kernel
theorem dM_chain_23 : decode bM_chain 23 = .ok (.goto 4, 3) := by decide +kernel
theorem dM_chain_26 : decode bM_chain 26 = .ok (.iconst 0, 1) := by decide +kernel
theorem dM_chain_27 : decode bM_chain 27 = .ok (.invokevirtual 70, 3) := by decide +kernel
theorem dM_chain_30 : decode bM_chain 30 = .ok (.ifCond .eq 7, 3) := by decide +kernel
theorem dM_chain_33 : decode bM_chain 33 = .ok (.iconst 0, 1) := by decide +kernel
theorem dM_chain_34 : decode bM_chain 34 = .ok (.goto 11, 3) := by decide +kernel
theorem dM_chain_37 : decode bM_chain 37 = .ok (.aload_n 0, 1) := by decide +kernel
theorem dM_chain_38 : decode bM_chain 38 = .ok (.iconst 3, 1) := by decide +kernel
theorem dM_chain_39 : decode bM_chain 39 = .ok (.iload_n 1, 1) := by decide +kernel
theorem dM_chain_40 : decode bM_chain 40 = .ok (.iload_n 2, 1) := by decide +kernel
theorem dM_chain_41 : decode bM_chain 41 = .ok (.iload_n 3, 1) := by decide +kernel
theorem dM_chain_42 : decode bM_chain 42 = .ok (.invokevirtual 80, 3) := by decide +kernel
theorem dM_chain_45 : decode bM_chain 45 = .ok (.ireturn, 1) := by decide +kernel
theorem dM_retract_0 : decode bM_retract 0 = .ok (.aload_n 0, 1) := by decide +kernel
theorem dM_retract_1 : decode bM_retract 1 = .ok (.iconst 0, 1) := by decide +kernel
theorem dM_retract_2 : decode bM_retract 2 = .ok (.putfield 55, 3) := by decide +kernel
theorem dM_retract_5 : decode bM_retract 5 = .ok (.iload_n 1, 1) := by decide +kernel
theorem dM_retract_6 : decode bM_retract 6 = .ok (.iconst 1, 1) := by decide +kernel
theorem dM_retract_7 : decode bM_retract 7 = .ok (.if_icmp .lt 20, 3) := by decide +kernel
theorem dM_retract_10 : decode bM_retract 10 = .ok (.iload_n 1, 1) := by decide +kernel
theorem dM_retract_11 : decode bM_retract 11 = .ok (.aload_n 0, 1) := by decide +kernel
theorem dM_retract_12 : decode bM_retract 12 = .ok (.getfield 77, 3) := by decide +kernel
theorem dM_retract_15 : decode bM_retract 15 = .ok (.if_icmp .gt 12, 3) := by decide +kernel
theorem dM_retract_18 : decode bM_retract 18 = .ok (.aload_n 0, 1) := by decide +kernel
theorem dM_retract_19 : decode bM_retract 19 = .ok (.getfield 35, 3) := by decide +kernel
theorem dM_retract_22 : decode bM_retract 22 = .ok (.iload_n 1, 1) := by decide +kernel
theorem dM_retract_23 : decode bM_retract 23 = .ok (.baload, 1) := by decide +kernel
theorem dM_retract_24 : decode bM_retract 24 = .ok (.ifCond .ne 5, 3) := by decide +kernel
theorem dM_retract_27 : decode bM_retract 27 = .ok (.iconst 0, 1) := by decide +kernel
theorem dM_retract_28 : decode bM_retract 28 = .ok (.ireturn, 1) := by decide +kernel
theorem dM_retract_29 : decode bM_retract 29 = .ok (.aload_n 0, 1) := by decide +kernel
theorem dM_retract_30 : decode bM_retract 30 = .ok (.getfield 35, 3) := by decide +kernel
theorem dM_retract_33 : decode bM_retract 33 = .ok (.iload_n 1, 1) := by decide +kernel
theorem dM_retract_34 : decode bM_retract 34 = .ok (.iconst 0, 1) := by decide +kernel
theorem dM_retract_35 : decode bM_retract 35 = .ok (.bastore, 1) := by decide +kernel
theorem dM_retract_36 : decode bM_retract 36 = .ok (.aload_n 0, 1) := by decide +kernel
theorem dM_retract_37 : decode bM_retract 37 = .ok (.iconst 0, 1) := by decide +kernel
theorem dM_retract_38 : decode bM_retract 38 = .ok (.putfield 58, 3) := by decide +kernel
theorem dM_retract_41 : decode bM_retract 41 = .ok (.iconst 1, 1) := by decide +kernel
theorem dM_retract_42 : decode bM_retract 42 = .ok (.ireturn, 1) := by decide +kernel
theorem dM_in_0 : decode bM_in 0 = .ok (.aload_n 0, 1) := by decide +kernel
theorem dM_in_1 : decode bM_in 1 = .ok (.iconst 3, 1) := by decide +kernel
theorem dM_in_2 : decode bM_in 2 = .ok (.iload_n 1, 1) := by decide +kernel
theorem dM_in_3 : decode bM_in 3 = .ok (.imul, 1) := by decide +kernel
theorem dM_in_4 : decode bM_in 4 = .ok (.iload_n 2, 1) := by decide +kernel
theorem dM_in_5 : decode bM_in 5 = .ok (.bipush 6, 2) := by decide +kernel
theorem dM_in_7 : decode bM_in 7 = .ok (.ishr, 1) := by decide +kernel
theorem dM_in_8 : decode bM_in 8 = .ok (.iadd, 1) := by decide +kernel
theorem dM_in_9 : decode bM_in 9 = .ok (.laload, 1) := by decide +kernel
theorem dM_in_10 : decode bM_in 10 = .ok (.iload_n 2, 1) := by decide +kernel
theorem dM_in_11 : decode bM_in 11 = .ok (.bipush 63, 2) := by decide +kernel
theorem dM_in_13 : decode bM_in 13 = .ok (.iand, 1) := by decide +kernel
theorem dM_in_14 : decode bM_in 14 = .ok (.lshr, 1) := by decide +kernel
theorem dM_in_15 : decode bM_in 15 = .ok (.lconst 1, 1) := by decide +kernel
theorem dM_in_16 : decode bM_in 16 = .ok (.land, 1) := by decide +kernel
theorem dM_in_17 : decode bM_in 17 = .ok (.lconst 1, 1) := by decide +kernel
theorem dM_in_18 : decode bM_in 18 = .ok (.lcmp, 1) := by decide +kernel
theorem dM_in_19 : decode bM_in 19 = .ok (.ifCond .ne 7, 3) := by decide +kernel
theorem dM_in_22 : decode bM_in 22 = .ok (.iconst 1, 1) := by decide +kernel
theorem dM_in_23 : decode bM_in 23 = .ok (.goto 4, 3) := by decide +kernel
theorem dM_in_26 : decode bM_in 26 = .ok (.iconst 0, 1) := by decide +kernel
theorem dM_in_27 : decode bM_in 27 = .ok (.ireturn, 1) := by decide +kernel
theorem dM_set_0 : decode bM_set 0 = .ok (.aload_n 0, 1) := by decide +kernel
theorem dM_set_1 : decode bM_set 1 = .ok (.iconst 3, 1) := by decide +kernel
theorem dM_set_2 : decode bM_set 2 = .ok (.iload_n 1, 1) := by decide +kernel
theorem dM_set_3 : decode bM_set 3 = .ok (.imul, 1) := by decide +kernel
theorem dM_set_4 : decode bM_set 4 = .ok (.iload_n 2, 1) := by decide +kernel
theorem dM_set_5 : decode bM_set 5 = .ok (.bipush 6, 2) := by decide +kernel
theorem dM_set_7 : decode bM_set 7 = .ok (.ishr, 1) := by decide +kernel
theorem dM_set_8 : decode bM_set 8 = .ok (.iadd, 1) := by decide +kernel
theorem dM_set_9 : decode bM_set 9 = .ok (.dup2, 1) := by decide +kernel
theorem dM_set_10 : decode bM_set 10 = .ok (.laload, 1) := by decide +kernel
theorem dM_set_11 : decode bM_set 11 = .ok (.lconst 1, 1) := by decide +kernel
theorem dM_set_12 : decode bM_set 12 = .ok (.iload_n 2, 1) := by decide +kernel
theorem dM_set_13 : decode bM_set 13 = .ok (.bipush 63, 2) := by decide +kernel
theorem dM_set_15 : decode bM_set 15 = .ok (.iand, 1) := by decide +kernel
theorem dM_set_16 : decode bM_set 16 = .ok (.lshl, 1) := by decide +kernel
theorem dM_set_17 : decode bM_set 17 = .ok (.lor, 1) := by decide +kernel
theorem dM_set_18 : decode bM_set 18 = .ok (.lastore, 1) := by decide +kernel
theorem dM_set_19 : decode bM_set 19 = .ok (.return_, 1) := by decide +kernel
theorem dM_add_0 : decode bM_add 0 = .ok (.aload_n 0, 1) := by decide +kernel
theorem dM_add_1 : decode bM_add 1 = .ok (.getfield 42, 3) := by decide +kernel
theorem dM_add_4 : decode bM_add 4 = .ok (.iload_n 1, 1) := by decide +kernel
theorem dM_add_5 : decode bM_add 5 = .ok (.iload_n 2, 1) := by decide +kernel
theorem dM_add_6 : decode bM_add 6 = .ok (.invokestatic 84, 3) := by decide +kernel
theorem dM_add_9 : decode bM_add 9 = .ok (.ifCond .eq 4, 3) := by decide +kernel
theorem dM_add_12 : decode bM_add 12 = .ok (.return_, 1) := by decide +kernel
theorem dM_add_13 : decode bM_add 13 = .ok (.aload_n 0, 1) := by decide +kernel
theorem dM_add_14 : decode bM_add 14 = .ok (.getfield 42, 3) := by decide +kernel
theorem dM_add_17 : decode bM_add 17 = .ok (.iload_n 1, 1) := by decide +kernel
theorem dM_add_18 : decode bM_add 18 = .ok (.iload_n 2, 1) := by decide +kernel
theorem dM_add_19 : decode bM_add 19 = .ok (.invokestatic 88, 3) := by decide +kernel
theorem dM_add_22 : decode bM_add 22 = .ok (.aload_n 0, 1) := by decide +kernel
theorem dM_add_23 : decode bM_add 23 = .ok (.getfield 46, 3) := by decide +kernel
theorem dM_add_26 : decode bM_add 26 = .ok (.iload_n 2, 1) := by decide +kernel
theorem dM_add_27 : decode bM_add 27 = .ok (.iload_n 1, 1) := by decide +kernel
theorem dM_add_28 : decode bM_add 28 = .ok (.invokestatic 88, 3) := by decide +kernel
theorem dM_add_31 : decode bM_add 31 = .ok (.aload_n 0, 1) := by decide +kernel
theorem dM_add_32 : decode bM_add 32 = .ok (.iconst 1, 1) := by decide +kernel
theorem dM_add_33 : decode bM_add 33 = .ok (.putfield 92, 3) := by decide +kernel
theorem dM_add_36 : decode bM_add 36 = .ok (.return_, 1) := by decide +kernel
theorem dM_join_0 : decode bM_join 0 = .ok (.iconst 0, 1) := by decide +kernel
theorem dM_join_1 : decode bM_join 1 = .ok (.istore_n 3, 1) := by decide +kernel
theorem dM_join_2 : decode bM_join 2 = .ok (.iload_n 3, 1) := by decide +kernel
theorem dM_join_3 : decode bM_join 3 = .ok (.iconst 3, 1) := by decide +kernel
theorem dM_join_4 : decode bM_join 4 = .ok (.if_icmp .ge 76, 3) := by decide +kernel
theorem dM_join_7 : decode bM_join 7 = .ok (.aload_n 0, 1) := by decide +kernel
theorem dM_join_8 : decode bM_join 8 = .ok (.getfield 49, 3) := by decide +kernel
theorem dM_join_11 : decode bM_join 11 = .ok (.iconst 3, 1) := by decide +kernel
theorem dM_join_12 : decode bM_join 12 = .ok (.iload_n 1, 1) := by decide +kernel
theorem dM_join_13 : decode bM_join 13 = .ok (.imul, 1) := by decide +kernel
theorem dM_join_14 : decode bM_join 14 = .ok (.iload_n 3, 1) := by decide +kernel
theorem dM_join_15 : decode bM_join 15 = .ok (.iadd, 1) := by decide +kernel
theorem dM_join_16 : decode bM_join 16 = .ok (.laload, 1) := by decide +kernel
theorem dM_join_17 : decode bM_join 17 = .ok (.aload_n 0, 1) := by decide +kernel
theorem dM_join_18 : decode bM_join 18 = .ok (.getfield 49, 3) := by decide +kernel
theorem dM_join_21 : decode bM_join 21 = .ok (.iconst 3, 1) := by decide +kernel
theorem dM_join_22 : decode bM_join 22 = .ok (.iload_n 2, 1) := by decide +kernel
theorem dM_join_23 : decode bM_join 23 = .ok (.imul, 1) := by decide +kernel
theorem dM_join_24 : decode bM_join 24 = .ok (.iload_n 3, 1) := by decide +kernel
theorem dM_join_25 : decode bM_join 25 = .ok (.iadd, 1) := by decide +kernel
theorem dM_join_26 : decode bM_join 26 = .ok (.laload, 1) := by decide +kernel
theorem dM_join_27 : decode bM_join 27 = .ok (.lor, 1) := by decide +kernel
theorem dM_join_28 : decode bM_join 28 = .ok (.lstore 4, 2) := by decide +kernel
theorem dM_join_30 : decode bM_join 30 = .ok (.aload_n 0, 1) := by decide +kernel
theorem dM_join_31 : decode bM_join 31 = .ok (.aload_n 0, 1) := by decide +kernel
theorem dM_join_32 : decode bM_join 32 = .ok (.getfield 92, 3) := by decide +kernel
theorem dM_join_35 : decode bM_join 35 = .ok (.ifCond .ne 19, 3) := by decide +kernel
theorem dM_join_38 : decode bM_join 38 = .ok (.lload 4, 2) := by decide +kernel
theorem dM_join_40 : decode bM_join 40 = .ok (.aload_n 0, 1) := by decide +kernel
theorem dM_join_41 : decode bM_join 41 = .ok (.getfield 49, 3) := by decide +kernel
theorem dM_join_44 : decode bM_join 44 = .ok (.iconst 3, 1) := by decide +kernel
theorem dM_join_45 : decode bM_join 45 = .ok (.iload_n 1, 1) := by decide +kernel
theorem dM_join_46 : decode bM_join 46 = .ok (.imul, 1) := by decide +kernel
theorem dM_join_47 : decode bM_join 47 = .ok (.iload_n 3, 1) := by decide +kernel
theorem dM_join_48 : decode bM_join 48 = .ok (.iadd, 1) := by decide +kernel
theorem dM_join_49 : decode bM_join 49 = .ok (.laload, 1) := by decide +kernel
theorem dM_join_50 : decode bM_join 50 = .ok (.lcmp, 1) := by decide +kernel
theorem dM_join_51 : decode bM_join 51 = .ok (.ifCond .eq 7, 3) := by decide +kernel
theorem dM_join_54 : decode bM_join 54 = .ok (.iconst 1, 1) := by decide +kernel
theorem dM_join_55 : decode bM_join 55 = .ok (.goto 4, 3) := by decide +kernel
theorem dM_join_58 : decode bM_join 58 = .ok (.iconst 0, 1) := by decide +kernel
theorem dM_join_59 : decode bM_join 59 = .ok (.putfield 92, 3) := by decide +kernel
theorem dM_join_62 : decode bM_join 62 = .ok (.aload_n 0, 1) := by decide +kernel
theorem dM_join_63 : decode bM_join 63 = .ok (.getfield 49, 3) := by decide +kernel
theorem dM_join_66 : decode bM_join 66 = .ok (.iconst 3, 1) := by decide +kernel
theorem dM_join_67 : decode bM_join 67 = .ok (.iload_n 1, 1) := by decide +kernel
theorem dM_join_68 : decode bM_join 68 = .ok (.imul, 1) := by decide +kernel
theorem dM_join_69 : decode bM_join 69 = .ok (.iload_n 3, 1) := by decide +kernel
theorem dM_join_70 : decode bM_join 70 = .ok (.iadd, 1) := by decide +kernel
theorem dM_join_71 : decode bM_join 71 = .ok (.lload 4, 2) := by decide +kernel
theorem dM_join_73 : decode bM_join 73 = .ok (.lastore, 1) := by decide +kernel
theorem dM_join_74 : decode bM_join 74 = .ok (.iinc 3 1, 3) := by decide +kernel
theorem dM_join_77 : decode bM_join 77 = .ok (.goto (-75), 3) := by decide +kernel
theorem dM_join_80 : decode bM_join 80 = .ok (.return_, 1) := by decide +kernel
theorem dM_row_0 : decode bM_row 0 = .ok (.sipush 160, 3) := by decide +kernel
theorem dM_row_3 : decode bM_row 3 = .ok (.iload_n 0, 1) := by decide +kernel
theorem dM_row_4 : decode bM_row 4 = .ok (.imul, 1) := by decide +kernel
theorem dM_row_5 : decode bM_row 5 = .ok (.iload_n 1, 1) := by decide +kernel
theorem dM_row_6 : decode bM_row 6 = .ok (.iadd, 1) := by decide +kernel
theorem dM_row_7 : decode bM_row 7 = .ok (.ireturn, 1) := by decide +kernel
theorem dM_meets_0 : decode bM_meets 0 = .ok (.lconst 0, 1) := by decide +kernel
theorem dM_meets_1 : decode bM_meets 1 = .ok (.lstore 4, 2) := by decide +kernel
theorem dM_meets_3 : decode bM_meets 3 = .ok (.iconst 0, 1) := by decide +kernel
theorem dM_meets_4 : decode bM_meets 4 = .ok (.istore 6, 2) := by decide +kernel
theorem dM_meets_6 : decode bM_meets 6 = .ok (.iload 6, 2) := by decide +kernel
theorem dM_meets_8 : decode bM_meets 8 = .ok (.iconst 3, 1) := by decide +kernel
theorem dM_meets_9 : decode bM_meets 9 = .ok (.if_icmp .ge 41, 3) := by decide +kernel
theorem dM_meets_12 : decode bM_meets 12 = .ok (.lload 4, 2) := by decide +kernel
theorem dM_meets_14 : decode bM_meets 14 = .ok (.aload_n 0, 1) := by decide +kernel
theorem dM_meets_15 : decode bM_meets 15 = .ok (.getfield 49, 3) := by decide +kernel
theorem dM_meets_18 : decode bM_meets 18 = .ok (.iconst 3, 1) := by decide +kernel
theorem dM_meets_19 : decode bM_meets 19 = .ok (.iload_n 1, 1) := by decide +kernel
theorem dM_meets_20 : decode bM_meets 20 = .ok (.iload_n 2, 1) := by decide +kernel
theorem dM_meets_21 : decode bM_meets 21 = .ok (.invokestatic 95, 3) := by decide +kernel
theorem dM_meets_24 : decode bM_meets 24 = .ok (.imul, 1) := by decide +kernel
theorem dM_meets_25 : decode bM_meets 25 = .ok (.iload 6, 2) := by decide +kernel
theorem dM_meets_27 : decode bM_meets 27 = .ok (.iadd, 1) := by decide +kernel
theorem dM_meets_28 : decode bM_meets 28 = .ok (.laload, 1) := by decide +kernel
theorem dM_meets_29 : decode bM_meets 29 = .ok (.aload_n 0, 1) := by decide +kernel
theorem dM_meets_30 : decode bM_meets 30 = .ok (.getfield 46, 3) := by decide +kernel
theorem dM_meets_33 : decode bM_meets 33 = .ok (.iconst 3, 1) := by decide +kernel
theorem dM_meets_34 : decode bM_meets 34 = .ok (.iload_n 3, 1) := by decide +kernel
theorem dM_meets_35 : decode bM_meets 35 = .ok (.imul, 1) := by decide +kernel
theorem dM_meets_36 : decode bM_meets 36 = .ok (.iload 6, 2) := by decide +kernel
theorem dM_meets_38 : decode bM_meets 38 = .ok (.iadd, 1) := by decide +kernel
theorem dM_meets_39 : decode bM_meets 39 = .ok (.laload, 1) := by decide +kernel
theorem dM_meets_40 : decode bM_meets 40 = .ok (.land, 1) := by decide +kernel
theorem dM_meets_41 : decode bM_meets 41 = .ok (.lor, 1) := by decide +kernel
theorem dM_meets_42 : decode bM_meets 42 = .ok (.lstore 4, 2) := by decide +kernel
theorem dM_meets_44 : decode bM_meets 44 = .ok (.iinc 6 1, 3) := by decide +kernel
theorem dM_meets_47 : decode bM_meets 47 = .ok (.goto (-41), 3) := by decide +kernel
theorem dM_meets_50 : decode bM_meets 50 = .ok (.lload 4, 2) := by decide +kernel
theorem dM_meets_52 : decode bM_meets 52 = .ok (.lconst 0, 1) := by decide +kernel
theorem dM_meets_53 : decode bM_meets 53 = .ok (.lcmp, 1) := by decide +kernel
theorem dM_meets_54 : decode bM_meets 54 = .ok (.ifCond .eq 7, 3) := by decide +kernel
theorem dM_meets_57 : decode bM_meets 57 = .ok (.iconst 1, 1) := by decide +kernel
theorem dM_meets_58 : decode bM_meets 58 = .ok (.goto 4, 3) := by decide +kernel
theorem dM_meets_61 : decode bM_meets 61 = .ok (.iconst 0, 1) := by decide +kernel
theorem dM_meets_62 : decode bM_meets 62 = .ok (.ireturn, 1) := by decide +kernel
theorem dM_byAxioms_0 : decode bM_byAxioms 0 = .ok (.iconst 1, 1) := by decide +kernel
theorem dM_byAxioms_1 : decode bM_byAxioms 1 = .ok (.istore_n 2, 1) := by decide +kernel
theorem dM_byAxioms_2 : decode bM_byAxioms 2 = .ok (.iload_n 2, 1) := by decide +kernel
theorem dM_byAxioms_3 : decode bM_byAxioms 3 = .ok (.aload_n 0, 1) := by decide +kernel
theorem dM_byAxioms_4 : decode bM_byAxioms 4 = .ok (.getfield 77, 3) := by decide +kernel
theorem dM_byAxioms_7 : decode bM_byAxioms 7 = .ok (.if_icmp .gt 139, 3) := by decide +kernel
theorem dM_byAxioms_10 : decode bM_byAxioms 10 = .ok (.aload_n 0, 1) := by decide +kernel
theorem dM_byAxioms_11 : decode bM_byAxioms 11 = .ok (.getfield 39, 3) := by decide +kernel
theorem dM_byAxioms_14 : decode bM_byAxioms 14 = .ok (.iload_n 2, 1) := by decide +kernel
theorem dM_byAxioms_15 : decode bM_byAxioms 15 = .ok (.baload, 1) := by decide +kernel
theorem dM_byAxioms_16 : decode bM_byAxioms 16 = .ok (.ifCond .ne 6, 3) := by decide +kernel
theorem dM_byAxioms_19 : decode bM_byAxioms 19 = .ok (.goto 121, 3) := by decide +kernel
theorem dM_byAxioms_22 : decode bM_byAxioms 22 = .ok (.aload_n 0, 1) := by decide +kernel
theorem dM_byAxioms_23 : decode bM_byAxioms 23 = .ok (.getfield 26, 3) := by decide +kernel
theorem dM_byAxioms_26 : decode bM_byAxioms 26 = .ok (.iload_n 2, 1) := by decide +kernel
theorem dM_byAxioms_27 : decode bM_byAxioms 27 = .ok (.iaload, 1) := by decide +kernel
theorem dM_byAxioms_28 : decode bM_byAxioms 28 = .ok (.istore_n 3, 1) := by decide +kernel
theorem dM_byAxioms_29 : decode bM_byAxioms 29 = .ok (.aload_n 0, 1) := by decide +kernel
theorem dM_byAxioms_30 : decode bM_byAxioms 30 = .ok (.getfield 29, 3) := by decide +kernel
theorem dM_byAxioms_33 : decode bM_byAxioms 33 = .ok (.iload_n 2, 1) := by decide +kernel
theorem dM_byAxioms_34 : decode bM_byAxioms 34 = .ok (.iaload, 1) := by decide +kernel
theorem dM_byAxioms_35 : decode bM_byAxioms 35 = .ok (.istore 4, 2) := by decide +kernel
theorem dM_byAxioms_37 : decode bM_byAxioms 37 = .ok (.aload_n 0, 1) := by decide +kernel
theorem dM_byAxioms_38 : decode bM_byAxioms 38 = .ok (.getfield 23, 3) := by decide +kernel
theorem dM_byAxioms_41 : decode bM_byAxioms 41 = .ok (.iload_n 2, 1) := by decide +kernel
theorem dM_byAxioms_42 : decode bM_byAxioms 42 = .ok (.iaload, 1) := by decide +kernel
theorem dM_byAxioms_43 : decode bM_byAxioms 43 = .ok (.iconst 2, 1) := by decide +kernel
theorem dM_byAxioms_44 : decode bM_byAxioms 44 = .ok (.if_icmp .ne 21, 3) := by decide +kernel
theorem dM_byAxioms_47 : decode bM_byAxioms 47 = .ok (.aload_n 0, 1) := by decide +kernel
theorem dM_byAxioms_48 : decode bM_byAxioms 48 = .ok (.iload 4, 2) := by decide +kernel
theorem dM_byAxioms_50 : decode bM_byAxioms 50 = .ok (.iload_n 1, 1) := by decide +kernel
theorem dM_byAxioms_51 : decode bM_byAxioms 51 = .ok (.invokestatic 95, 3) := by decide +kernel
theorem dM_byAxioms_54 : decode bM_byAxioms 54 = .ok (.iload_n 3, 1) := by decide +kernel
theorem dM_byAxioms_55 : decode bM_byAxioms 55 = .ok (.iload_n 1, 1) := by decide +kernel
theorem dM_byAxioms_56 : decode bM_byAxioms 56 = .ok (.invokestatic 95, 3) := by decide +kernel
theorem dM_byAxioms_59 : decode bM_byAxioms 59 = .ok (.invokevirtual 99, 3) := by decide +kernel
theorem dM_byAxioms_62 : decode bM_byAxioms 62 = .ok (.goto 78, 3) := by decide +kernel
theorem dM_byAxioms_65 : decode bM_byAxioms 65 = .ok (.aload_n 0, 1) := by decide +kernel
theorem dM_byAxioms_66 : decode bM_byAxioms 66 = .ok (.getfield 23, 3) := by decide +kernel
theorem dM_byAxioms_69 : decode bM_byAxioms 69 = .ok (.iload_n 2, 1) := by decide +kernel
theorem dM_byAxioms_70 : decode bM_byAxioms 70 = .ok (.iaload, 1) := by decide +kernel
theorem dM_byAxioms_71 : decode bM_byAxioms 71 = .ok (.iconst 3, 1) := by decide +kernel
theorem dM_byAxioms_72 : decode bM_byAxioms 72 = .ok (.if_icmp .ne 20, 3) := by decide +kernel
theorem dM_byAxioms_75 : decode bM_byAxioms 75 = .ok (.aload_n 0, 1) := by decide +kernel
theorem dM_byAxioms_76 : decode bM_byAxioms 76 = .ok (.iload_n 1, 1) := by decide +kernel
theorem dM_byAxioms_77 : decode bM_byAxioms 77 = .ok (.iload_n 3, 1) := by decide +kernel
theorem dM_byAxioms_78 : decode bM_byAxioms 78 = .ok (.iload 4, 2) := by decide +kernel
theorem dM_byAxioms_80 : decode bM_byAxioms 80 = .ok (.aload_n 0, 1) := by decide +kernel
theorem dM_byAxioms_81 : decode bM_byAxioms 81 = .ok (.getfield 32, 3) := by decide +kernel
theorem dM_byAxioms_84 : decode bM_byAxioms 84 = .ok (.iload_n 2, 1) := by decide +kernel
theorem dM_byAxioms_85 : decode bM_byAxioms 85 = .ok (.iaload, 1) := by decide +kernel
theorem dM_byAxioms_86 : decode bM_byAxioms 86 = .ok (.invokevirtual 103, 3) := by decide +kernel
theorem dM_byAxioms_89 : decode bM_byAxioms 89 = .ok (.goto 51, 3) := by decide +kernel
theorem dM_byAxioms_92 : decode bM_byAxioms 92 = .ok (.aload_n 0, 1) := by decide +kernel
theorem dM_byAxioms_93 : decode bM_byAxioms 93 = .ok (.getfield 42, 3) := by decide +kernel
theorem dM_byAxioms_96 : decode bM_byAxioms 96 = .ok (.iload_n 1, 1) := by decide +kernel
theorem dM_byAxioms_97 : decode bM_byAxioms 97 = .ok (.iload_n 3, 1) := by decide +kernel
theorem dM_byAxioms_98 : decode bM_byAxioms 98 = .ok (.invokestatic 84, 3) := by decide +kernel
theorem dM_byAxioms_101 : decode bM_byAxioms 101 = .ok (.ifCond .eq 10, 3) := by decide +kernel
theorem dM_byAxioms_104 : decode bM_byAxioms 104 = .ok (.aload_n 0, 1) := by decide +kernel
theorem dM_byAxioms_105 : decode bM_byAxioms 105 = .ok (.iload_n 1, 1) := by decide +kernel
theorem dM_byAxioms_106 : decode bM_byAxioms 106 = .ok (.iload 4, 2) := by decide +kernel
theorem dM_byAxioms_108 : decode bM_byAxioms 108 = .ok (.invokevirtual 107, 3) := by decide +kernel
theorem dM_byAxioms_111 : decode bM_byAxioms 111 = .ok (.aload_n 0, 1) := by decide +kernel
theorem dM_byAxioms_112 : decode bM_byAxioms 112 = .ok (.getfield 23, 3) := by decide +kernel
theorem dM_byAxioms_115 : decode bM_byAxioms 115 = .ok (.iload_n 2, 1) := by decide +kernel
theorem dM_byAxioms_116 : decode bM_byAxioms 116 = .ok (.iaload, 1) := by decide +kernel
theorem dM_byAxioms_117 : decode bM_byAxioms 117 = .ok (.iconst 1, 1) := by decide +kernel
theorem dM_byAxioms_118 : decode bM_byAxioms 118 = .ok (.if_icmp .ne 22, 3) := by decide +kernel
theorem dM_byAxioms_121 : decode bM_byAxioms 121 = .ok (.aload_n 0, 1) := by decide +kernel
theorem dM_byAxioms_122 : decode bM_byAxioms 122 = .ok (.getfield 42, 3) := by decide +kernel
theorem dM_byAxioms_125 : decode bM_byAxioms 125 = .ok (.iload_n 1, 1) := by decide +kernel
theorem dM_byAxioms_126 : decode bM_byAxioms 126 = .ok (.iload 4, 2) := by decide +kernel
theorem dM_byAxioms_128 : decode bM_byAxioms 128 = .ok (.invokestatic 84, 3) := by decide +kernel
theorem dM_byAxioms_131 : decode bM_byAxioms 131 = .ok (.ifCond .eq 9, 3) := by decide +kernel
theorem dM_byAxioms_134 : decode bM_byAxioms 134 = .ok (.aload_n 0, 1) := by decide +kernel
theorem dM_byAxioms_135 : decode bM_byAxioms 135 = .ok (.iload_n 1, 1) := by decide +kernel
theorem dM_byAxioms_136 : decode bM_byAxioms 136 = .ok (.iload_n 3, 1) := by decide +kernel
theorem dM_byAxioms_137 : decode bM_byAxioms 137 = .ok (.invokevirtual 107, 3) := by decide +kernel
theorem dM_byAxioms_140 : decode bM_byAxioms 140 = .ok (.iinc 2 1, 3) := by decide +kernel
theorem dM_byAxioms_143 : decode bM_byAxioms 143 = .ok (.goto (-141), 3) := by decide +kernel
theorem dM_byAxioms_146 : decode bM_byAxioms 146 = .ok (.return_, 1) := by decide +kernel
theorem dM_byChain_0 : decode bM_byChain 0 = .ok (.iconst 0, 1) := by decide +kernel
theorem dM_byChain_1 : decode bM_byChain 1 = .ok (.istore 5, 2) := by decide +kernel
theorem dM_byChain_3 : decode bM_byChain 3 = .ok (.iload 5, 2) := by decide +kernel
theorem dM_byChain_5 : decode bM_byChain 5 = .ok (.aload_n 0, 1) := by decide +kernel
theorem dM_byChain_6 : decode bM_byChain 6 = .ok (.getfield 7, 3) := by decide +kernel
theorem dM_byChain_9 : decode bM_byChain 9 = .ok (.if_icmp .ge 42, 3) := by decide +kernel
theorem dM_byChain_12 : decode bM_byChain 12 = .ok (.aload_n 0, 1) := by decide +kernel
theorem dM_byChain_13 : decode bM_byChain 13 = .ok (.getfield 49, 3) := by decide +kernel
theorem dM_byChain_16 : decode bM_byChain 16 = .ok (.iload_n 2, 1) := by decide +kernel
theorem dM_byChain_17 : decode bM_byChain 17 = .ok (.iload_n 1, 1) := by decide +kernel
theorem dM_byChain_18 : decode bM_byChain 18 = .ok (.invokestatic 95, 3) := by decide +kernel
theorem dM_byChain_21 : decode bM_byChain 21 = .ok (.iload 5, 2) := by decide +kernel
theorem dM_byChain_23 : decode bM_byChain 23 = .ok (.invokestatic 84, 3) := by decide +kernel
theorem dM_byChain_26 : decode bM_byChain 26 = .ok (.ifCond .eq 19, 3) := by decide +kernel
theorem dM_byChain_29 : decode bM_byChain 29 = .ok (.aload_n 0, 1) := by decide +kernel
theorem dM_byChain_30 : decode bM_byChain 30 = .ok (.iload 4, 2) := by decide +kernel
theorem dM_byChain_32 : decode bM_byChain 32 = .ok (.iload_n 1, 1) := by decide +kernel
theorem dM_byChain_33 : decode bM_byChain 33 = .ok (.invokestatic 95, 3) := by decide +kernel
theorem dM_byChain_36 : decode bM_byChain 36 = .ok (.iload_n 3, 1) := by decide +kernel
theorem dM_byChain_37 : decode bM_byChain 37 = .ok (.iload 5, 2) := by decide +kernel
theorem dM_byChain_39 : decode bM_byChain 39 = .ok (.invokestatic 95, 3) := by decide +kernel
theorem dM_byChain_42 : decode bM_byChain 42 = .ok (.invokevirtual 99, 3) := by decide +kernel
theorem dM_byChain_45 : decode bM_byChain 45 = .ok (.iinc 5 1, 3) := by decide +kernel
theorem dM_byChain_48 : decode bM_byChain 48 = .ok (.goto (-45), 3) := by decide +kernel
theorem dM_byChain_51 : decode bM_byChain 51 = .ok (.return_, 1) := by decide +kernel
theorem dM_byDescriptions_0 : decode bM_byDescriptions 0 = .ok (.iconst 2, 1) := by decide +kernel
theorem dM_byDescriptions_1 : decode bM_byDescriptions 1 = .ok (.istore_n 2, 1) := by decide +kernel
theorem dM_byDescriptions_2 : decode bM_byDescriptions 2 = .ok (.iload_n 2, 1) := by decide +kernel
theorem dM_byDescriptions_3 : decode bM_byDescriptions 3 = .ok (.aload_n 0, 1) := by decide +kernel
theorem dM_byDescriptions_4 : decode bM_byDescriptions 4 = .ok (.getfield 7, 3) := by decide +kernel
theorem dM_byDescriptions_7 : decode bM_byDescriptions 7 = .ok (.if_icmp .ge 168, 3) := by decide +kernel
theorem dM_byDescriptions_10 : decode bM_byDescriptions 10 = .ok (.aload_n 0, 1) := by decide +kernel
theorem dM_byDescriptions_11 : decode bM_byDescriptions 11 = .ok (.getfield 17, 3) := by decide +kernel
theorem dM_byDescriptions_14 : decode bM_byDescriptions 14 = .ok (.iload_n 2, 1) := by decide +kernel
theorem dM_byDescriptions_15 : decode bM_byDescriptions 15 = .ok (.iaload, 1) := by decide +kernel
theorem dM_byDescriptions_16 : decode bM_byDescriptions 16 = .ok (.istore_n 3, 1) := by decide +kernel
theorem dM_byDescriptions_17 : decode bM_byDescriptions 17 = .ok (.aload_n 0, 1) := by decide +kernel
theorem dM_byDescriptions_18 : decode bM_byDescriptions 18 = .ok (.getfield 20, 3) := by decide +kernel
theorem dM_byDescriptions_21 : decode bM_byDescriptions 21 = .ok (.iload_n 2, 1) := by decide +kernel
theorem dM_byDescriptions_22 : decode bM_byDescriptions 22 = .ok (.iaload, 1) := by decide +kernel
theorem dM_byDescriptions_23 : decode bM_byDescriptions 23 = .ok (.istore 4, 2) := by decide +kernel
theorem dM_byDescriptions_25 : decode bM_byDescriptions 25 = .ok (.aload_n 0, 1) := by decide +kernel
theorem dM_byDescriptions_26 : decode bM_byDescriptions 26 = .ok (.getfield 13, 3) := by decide +kernel
theorem dM_byDescriptions_29 : decode bM_byDescriptions 29 = .ok (.iload_n 2, 1) := by decide +kernel
theorem dM_byDescriptions_30 : decode bM_byDescriptions 30 = .ok (.iaload, 1) := by decide +kernel
theorem dM_byDescriptions_31 : decode bM_byDescriptions 31 = .ok (.iconst 3, 1) := by decide +kernel
theorem dM_byDescriptions_32 : decode bM_byDescriptions 32 = .ok (.if_icmp .ne 62, 3) := by decide +kernel
theorem dM_byDescriptions_35 : decode bM_byDescriptions 35 = .ok (.aload_n 0, 1) := by decide +kernel
theorem dM_byDescriptions_36 : decode bM_byDescriptions 36 = .ok (.getfield 42, 3) := by decide +kernel
theorem dM_byDescriptions_39 : decode bM_byDescriptions 39 = .ok (.iload_n 1, 1) := by decide +kernel
theorem dM_byDescriptions_40 : decode bM_byDescriptions 40 = .ok (.iload_n 2, 1) := by decide +kernel
theorem dM_byDescriptions_41 : decode bM_byDescriptions 41 = .ok (.invokestatic 84, 3) := by decide +kernel
theorem dM_byDescriptions_44 : decode bM_byDescriptions 44 = .ok (.ifCond .eq 19, 3) := by decide +kernel
theorem dM_byDescriptions_47 : decode bM_byDescriptions 47 = .ok (.aload_n 0, 1) := by decide +kernel
theorem dM_byDescriptions_48 : decode bM_byDescriptions 48 = .ok (.iload_n 1, 1) := by decide +kernel
theorem dM_byDescriptions_49 : decode bM_byDescriptions 49 = .ok (.iload_n 3, 1) := by decide +kernel
theorem dM_byDescriptions_50 : decode bM_byDescriptions 50 = .ok (.invokevirtual 107, 3) := by decide +kernel
theorem dM_byDescriptions_53 : decode bM_byDescriptions 53 = .ok (.aload_n 0, 1) := by decide +kernel
theorem dM_byDescriptions_54 : decode bM_byDescriptions 54 = .ok (.iload_n 1, 1) := by decide +kernel
theorem dM_byDescriptions_55 : decode bM_byDescriptions 55 = .ok (.iload 4, 2) := by decide +kernel
theorem dM_byDescriptions_57 : decode bM_byDescriptions 57 = .ok (.invokevirtual 107, 3) := by decide +kernel
theorem dM_byDescriptions_60 : decode bM_byDescriptions 60 = .ok (.goto 34, 3) := by decide +kernel
theorem dM_byDescriptions_63 : decode bM_byDescriptions 63 = .ok (.aload_n 0, 1) := by decide +kernel
theorem dM_byDescriptions_64 : decode bM_byDescriptions 64 = .ok (.getfield 42, 3) := by decide +kernel
theorem dM_byDescriptions_67 : decode bM_byDescriptions 67 = .ok (.iload_n 1, 1) := by decide +kernel
theorem dM_byDescriptions_68 : decode bM_byDescriptions 68 = .ok (.iload_n 3, 1) := by decide +kernel
theorem dM_byDescriptions_69 : decode bM_byDescriptions 69 = .ok (.invokestatic 84, 3) := by decide +kernel
theorem dM_byDescriptions_72 : decode bM_byDescriptions 72 = .ok (.ifCond .eq 22, 3) := by decide +kernel
theorem dM_byDescriptions_75 : decode bM_byDescriptions 75 = .ok (.aload_n 0, 1) := by decide +kernel
theorem dM_byDescriptions_76 : decode bM_byDescriptions 76 = .ok (.getfield 42, 3) := by decide +kernel
theorem dM_byDescriptions_79 : decode bM_byDescriptions 79 = .ok (.iload_n 1, 1) := by decide +kernel
theorem dM_byDescriptions_80 : decode bM_byDescriptions 80 = .ok (.iload 4, 2) := by decide +kernel
theorem dM_byDescriptions_82 : decode bM_byDescriptions 82 = .ok (.invokestatic 84, 3) := by decide +kernel
theorem dM_byDescriptions_85 : decode bM_byDescriptions 85 = .ok (.ifCond .eq 9, 3) := by decide +kernel
theorem dM_byDescriptions_88 : decode bM_byDescriptions 88 = .ok (.aload_n 0, 1) := by decide +kernel
theorem dM_byDescriptions_89 : decode bM_byDescriptions 89 = .ok (.iload_n 1, 1) := by decide +kernel
theorem dM_byDescriptions_90 : decode bM_byDescriptions 90 = .ok (.iload_n 2, 1) := by decide +kernel
theorem dM_byDescriptions_91 : decode bM_byDescriptions 91 = .ok (.invokevirtual 107, 3) := by decide +kernel
theorem dM_byDescriptions_94 : decode bM_byDescriptions 94 = .ok (.aload_n 0, 1) := by decide +kernel
theorem dM_byDescriptions_95 : decode bM_byDescriptions 95 = .ok (.getfield 13, 3) := by decide +kernel
theorem dM_byDescriptions_98 : decode bM_byDescriptions 98 = .ok (.iload_n 2, 1) := by decide +kernel
theorem dM_byDescriptions_99 : decode bM_byDescriptions 99 = .ok (.iaload, 1) := by decide +kernel
theorem dM_byDescriptions_100 : decode bM_byDescriptions 100 = .ok (.iconst 4, 1) := by decide +kernel
theorem dM_byDescriptions_101 : decode bM_byDescriptions 101 = .ok (.if_icmp .ne 68, 3) := by decide +kernel
theorem dM_byDescriptions_104 : decode bM_byDescriptions 104 = .ok (.aload_n 0, 1) := by decide +kernel
theorem dM_byDescriptions_105 : decode bM_byDescriptions 105 = .ok (.getfield 42, 3) := by decide +kernel
theorem dM_byDescriptions_108 : decode bM_byDescriptions 108 = .ok (.iload_n 1, 1) := by decide +kernel
theorem dM_byDescriptions_109 : decode bM_byDescriptions 109 = .ok (.iload_n 2, 1) := by decide +kernel
theorem dM_byDescriptions_110 : decode bM_byDescriptions 110 = .ok (.invokestatic 84, 3) := by decide +kernel
theorem dM_byDescriptions_113 : decode bM_byDescriptions 113 = .ok (.ifCond .eq 39, 3) := by decide +kernel
theorem dM_byDescriptions_116 : decode bM_byDescriptions 116 = .ok (.aload_n 0, 1) := by decide +kernel
theorem dM_byDescriptions_117 : decode bM_byDescriptions 117 = .ok (.getfield 49, 3) := by decide +kernel
theorem dM_byDescriptions_120 : decode bM_byDescriptions 120 = .ok (.iload_n 3, 1) := by decide +kernel
theorem dM_byDescriptions_121 : decode bM_byDescriptions 121 = .ok (.iload_n 1, 1) := by decide +kernel
theorem dM_byDescriptions_122 : decode bM_byDescriptions 122 = .ok (.invokestatic 95, 3) := by decide +kernel
theorem dM_byDescriptions_125 : decode bM_byDescriptions 125 = .ok (.iload 4, 2) := by decide +kernel
theorem dM_byDescriptions_127 : decode bM_byDescriptions 127 = .ok (.invokestatic 84, 3) := by decide +kernel
theorem dM_byDescriptions_130 : decode bM_byDescriptions 130 = .ok (.ifCond .ne 22, 3) := by decide +kernel
theorem dM_byDescriptions_133 : decode bM_byDescriptions 133 = .ok (.aload_n 0, 1) := by decide +kernel
theorem dM_byDescriptions_134 : decode bM_byDescriptions 134 = .ok (.getfield 49, 3) := by decide +kernel
theorem dM_byDescriptions_137 : decode bM_byDescriptions 137 = .ok (.iload_n 3, 1) := by decide +kernel
theorem dM_byDescriptions_138 : decode bM_byDescriptions 138 = .ok (.iload_n 1, 1) := by decide +kernel
theorem dM_byDescriptions_139 : decode bM_byDescriptions 139 = .ok (.invokestatic 95, 3) := by decide +kernel
theorem dM_byDescriptions_142 : decode bM_byDescriptions 142 = .ok (.iload 4, 2) := by decide +kernel
theorem dM_byDescriptions_144 : decode bM_byDescriptions 144 = .ok (.invokestatic 88, 3) := by decide +kernel
theorem dM_byDescriptions_147 : decode bM_byDescriptions 147 = .ok (.aload_n 0, 1) := by decide +kernel
theorem dM_byDescriptions_148 : decode bM_byDescriptions 148 = .ok (.iconst 1, 1) := by decide +kernel
theorem dM_byDescriptions_149 : decode bM_byDescriptions 149 = .ok (.putfield 92, 3) := by decide +kernel
theorem dM_byDescriptions_152 : decode bM_byDescriptions 152 = .ok (.aload_n 0, 1) := by decide +kernel
theorem dM_byDescriptions_153 : decode bM_byDescriptions 153 = .ok (.iload_n 3, 1) := by decide +kernel
theorem dM_byDescriptions_154 : decode bM_byDescriptions 154 = .ok (.iload_n 1, 1) := by decide +kernel
theorem dM_byDescriptions_155 : decode bM_byDescriptions 155 = .ok (.iload 4, 2) := by decide +kernel
theorem dM_byDescriptions_157 : decode bM_byDescriptions 157 = .ok (.invokevirtual 110, 3) := by decide +kernel
theorem dM_byDescriptions_160 : decode bM_byDescriptions 160 = .ok (.ifCond .eq 9, 3) := by decide +kernel
theorem dM_byDescriptions_163 : decode bM_byDescriptions 163 = .ok (.aload_n 0, 1) := by decide +kernel
theorem dM_byDescriptions_164 : decode bM_byDescriptions 164 = .ok (.iload_n 1, 1) := by decide +kernel
theorem dM_byDescriptions_165 : decode bM_byDescriptions 165 = .ok (.iload_n 2, 1) := by decide +kernel
theorem dM_byDescriptions_166 : decode bM_byDescriptions 166 = .ok (.invokevirtual 107, 3) := by decide +kernel
theorem dM_byDescriptions_169 : decode bM_byDescriptions 169 = .ok (.iinc 2 1, 3) := by decide +kernel
theorem dM_byDescriptions_172 : decode bM_byDescriptions 172 = .ok (.goto (-170), 3) := by decide +kernel
theorem dM_byDescriptions_175 : decode bM_byDescriptions 175 = .ok (.return_, 1) := by decide +kernel
theorem dM_byNothing_0 : decode bM_byNothing 0 = .ok (.iconst 0, 1) := by decide +kernel
theorem dM_byNothing_1 : decode bM_byNothing 1 = .ok (.istore_n 2, 1) := by decide +kernel
theorem dM_byNothing_2 : decode bM_byNothing 2 = .ok (.iload_n 2, 1) := by decide +kernel
theorem dM_byNothing_3 : decode bM_byNothing 3 = .ok (.bipush 6, 2) := by decide +kernel
theorem dM_byNothing_5 : decode bM_byNothing 5 = .ok (.if_icmp .ge 25, 3) := by decide +kernel
theorem dM_byNothing_8 : decode bM_byNothing 8 = .ok (.aload_n 0, 1) := by decide +kernel
theorem dM_byNothing_9 : decode bM_byNothing 9 = .ok (.iload_n 2, 1) := by decide +kernel
theorem dM_byNothing_10 : decode bM_byNothing 10 = .ok (.iload_n 1, 1) := by decide +kernel
theorem dM_byNothing_11 : decode bM_byNothing 11 = .ok (.iconst 1, 1) := by decide +kernel
theorem dM_byNothing_12 : decode bM_byNothing 12 = .ok (.invokevirtual 110, 3) := by decide +kernel
theorem dM_byNothing_15 : decode bM_byNothing 15 = .ok (.ifCond .eq 9, 3) := by decide +kernel
theorem dM_byNothing_18 : decode bM_byNothing 18 = .ok (.aload_n 0, 1) := by decide +kernel
theorem dM_byNothing_19 : decode bM_byNothing 19 = .ok (.iload_n 1, 1) := by decide +kernel
theorem dM_byNothing_20 : decode bM_byNothing 20 = .ok (.iconst 1, 1) := by decide +kernel
theorem dM_byNothing_21 : decode bM_byNothing 21 = .ok (.invokevirtual 107, 3) := by decide +kernel
theorem dM_byNothing_24 : decode bM_byNothing 24 = .ok (.iinc 2 1, 3) := by decide +kernel
theorem dM_byNothing_27 : decode bM_byNothing 27 = .ok (.goto (-25), 3) := by decide +kernel
theorem dM_byNothing_30 : decode bM_byNothing 30 = .ok (.iconst 0, 1) := by decide +kernel
theorem dM_byNothing_31 : decode bM_byNothing 31 = .ok (.istore_n 2, 1) := by decide +kernel
theorem dM_byNothing_32 : decode bM_byNothing 32 = .ok (.iload_n 2, 1) := by decide +kernel
theorem dM_byNothing_33 : decode bM_byNothing 33 = .ok (.aload_n 0, 1) := by decide +kernel
theorem dM_byNothing_34 : decode bM_byNothing 34 = .ok (.getfield 7, 3) := by decide +kernel
theorem dM_byNothing_37 : decode bM_byNothing 37 = .ok (.if_icmp .ge 27, 3) := by decide +kernel
theorem dM_byNothing_40 : decode bM_byNothing 40 = .ok (.aload_n 0, 1) := by decide +kernel
theorem dM_byNothing_41 : decode bM_byNothing 41 = .ok (.getfield 42, 3) := by decide +kernel
theorem dM_byNothing_44 : decode bM_byNothing 44 = .ok (.iload_n 1, 1) := by decide +kernel
theorem dM_byNothing_45 : decode bM_byNothing 45 = .ok (.iconst 1, 1) := by decide +kernel
theorem dM_byNothing_46 : decode bM_byNothing 46 = .ok (.invokestatic 84, 3) := by decide +kernel
theorem dM_byNothing_49 : decode bM_byNothing 49 = .ok (.ifCond .eq 15, 3) := by decide +kernel
theorem dM_byNothing_52 : decode bM_byNothing 52 = .ok (.aload_n 0, 1) := by decide +kernel
theorem dM_byNothing_53 : decode bM_byNothing 53 = .ok (.iload_n 1, 1) := by decide +kernel
theorem dM_byNothing_54 : decode bM_byNothing 54 = .ok (.iload_n 2, 1) := by decide +kernel
theorem dM_byNothing_55 : decode bM_byNothing 55 = .ok (.invokevirtual 107, 3) := by decide +kernel
theorem dM_byNothing_58 : decode bM_byNothing 58 = .ok (.iinc 2 1, 3) := by decide +kernel
theorem dM_byNothing_61 : decode bM_byNothing 61 = .ok (.goto (-29), 3) := by decide +kernel
theorem dM_byNothing_64 : decode bM_byNothing 64 = .ok (.return_, 1) := by decide +kernel
theorem dM_follow_0 : decode bM_follow 0 = .ok (.iconst 0, 1) := by decide +kernel
theorem dM_follow_1 : decode bM_follow 1 = .ok (.istore_n 3, 1) := by decide +kernel
theorem dM_follow_2 : decode bM_follow 2 = .ok (.iload_n 3, 1) := by decide +kernel
theorem dM_follow_3 : decode bM_follow 3 = .ok (.sipush 480, 3) := by decide +kernel
theorem dM_follow_6 : decode bM_follow 6 = .ok (.if_icmp .ge 23, 3) := by decide +kernel
theorem dM_follow_9 : decode bM_follow 9 = .ok (.aload_n 0, 1) := by decide +kernel
theorem dM_follow_10 : decode bM_follow 10 = .ok (.getfield 42, 3) := by decide +kernel
theorem dM_follow_13 : decode bM_follow 13 = .ok (.iload_n 3, 1) := by decide +kernel
theorem dM_follow_14 : decode bM_follow 14 = .ok (.lconst 0, 1) := by decide +kernel
theorem dM_follow_15 : decode bM_follow 15 = .ok (.lastore, 1) := by decide +kernel
theorem dM_follow_16 : decode bM_follow 16 = .ok (.aload_n 0, 1) := by decide +kernel
theorem dM_follow_17 : decode bM_follow 17 = .ok (.getfield 46, 3) := by decide +kernel
theorem dM_follow_20 : decode bM_follow 20 = .ok (.iload_n 3, 1) := by decide +kernel
theorem dM_follow_21 : decode bM_follow 21 = .ok (.lconst 0, 1) := by decide +kernel
theorem dM_follow_22 : decode bM_follow 22 = .ok (.lastore, 1) := by decide +kernel
theorem dM_follow_23 : decode bM_follow 23 = .ok (.iinc 3 1, 3) := by decide +kernel
theorem dM_follow_26 : decode bM_follow 26 = .ok (.goto (-24), 3) := by decide +kernel
theorem dM_follow_29 : decode bM_follow 29 = .ok (.iconst 0, 1) := by decide +kernel
theorem dM_follow_30 : decode bM_follow 30 = .ok (.istore_n 3, 1) := by decide +kernel
theorem dM_follow_31 : decode bM_follow 31 = .ok (.iload_n 3, 1) := by decide +kernel
theorem dM_follow_32 : decode bM_follow 32 = .ok (.sipush 2880, 3) := by decide +kernel
theorem dM_follow_35 : decode bM_follow 35 = .ok (.if_icmp .ge 16, 3) := by decide +kernel
theorem dM_follow_38 : decode bM_follow 38 = .ok (.aload_n 0, 1) := by decide +kernel
theorem dM_follow_39 : decode bM_follow 39 = .ok (.getfield 49, 3) := by decide +kernel
theorem dM_follow_42 : decode bM_follow 42 = .ok (.iload_n 3, 1) := by decide +kernel
theorem dM_follow_43 : decode bM_follow 43 = .ok (.lconst 0, 1) := by decide +kernel
theorem dM_follow_44 : decode bM_follow 44 = .ok (.lastore, 1) := by decide +kernel
theorem dM_follow_45 : decode bM_follow 45 = .ok (.iinc 3 1, 3) := by decide +kernel
theorem dM_follow_48 : decode bM_follow 48 = .ok (.goto (-17), 3) := by decide +kernel
theorem dM_follow_51 : decode bM_follow 51 = .ok (.iconst 0, 1) := by decide +kernel
theorem dM_follow_52 : decode bM_follow 52 = .ok (.istore_n 3, 1) := by decide +kernel
theorem dM_follow_53 : decode bM_follow 53 = .ok (.iload_n 3, 1) := by decide +kernel
theorem dM_follow_54 : decode bM_follow 54 = .ok (.aload_n 0, 1) := by decide +kernel
theorem dM_follow_55 : decode bM_follow 55 = .ok (.getfield 7, 3) := by decide +kernel
theorem dM_follow_58 : decode bM_follow 58 = .ok (.if_icmp .ge 21, 3) := by decide +kernel
theorem dM_follow_61 : decode bM_follow 61 = .ok (.aload_n 0, 1) := by decide +kernel
theorem dM_follow_62 : decode bM_follow 62 = .ok (.iload_n 3, 1) := by decide +kernel
theorem dM_follow_63 : decode bM_follow 63 = .ok (.iload_n 3, 1) := by decide +kernel
theorem dM_follow_64 : decode bM_follow 64 = .ok (.invokevirtual 107, 3) := by decide +kernel
theorem dM_follow_67 : decode bM_follow 67 = .ok (.aload_n 0, 1) := by decide +kernel
theorem dM_follow_68 : decode bM_follow 68 = .ok (.iload_n 3, 1) := by decide +kernel
theorem dM_follow_69 : decode bM_follow 69 = .ok (.iconst 0, 1) := by decide +kernel
theorem dM_follow_70 : decode bM_follow 70 = .ok (.invokevirtual 107, 3) := by decide +kernel
theorem dM_follow_73 : decode bM_follow 73 = .ok (.iinc 3 1, 3) := by decide +kernel
theorem dM_follow_76 : decode bM_follow 76 = .ok (.goto (-23), 3) := by decide +kernel
theorem dM_follow_79 : decode bM_follow 79 = .ok (.aload_n 0, 1) := by decide +kernel
theorem dM_follow_80 : decode bM_follow 80 = .ok (.iconst 1, 1) := by decide +kernel
theorem dM_follow_81 : decode bM_follow 81 = .ok (.putfield 92, 3) := by decide +kernel
theorem dM_follow_84 : decode bM_follow 84 = .ok (.aload_n 0, 1) := by decide +kernel
theorem dM_follow_85 : decode bM_follow 85 = .ok (.getfield 92, 3) := by decide +kernel
theorem dM_follow_88 : decode bM_follow 88 = .ok (.ifCond .eq 58, 3) := by decide +kernel
theorem dM_follow_91 : decode bM_follow 91 = .ok (.iload_n 1, 1) := by decide +kernel
theorem dM_follow_92 : decode bM_follow 92 = .ok (.ifCond .lt 15, 3) := by decide +kernel
theorem dM_follow_95 : decode bM_follow 95 = .ok (.aload_n 0, 1) := by decide +kernel
theorem dM_follow_96 : decode bM_follow 96 = .ok (.getfield 42, 3) := by decide +kernel
theorem dM_follow_99 : decode bM_follow 99 = .ok (.iload_n 1, 1) := by decide +kernel
theorem dM_follow_100 : decode bM_follow 100 = .ok (.iload_n 2, 1) := by decide +kernel
theorem dM_follow_101 : decode bM_follow 101 = .ok (.invokestatic 84, 3) := by decide +kernel
theorem dM_follow_104 : decode bM_follow 104 = .ok (.ifCond .ne 42, 3) := by decide +kernel
theorem dM_follow_107 : decode bM_follow 107 = .ok (.aload_n 0, 1) := by decide +kernel
theorem dM_follow_108 : decode bM_follow 108 = .ok (.iconst 0, 1) := by decide +kernel
theorem dM_follow_109 : decode bM_follow 109 = .ok (.putfield 92, 3) := by decide +kernel
theorem dM_follow_112 : decode bM_follow 112 = .ok (.iconst 0, 1) := by decide +kernel
theorem dM_follow_113 : decode bM_follow 113 = .ok (.istore_n 3, 1) := by decide +kernel
theorem dM_follow_114 : decode bM_follow 114 = .ok (.iload_n 3, 1) := by decide +kernel
theorem dM_follow_115 : decode bM_follow 115 = .ok (.aload_n 0, 1) := by decide +kernel
theorem dM_follow_116 : decode bM_follow 116 = .ok (.getfield 7, 3) := by decide +kernel
theorem dM_follow_119 : decode bM_follow 119 = .ok (.if_icmp .ge 24, 3) := by decide +kernel
theorem dM_follow_122 : decode bM_follow 122 = .ok (.aload_n 0, 1) := by decide +kernel
theorem dM_follow_123 : decode bM_follow 123 = .ok (.iload_n 3, 1) := by decide +kernel
theorem dM_follow_124 : decode bM_follow 124 = .ok (.invokevirtual 114, 3) := by decide +kernel
theorem dM_follow_127 : decode bM_follow 127 = .ok (.aload_n 0, 1) := by decide +kernel
theorem dM_follow_128 : decode bM_follow 128 = .ok (.iload_n 3, 1) := by decide +kernel
theorem dM_follow_129 : decode bM_follow 129 = .ok (.invokevirtual 118, 3) := by decide +kernel
theorem dM_follow_132 : decode bM_follow 132 = .ok (.aload_n 0, 1) := by decide +kernel
theorem dM_follow_133 : decode bM_follow 133 = .ok (.iload_n 3, 1) := by decide +kernel
theorem dM_follow_134 : decode bM_follow 134 = .ok (.invokevirtual 121, 3) := by decide +kernel
theorem dM_follow_137 : decode bM_follow 137 = .ok (.iinc 3 1, 3) := by decide +kernel
theorem dM_follow_140 : decode bM_follow 140 = .ok (.goto (-26), 3) := by decide +kernel
theorem dM_follow_143 : decode bM_follow 143 = .ok (.goto (-59), 3) := by decide +kernel
theorem dM_follow_146 : decode bM_follow 146 = .ok (.return_, 1) := by decide +kernel
theorem dM_close_0 : decode bM_close 0 = .ok (.aload_n 0, 1) := by decide +kernel
theorem dM_close_1 : decode bM_close 1 = .ok (.getfield 58, 3) := by decide +kernel
theorem dM_close_4 : decode bM_close 4 = .ok (.ifCond .eq 4, 3) := by decide +kernel
theorem dM_close_7 : decode bM_close 7 = .ok (.return_, 1) := by decide +kernel
theorem dM_close_8 : decode bM_close 8 = .ok (.iconst 1, 1) := by decide +kernel
theorem dM_close_9 : decode bM_close 9 = .ok (.istore_n 1, 1) := by decide +kernel
theorem dM_close_10 : decode bM_close 10 = .ok (.iload_n 1, 1) := by decide +kernel
theorem dM_close_11 : decode bM_close 11 = .ok (.aload_n 0, 1) := by decide +kernel
theorem dM_close_12 : decode bM_close 12 = .ok (.getfield 77, 3) := by decide +kernel
theorem dM_close_15 : decode bM_close 15 = .ok (.if_icmp .gt 21, 3) := by decide +kernel
theorem dM_close_18 : decode bM_close 18 = .ok (.aload_n 0, 1) := by decide +kernel
theorem dM_close_19 : decode bM_close 19 = .ok (.getfield 39, 3) := by decide +kernel
theorem dM_close_22 : decode bM_close 22 = .ok (.iload_n 1, 1) := by decide +kernel
theorem dM_close_23 : decode bM_close 23 = .ok (.aload_n 0, 1) := by decide +kernel
theorem dM_close_24 : decode bM_close 24 = .ok (.getfield 35, 3) := by decide +kernel
theorem dM_close_27 : decode bM_close 27 = .ok (.iload_n 1, 1) := by decide +kernel
theorem dM_close_28 : decode bM_close 28 = .ok (.baload, 1) := by decide +kernel
theorem dM_close_29 : decode bM_close 29 = .ok (.bastore, 1) := by decide +kernel
theorem dM_close_30 : decode bM_close 30 = .ok (.iinc 1 1, 3) := by decide +kernel
theorem dM_close_33 : decode bM_close 33 = .ok (.goto (-23), 3) := by decide +kernel
theorem dM_close_36 : decode bM_close 36 = .ok (.aload_n 0, 1) := by decide +kernel
theorem dM_close_37 : decode bM_close 37 = .ok (.iconst (-1), 1) := by decide +kernel
theorem dM_close_38 : decode bM_close 38 = .ok (.iconst 0, 1) := by decide +kernel
theorem dM_close_39 : decode bM_close 39 = .ok (.invokevirtual 124, 3) := by decide +kernel
theorem dM_close_42 : decode bM_close 42 = .ok (.aload_n 0, 1) := by decide +kernel
theorem dM_close_43 : decode bM_close 43 = .ok (.iconst 1, 1) := by decide +kernel
theorem dM_close_44 : decode bM_close 44 = .ok (.putfield 58, 3) := by decide +kernel
theorem dM_close_47 : decode bM_close 47 = .ok (.return_, 1) := by decide +kernel
theorem dM_strictly_0 : decode bM_strictly 0 = .ok (.aload_n 0, 1) := by decide +kernel
theorem dM_strictly_1 : decode bM_strictly 1 = .ok (.getfield 42, 3) := by decide +kernel
theorem dM_strictly_4 : decode bM_strictly 4 = .ok (.iload_n 1, 1) := by decide +kernel
theorem dM_strictly_5 : decode bM_strictly 5 = .ok (.iload_n 2, 1) := by decide +kernel
theorem dM_strictly_6 : decode bM_strictly 6 = .ok (.invokestatic 84, 3) := by decide +kernel
theorem dM_strictly_9 : decode bM_strictly 9 = .ok (.ifCond .eq 19, 3) := by decide +kernel
theorem dM_strictly_12 : decode bM_strictly 12 = .ok (.aload_n 0, 1) := by decide +kernel
theorem dM_strictly_13 : decode bM_strictly 13 = .ok (.getfield 42, 3) := by decide +kernel
theorem dM_strictly_16 : decode bM_strictly 16 = .ok (.iload_n 2, 1) := by decide +kernel
theorem dM_strictly_17 : decode bM_strictly 17 = .ok (.iload_n 1, 1) := by decide +kernel
theorem dM_strictly_18 : decode bM_strictly 18 = .ok (.invokestatic 84, 3) := by decide +kernel
theorem dM_strictly_21 : decode bM_strictly 21 = .ok (.ifCond .ne 7, 3) := by decide +kernel
theorem dM_strictly_24 : decode bM_strictly 24 = .ok (.iconst 1, 1) := by decide +kernel
theorem dM_strictly_25 : decode bM_strictly 25 = .ok (.goto 4, 3) := by decide +kernel
theorem dM_strictly_28 : decode bM_strictly 28 = .ok (.iconst 0, 1) := by decide +kernel
theorem dM_strictly_29 : decode bM_strictly 29 = .ok (.ireturn, 1) := by decide +kernel
theorem dM_isBelow_0 : decode bM_isBelow 0 = .ok (.aload_n 0, 1) := by decide +kernel
theorem dM_isBelow_1 : decode bM_isBelow 1 = .ok (.aload_n 0, 1) := by decide +kernel
theorem dM_isBelow_2 : decode bM_isBelow 2 = .ok (.iload_n 1, 1) := by decide +kernel
theorem dM_isBelow_3 : decode bM_isBelow 3 = .ok (.invokevirtual 66, 3) := by decide +kernel
theorem dM_isBelow_6 : decode bM_isBelow 6 = .ok (.ifCond .eq 11, 3) := by decide +kernel
theorem dM_isBelow_9 : decode bM_isBelow 9 = .ok (.aload_n 0, 1) := by decide +kernel
theorem dM_isBelow_10 : decode bM_isBelow 10 = .ok (.iload_n 2, 1) := by decide +kernel
theorem dM_isBelow_11 : decode bM_isBelow 11 = .ok (.invokevirtual 66, 3) := by decide +kernel
theorem dM_isBelow_14 : decode bM_isBelow 14 = .ok (.ifCond .ne 7, 3) := by decide +kernel
theorem dM_isBelow_17 : decode bM_isBelow 17 = .ok (.iconst 1, 1) := by decide +kernel
theorem dM_isBelow_18 : decode bM_isBelow 18 = .ok (.goto 4, 3) := by decide +kernel
theorem dM_isBelow_21 : decode bM_isBelow 21 = .ok (.iconst 0, 1) := by decide +kernel
theorem dM_isBelow_22 : decode bM_isBelow 22 = .ok (.invokevirtual 70, 3) := by decide +kernel
theorem dM_isBelow_25 : decode bM_isBelow 25 = .ok (.ifCond .eq 5, 3) := by decide +kernel
theorem dM_isBelow_28 : decode bM_isBelow 28 = .ok (.iconst 0, 1) := by decide +kernel
theorem dM_isBelow_29 : decode bM_isBelow 29 = .ok (.ireturn, 1) := by decide +kernel
theorem dM_isBelow_30 : decode bM_isBelow 30 = .ok (.aload_n 0, 1) := by decide +kernel
theorem dM_isBelow_31 : decode bM_isBelow 31 = .ok (.invokevirtual 127, 3) := by decide +kernel
theorem dM_isBelow_34 : decode bM_isBelow 34 = .ok (.aload_n 0, 1) := by decide +kernel
theorem dM_isBelow_35 : decode bM_isBelow 35 = .ok (.getfield 42, 3) := by decide +kernel
theorem dM_isBelow_38 : decode bM_isBelow 38 = .ok (.iload_n 1, 1) := by decide +kernel
theorem dM_isBelow_39 : decode bM_isBelow 39 = .ok (.iload_n 2, 1) := by decide +kernel
theorem dM_isBelow_40 : decode bM_isBelow 40 = .ok (.invokestatic 84, 3) := by decide +kernel
theorem dM_isBelow_43 : decode bM_isBelow 43 = .ok (.ireturn, 1) := by decide +kernel
theorem dM_supers_0 : decode bM_supers 0 = .ok (.aload_n 0, 1) := by decide +kernel
theorem dM_supers_1 : decode bM_supers 1 = .ok (.aload_n 0, 1) := by decide +kernel
theorem dM_supers_2 : decode bM_supers 2 = .ok (.iload_n 1, 1) := by decide +kernel
theorem dM_supers_3 : decode bM_supers 3 = .ok (.invokevirtual 66, 3) := by decide +kernel
theorem dM_supers_6 : decode bM_supers 6 = .ok (.ifCond .ne 7, 3) := by decide +kernel
theorem dM_supers_9 : decode bM_supers 9 = .ok (.iconst 1, 1) := by decide +kernel
theorem dM_supers_10 : decode bM_supers 10 = .ok (.goto 4, 3) := by decide +kernel
theorem dM_supers_13 : decode bM_supers 13 = .ok (.iconst 0, 1) := by decide +kernel
theorem dM_supers_14 : decode bM_supers 14 = .ok (.invokevirtual 70, 3) := by decide +kernel
theorem dM_supers_17 : decode bM_supers 17 = .ok (.ifCond .eq 5, 3) := by decide +kernel
theorem dM_supers_20 : decode bM_supers 20 = .ok (.iconst 0, 1) := by decide +kernel
theorem dM_supers_21 : decode bM_supers 21 = .ok (.ireturn, 1) := by decide +kernel
theorem dM_supers_22 : decode bM_supers 22 = .ok (.aload_n 0, 1) := by decide +kernel
theorem dM_supers_23 : decode bM_supers 23 = .ok (.invokevirtual 127, 3) := by decide +kernel
theorem dM_supers_26 : decode bM_supers 26 = .ok (.iconst 0, 1) := by decide +kernel
theorem dM_supers_27 : decode bM_supers 27 = .ok (.istore_n 2, 1) := by decide +kernel
theorem dM_supers_28 : decode bM_supers 28 = .ok (.iconst 2, 1) := by decide +kernel
theorem dM_supers_29 : decode bM_supers 29 = .ok (.istore_n 3, 1) := by decide +kernel
theorem dM_supers_30 : decode bM_supers 30 = .ok (.iload_n 3, 1) := by decide +kernel
theorem dM_supers_31 : decode bM_supers 31 = .ok (.aload_n 0, 1) := by decide +kernel
theorem dM_supers_32 : decode bM_supers 32 = .ok (.getfield 7, 3) := by decide +kernel
theorem dM_supers_35 : decode bM_supers 35 = .ok (.if_icmp .ge 39, 3) := by decide +kernel
theorem dM_supers_38 : decode bM_supers 38 = .ok (.iload_n 2, 1) := by decide +kernel
theorem dM_supers_39 : decode bM_supers 39 = .ok (.aload_n 0, 1) := by decide +kernel
theorem dM_supers_40 : decode bM_supers 40 = .ok (.getfield 13, 3) := by decide +kernel
theorem dM_supers_43 : decode bM_supers 43 = .ok (.iload_n 3, 1) := by decide +kernel
theorem dM_supers_44 : decode bM_supers 44 = .ok (.iaload, 1) := by decide +kernel
theorem dM_supers_45 : decode bM_supers 45 = .ok (.iconst 2, 1) := by decide +kernel
theorem dM_supers_46 : decode bM_supers 46 = .ok (.if_icmp .ne 19, 3) := by decide +kernel
theorem dM_supers_49 : decode bM_supers 49 = .ok (.aload_n 0, 1) := by decide +kernel
theorem dM_supers_50 : decode bM_supers 50 = .ok (.getfield 42, 3) := by decide +kernel
theorem dM_supers_53 : decode bM_supers 53 = .ok (.iload_n 1, 1) := by decide +kernel
theorem dM_supers_54 : decode bM_supers 54 = .ok (.iload_n 3, 1) := by decide +kernel
theorem dM_supers_55 : decode bM_supers 55 = .ok (.invokestatic 84, 3) := by decide +kernel
theorem dM_supers_58 : decode bM_supers 58 = .ok (.ifCond .eq 7, 3) := by decide +kernel
theorem dM_supers_61 : decode bM_supers 61 = .ok (.iconst 1, 1) := by decide +kernel
theorem dM_supers_62 : decode bM_supers 62 = .ok (.goto 4, 3) := by decide +kernel
theorem dM_supers_65 : decode bM_supers 65 = .ok (.iconst 0, 1) := by decide +kernel
theorem dM_supers_66 : decode bM_supers 66 = .ok (.iadd, 1) := by decide +kernel
theorem dM_supers_67 : decode bM_supers 67 = .ok (.istore_n 2, 1) := by decide +kernel
theorem dM_supers_68 : decode bM_supers 68 = .ok (.iinc 3 1, 3) := by decide +kernel
theorem dM_supers_71 : decode bM_supers 71 = .ok (.goto (-41), 3) := by decide +kernel
theorem dM_supers_74 : decode bM_supers 74 = .ok (.iload_n 2, 1) := by decide +kernel
theorem dM_supers_75 : decode bM_supers 75 = .ok (.ireturn, 1) := by decide +kernel
theorem dM_sup_0 : decode bM_sup 0 = .ok (.aload_n 0, 1) := by decide +kernel
theorem dM_sup_1 : decode bM_sup 1 = .ok (.aload_n 0, 1) := by decide +kernel
theorem dM_sup_2 : decode bM_sup 2 = .ok (.iload_n 1, 1) := by decide +kernel
theorem dM_sup_3 : decode bM_sup 3 = .ok (.invokevirtual 66, 3) := by decide +kernel
theorem dM_sup_6 : decode bM_sup 6 = .ok (.ifCond .ne 7, 3) := by decide +kernel
theorem dM_sup_9 : decode bM_sup 9 = .ok (.iconst 1, 1) := by decide +kernel
theorem dM_sup_10 : decode bM_sup 10 = .ok (.goto 4, 3) := by decide +kernel
theorem dM_sup_13 : decode bM_sup 13 = .ok (.iconst 0, 1) := by decide +kernel
theorem dM_sup_14 : decode bM_sup 14 = .ok (.invokevirtual 70, 3) := by decide +kernel
theorem dM_sup_17 : decode bM_sup 17 = .ok (.ifCond .eq 5, 3) := by decide +kernel
theorem dM_sup_20 : decode bM_sup 20 = .ok (.iconst 0, 1) := by decide +kernel
theorem dM_sup_21 : decode bM_sup 21 = .ok (.ireturn, 1) := by decide +kernel
theorem dM_sup_22 : decode bM_sup 22 = .ok (.aload_n 0, 1) := by decide +kernel
theorem dM_sup_23 : decode bM_sup 23 = .ok (.invokevirtual 127, 3) := by decide +kernel
theorem dM_sup_26 : decode bM_sup 26 = .ok (.iconst 0, 1) := by decide +kernel
theorem dM_sup_27 : decode bM_sup 27 = .ok (.istore_n 3, 1) := by decide +kernel
theorem dM_sup_28 : decode bM_sup 28 = .ok (.iconst 2, 1) := by decide +kernel
theorem dM_sup_29 : decode bM_sup 29 = .ok (.istore 4, 2) := by decide +kernel
theorem dM_sup_31 : decode bM_sup 31 = .ok (.iload 4, 2) := by decide +kernel
theorem dM_sup_33 : decode bM_sup 33 = .ok (.aload_n 0, 1) := by decide +kernel
theorem dM_sup_34 : decode bM_sup 34 = .ok (.getfield 7, 3) := by decide +kernel
theorem dM_sup_37 : decode bM_sup 37 = .ok (.if_icmp .ge 47, 3) := by decide +kernel
theorem dM_sup_40 : decode bM_sup 40 = .ok (.aload_n 0, 1) := by decide +kernel
theorem dM_sup_41 : decode bM_sup 41 = .ok (.getfield 13, 3) := by decide +kernel
theorem dM_sup_44 : decode bM_sup 44 = .ok (.iload 4, 2) := by decide +kernel
theorem dM_sup_46 : decode bM_sup 46 = .ok (.iaload, 1) := by decide +kernel
theorem dM_sup_47 : decode bM_sup 47 = .ok (.iconst 2, 1) := by decide +kernel
theorem dM_sup_48 : decode bM_sup 48 = .ok (.if_icmp .ne 30, 3) := by decide +kernel
theorem dM_sup_51 : decode bM_sup 51 = .ok (.aload_n 0, 1) := by decide +kernel
theorem dM_sup_52 : decode bM_sup 52 = .ok (.getfield 42, 3) := by decide +kernel
theorem dM_sup_55 : decode bM_sup 55 = .ok (.iload_n 1, 1) := by decide +kernel
theorem dM_sup_56 : decode bM_sup 56 = .ok (.iload 4, 2) := by decide +kernel
theorem dM_sup_58 : decode bM_sup 58 = .ok (.invokestatic 84, 3) := by decide +kernel
theorem dM_sup_61 : decode bM_sup 61 = .ok (.ifCond .ne 6, 3) := by decide +kernel
theorem dM_sup_64 : decode bM_sup 64 = .ok (.goto 14, 3) := by decide +kernel
theorem dM_sup_67 : decode bM_sup 67 = .ok (.iload_n 3, 1) := by decide +kernel
theorem dM_sup_68 : decode bM_sup 68 = .ok (.iload_n 2, 1) := by decide +kernel
theorem dM_sup_69 : decode bM_sup 69 = .ok (.if_icmp .ne 6, 3) := by decide +kernel
theorem dM_sup_72 : decode bM_sup 72 = .ok (.iload 4, 2) := by decide +kernel
theorem dM_sup_74 : decode bM_sup 74 = .ok (.ireturn, 1) := by decide +kernel
theorem dM_sup_75 : decode bM_sup 75 = .ok (.iinc 3 1, 3) := by decide +kernel
theorem dM_sup_78 : decode bM_sup 78 = .ok (.iinc 4 1, 3) := by decide +kernel
theorem dM_sup_81 : decode bM_sup 81 = .ok (.goto (-50), 3) := by decide +kernel
theorem dM_sup_84 : decode bM_sup 84 = .ok (.iconst (-1), 1) := by decide +kernel
theorem dM_sup_85 : decode bM_sup 85 = .ok (.ireturn, 1) := by decide +kernel
theorem dM_direct_0 : decode bM_direct 0 = .ok (.aload_n 0, 1) := by decide +kernel
theorem dM_direct_1 : decode bM_direct 1 = .ok (.aload_n 0, 1) := by decide +kernel
theorem dM_direct_2 : decode bM_direct 2 = .ok (.iload_n 1, 1) := by decide +kernel
theorem dM_direct_3 : decode bM_direct 3 = .ok (.invokevirtual 66, 3) := by decide +kernel
theorem dM_direct_6 : decode bM_direct 6 = .ok (.ifCond .eq 11, 3) := by decide +kernel
theorem dM_direct_9 : decode bM_direct 9 = .ok (.aload_n 0, 1) := by decide +kernel
theorem dM_direct_10 : decode bM_direct 10 = .ok (.iload_n 2, 1) := by decide +kernel
theorem dM_direct_11 : decode bM_direct 11 = .ok (.invokevirtual 66, 3) := by decide +kernel
theorem dM_direct_14 : decode bM_direct 14 = .ok (.ifCond .ne 7, 3) := by decide +kernel
theorem dM_direct_17 : decode bM_direct 17 = .ok (.iconst 1, 1) := by decide +kernel
theorem dM_direct_18 : decode bM_direct 18 = .ok (.goto 4, 3) := by decide +kernel
theorem dM_direct_21 : decode bM_direct 21 = .ok (.iconst 0, 1) := by decide +kernel
theorem dM_direct_22 : decode bM_direct 22 = .ok (.invokevirtual 70, 3) := by decide +kernel
theorem dM_direct_25 : decode bM_direct 25 = .ok (.ifCond .eq 5, 3) := by decide +kernel
theorem dM_direct_28 : decode bM_direct 28 = .ok (.iconst 0, 1) := by decide +kernel
theorem dM_direct_29 : decode bM_direct 29 = .ok (.ireturn, 1) := by decide +kernel
theorem dM_direct_30 : decode bM_direct 30 = .ok (.aload_n 0, 1) := by decide +kernel
theorem dM_direct_31 : decode bM_direct 31 = .ok (.invokevirtual 127, 3) := by decide +kernel
theorem dM_direct_34 : decode bM_direct 34 = .ok (.aload_n 0, 1) := by decide +kernel
theorem dM_direct_35 : decode bM_direct 35 = .ok (.iload_n 1, 1) := by decide +kernel
theorem dM_direct_36 : decode bM_direct 36 = .ok (.iload_n 2, 1) := by decide +kernel
theorem dM_direct_37 : decode bM_direct 37 = .ok (.invokevirtual 130, 3) := by decide +kernel
theorem dM_direct_40 : decode bM_direct 40 = .ok (.istore_n 3, 1) := by decide +kernel
theorem dM_direct_41 : decode bM_direct 41 = .ok (.iconst 0, 1) := by decide +kernel
theorem dM_direct_42 : decode bM_direct 42 = .ok (.istore 4, 2) := by decide +kernel
theorem dM_direct_44 : decode bM_direct 44 = .ok (.iload 4, 2) := by decide +kernel
theorem dM_direct_46 : decode bM_direct 46 = .ok (.aload_n 0, 1) := by decide +kernel
theorem dM_direct_47 : decode bM_direct 47 = .ok (.getfield 7, 3) := by decide +kernel
theorem dM_direct_50 : decode bM_direct 50 = .ok (.if_icmp .ge 39, 3) := by decide +kernel
theorem dM_direct_53 : decode bM_direct 53 = .ok (.iload_n 3, 1) := by decide +kernel
theorem dM_direct_54 : decode bM_direct 54 = .ok (.ifCond .eq 35, 3) := by decide +kernel
theorem dM_direct_57 : decode bM_direct 57 = .ok (.aload_n 0, 1) := by decide +kernel
theorem dM_direct_58 : decode bM_direct 58 = .ok (.iload_n 1, 1) := by decide +kernel
theorem dM_direct_59 : decode bM_direct 59 = .ok (.iload 4, 2) := by decide +kernel
theorem dM_direct_61 : decode bM_direct 61 = .ok (.invokevirtual 130, 3) := by decide +kernel
theorem dM_direct_64 : decode bM_direct 64 = .ok (.ifCond .eq 13, 3) := by decide +kernel
theorem dM_direct_67 : decode bM_direct 67 = .ok (.aload_n 0, 1) := by decide +kernel
theorem dM_direct_68 : decode bM_direct 68 = .ok (.iload 4, 2) := by decide +kernel
theorem dM_direct_70 : decode bM_direct 70 = .ok (.iload_n 2, 1) := by decide +kernel
theorem dM_direct_71 : decode bM_direct 71 = .ok (.invokevirtual 130, 3) := by decide +kernel
theorem dM_direct_74 : decode bM_direct 74 = .ok (.ifCond .ne 7, 3) := by decide +kernel
theorem dM_direct_77 : decode bM_direct 77 = .ok (.iconst 1, 1) := by decide +kernel
theorem dM_direct_78 : decode bM_direct 78 = .ok (.goto 4, 3) := by decide +kernel
theorem dM_direct_81 : decode bM_direct 81 = .ok (.iconst 0, 1) := by decide +kernel
theorem dM_direct_82 : decode bM_direct 82 = .ok (.istore_n 3, 1) := by decide +kernel
theorem dM_direct_83 : decode bM_direct 83 = .ok (.iinc 4 1, 3) := by decide +kernel
theorem dM_direct_86 : decode bM_direct 86 = .ok (.goto (-42), 3) := by decide +kernel
theorem dM_direct_89 : decode bM_direct 89 = .ok (.iload_n 3, 1) := by decide +kernel
theorem dM_direct_90 : decode bM_direct 90 = .ok (.ireturn, 1) := by decide +kernel
theorem dM_least_0 : decode bM_least 0 = .ok (.iconst 0, 1) := by decide +kernel
theorem dM_least_1 : decode bM_least 1 = .ok (.istore_n 2, 1) := by decide +kernel
theorem dM_least_2 : decode bM_least 2 = .ok (.aload_n 0, 1) := by decide +kernel
theorem dM_least_3 : decode bM_least 3 = .ok (.getfield 42, 3) := by decide +kernel
theorem dM_least_6 : decode bM_least 6 = .ok (.iload_n 1, 1) := by decide +kernel
theorem dM_least_7 : decode bM_least 7 = .ok (.iload_n 2, 1) := by decide +kernel
theorem dM_least_8 : decode bM_least 8 = .ok (.invokestatic 84, 3) := by decide +kernel
theorem dM_least_11 : decode bM_least 11 = .ok (.ifCond .eq 15, 3) := by decide +kernel
theorem dM_least_14 : decode bM_least 14 = .ok (.aload_n 0, 1) := by decide +kernel
theorem dM_least_15 : decode bM_least 15 = .ok (.getfield 42, 3) := by decide +kernel
theorem dM_least_18 : decode bM_least 18 = .ok (.iload_n 2, 1) := by decide +kernel
theorem dM_least_19 : decode bM_least 19 = .ok (.iload_n 1, 1) := by decide +kernel
theorem dM_least_20 : decode bM_least 20 = .ok (.invokestatic 84, 3) := by decide +kernel
theorem dM_least_23 : decode bM_least 23 = .ok (.ifCond .ne 9, 3) := by decide +kernel
theorem dM_least_26 : decode bM_least 26 = .ok (.iinc 2 1, 3) := by decide +kernel
theorem dM_least_29 : decode bM_least 29 = .ok (.goto (-27), 3) := by decide +kernel
theorem dM_least_32 : decode bM_least 32 = .ok (.iload_n 2, 1) := by decide +kernel
theorem dM_least_33 : decode bM_least 33 = .ok (.ireturn, 1) := by decide +kernel
theorem dM_twin_0 : decode bM_twin 0 = .ok (.aload_n 0, 1) := by decide +kernel
theorem dM_twin_1 : decode bM_twin 1 = .ok (.aload_n 0, 1) := by decide +kernel
theorem dM_twin_2 : decode bM_twin 2 = .ok (.iload_n 1, 1) := by decide +kernel
theorem dM_twin_3 : decode bM_twin 3 = .ok (.invokevirtual 66, 3) := by decide +kernel
theorem dM_twin_6 : decode bM_twin 6 = .ok (.ifCond .ne 7, 3) := by decide +kernel
theorem dM_twin_9 : decode bM_twin 9 = .ok (.iconst 1, 1) := by decide +kernel
theorem dM_twin_10 : decode bM_twin 10 = .ok (.goto 4, 3) := by decide +kernel
theorem dM_twin_13 : decode bM_twin 13 = .ok (.iconst 0, 1) := by decide +kernel
theorem dM_twin_14 : decode bM_twin 14 = .ok (.invokevirtual 70, 3) := by decide +kernel
theorem dM_twin_17 : decode bM_twin 17 = .ok (.ifCond .eq 5, 3) := by decide +kernel
theorem dM_twin_20 : decode bM_twin 20 = .ok (.iconst 0, 1) := by decide +kernel
theorem dM_twin_21 : decode bM_twin 21 = .ok (.ireturn, 1) := by decide +kernel
theorem dM_twin_22 : decode bM_twin 22 = .ok (.aload_n 0, 1) := by decide +kernel
theorem dM_twin_23 : decode bM_twin 23 = .ok (.invokevirtual 127, 3) := by decide +kernel
theorem dM_twin_26 : decode bM_twin 26 = .ok (.aload_n 0, 1) := by decide +kernel
theorem dM_twin_27 : decode bM_twin 27 = .ok (.iload_n 1, 1) := by decide +kernel
theorem dM_twin_28 : decode bM_twin 28 = .ok (.invokevirtual 134, 3) := by decide +kernel
theorem dM_twin_31 : decode bM_twin 31 = .ok (.ireturn, 1) := by decide +kernel
theorem dM_isCommon_0 : decode bM_isCommon 0 = .ok (.aload_n 0, 1) := by decide +kernel
theorem dM_isCommon_1 : decode bM_isCommon 1 = .ok (.getfield 13, 3) := by decide +kernel
theorem dM_isCommon_4 : decode bM_isCommon 4 = .ok (.iload_n 3, 1) := by decide +kernel
theorem dM_isCommon_5 : decode bM_isCommon 5 = .ok (.iaload, 1) := by decide +kernel
theorem dM_isCommon_6 : decode bM_isCommon 6 = .ok (.iconst 2, 1) := by decide +kernel
theorem dM_isCommon_7 : decode bM_isCommon 7 = .ok (.if_icmp .ne 31, 3) := by decide +kernel
theorem dM_isCommon_10 : decode bM_isCommon 10 = .ok (.aload_n 0, 1) := by decide +kernel
theorem dM_isCommon_11 : decode bM_isCommon 11 = .ok (.getfield 42, 3) := by decide +kernel
theorem dM_isCommon_14 : decode bM_isCommon 14 = .ok (.iload_n 1, 1) := by decide +kernel
theorem dM_isCommon_15 : decode bM_isCommon 15 = .ok (.iload_n 3, 1) := by decide +kernel
theorem dM_isCommon_16 : decode bM_isCommon 16 = .ok (.invokestatic 84, 3) := by decide +kernel
theorem dM_isCommon_19 : decode bM_isCommon 19 = .ok (.ifCond .eq 19, 3) := by decide +kernel
theorem dM_isCommon_22 : decode bM_isCommon 22 = .ok (.aload_n 0, 1) := by decide +kernel
theorem dM_isCommon_23 : decode bM_isCommon 23 = .ok (.getfield 42, 3) := by decide +kernel
theorem dM_isCommon_26 : decode bM_isCommon 26 = .ok (.iload_n 2, 1) := by decide +kernel
theorem dM_isCommon_27 : decode bM_isCommon 27 = .ok (.iload_n 3, 1) := by decide +kernel
theorem dM_isCommon_28 : decode bM_isCommon 28 = .ok (.invokestatic 84, 3) := by decide +kernel
theorem dM_isCommon_31 : decode bM_isCommon 31 = .ok (.ifCond .eq 7, 3) := by decide +kernel
theorem dM_isCommon_34 : decode bM_isCommon 34 = .ok (.iconst 1, 1) := by decide +kernel
theorem dM_isCommon_35 : decode bM_isCommon 35 = .ok (.goto 4, 3) := by decide +kernel
theorem dM_isCommon_38 : decode bM_isCommon 38 = .ok (.iconst 0, 1) := by decide +kernel
theorem dM_isCommon_39 : decode bM_isCommon 39 = .ok (.ireturn, 1) := by decide +kernel
theorem dM_common_0 : decode bM_common 0 = .ok (.aload_n 0, 1) := by decide +kernel
theorem dM_common_1 : decode bM_common 1 = .ok (.aload_n 0, 1) := by decide +kernel
theorem dM_common_2 : decode bM_common 2 = .ok (.iload_n 1, 1) := by decide +kernel
theorem dM_common_3 : decode bM_common 3 = .ok (.invokevirtual 66, 3) := by decide +kernel
theorem dM_common_6 : decode bM_common 6 = .ok (.ifCond .eq 11, 3) := by decide +kernel
theorem dM_common_9 : decode bM_common 9 = .ok (.aload_n 0, 1) := by decide +kernel
theorem dM_common_10 : decode bM_common 10 = .ok (.iload_n 2, 1) := by decide +kernel
theorem dM_common_11 : decode bM_common 11 = .ok (.invokevirtual 66, 3) := by decide +kernel
theorem dM_common_14 : decode bM_common 14 = .ok (.ifCond .ne 7, 3) := by decide +kernel
theorem dM_common_17 : decode bM_common 17 = .ok (.iconst 1, 1) := by decide +kernel
theorem dM_common_18 : decode bM_common 18 = .ok (.goto 4, 3) := by decide +kernel
theorem dM_common_21 : decode bM_common 21 = .ok (.iconst 0, 1) := by decide +kernel
theorem dM_common_22 : decode bM_common 22 = .ok (.invokevirtual 70, 3) := by decide +kernel
theorem dM_common_25 : decode bM_common 25 = .ok (.ifCond .eq 5, 3) := by decide +kernel
theorem dM_common_28 : decode bM_common 28 = .ok (.iconst 0, 1) := by decide +kernel
theorem dM_common_29 : decode bM_common 29 = .ok (.ireturn, 1) := by decide +kernel
theorem dM_common_30 : decode bM_common 30 = .ok (.aload_n 0, 1) := by decide +kernel
theorem dM_common_31 : decode bM_common 31 = .ok (.invokevirtual 127, 3) := by decide +kernel
theorem dM_common_34 : decode bM_common 34 = .ok (.iconst 0, 1) := by decide +kernel
theorem dM_common_35 : decode bM_common 35 = .ok (.istore 4, 2) := by decide +kernel
theorem dM_common_37 : decode bM_common 37 = .ok (.iconst 2, 1) := by decide +kernel
theorem dM_common_38 : decode bM_common 38 = .ok (.istore 5, 2) := by decide +kernel
theorem dM_common_40 : decode bM_common 40 = .ok (.iload 5, 2) := by decide +kernel
theorem dM_common_42 : decode bM_common 42 = .ok (.aload_n 0, 1) := by decide +kernel
theorem dM_common_43 : decode bM_common 43 = .ok (.getfield 7, 3) := by decide +kernel
theorem dM_common_46 : decode bM_common 46 = .ok (.if_icmp .ge 147, 3) := by decide +kernel
theorem dM_common_49 : decode bM_common 49 = .ok (.aload_n 0, 1) := by decide +kernel
theorem dM_common_50 : decode bM_common 50 = .ok (.iload_n 1, 1) := by decide +kernel
theorem dM_common_51 : decode bM_common 51 = .ok (.iload_n 2, 1) := by decide +kernel
theorem dM_common_52 : decode bM_common 52 = .ok (.iload 5, 2) := by decide +kernel
theorem dM_common_54 : decode bM_common 54 = .ok (.invokevirtual 138, 3) := by decide +kernel
theorem dM_common_57 : decode bM_common 57 = .ok (.istore 6, 2) := by decide +kernel
theorem dM_common_59 : decode bM_common 59 = .ok (.iconst 2, 1) := by decide +kernel
theorem dM_common_60 : decode bM_common 60 = .ok (.istore 7, 2) := by decide +kernel
theorem dM_common_62 : decode bM_common 62 = .ok (.iload 7, 2) := by decide +kernel
theorem dM_common_64 : decode bM_common 64 = .ok (.aload_n 0, 1) := by decide +kernel
theorem dM_common_65 : decode bM_common 65 = .ok (.getfield 7, 3) := by decide +kernel
theorem dM_common_68 : decode bM_common 68 = .ok (.if_icmp .ge 90, 3) := by decide +kernel
theorem dM_common_71 : decode bM_common 71 = .ok (.iload 6, 2) := by decide +kernel
theorem dM_common_73 : decode bM_common 73 = .ok (.ifCond .eq 85, 3) := by decide +kernel
theorem dM_common_76 : decode bM_common 76 = .ok (.aload_n 0, 1) := by decide +kernel
theorem dM_common_77 : decode bM_common 77 = .ok (.iload 7, 2) := by decide +kernel
theorem dM_common_79 : decode bM_common 79 = .ok (.iload 5, 2) := by decide +kernel
theorem dM_common_81 : decode bM_common 81 = .ok (.invokevirtual 130, 3) := by decide +kernel
theorem dM_common_84 : decode bM_common 84 = .ok (.ifCond .ne 38, 3) := by decide +kernel
theorem dM_common_87 : decode bM_common 87 = .ok (.iload 7, 2) := by decide +kernel
theorem dM_common_89 : decode bM_common 89 = .ok (.iload 5, 2) := by decide +kernel
theorem dM_common_91 : decode bM_common 91 = .ok (.if_icmp .ge 35, 3) := by decide +kernel
theorem dM_common_94 : decode bM_common 94 = .ok (.aload_n 0, 1) := by decide +kernel
theorem dM_common_95 : decode bM_common 95 = .ok (.getfield 42, 3) := by decide +kernel
theorem dM_common_98 : decode bM_common 98 = .ok (.iload 7, 2) := by decide +kernel
theorem dM_common_100 : decode bM_common 100 = .ok (.iload 5, 2) := by decide +kernel
theorem dM_common_102 : decode bM_common 102 = .ok (.invokestatic 84, 3) := by decide +kernel
theorem dM_common_105 : decode bM_common 105 = .ok (.ifCond .eq 21, 3) := by decide +kernel
theorem dM_common_108 : decode bM_common 108 = .ok (.aload_n 0, 1) := by decide +kernel
theorem dM_common_109 : decode bM_common 109 = .ok (.getfield 42, 3) := by decide +kernel
theorem dM_common_112 : decode bM_common 112 = .ok (.iload 5, 2) := by decide +kernel
theorem dM_common_114 : decode bM_common 114 = .ok (.iload 7, 2) := by decide +kernel
theorem dM_common_116 : decode bM_common 116 = .ok (.invokestatic 84, 3) := by decide +kernel
theorem dM_common_119 : decode bM_common 119 = .ok (.ifCond .eq 7, 3) := by decide +kernel
theorem dM_common_122 : decode bM_common 122 = .ok (.iconst 1, 1) := by decide +kernel
theorem dM_common_123 : decode bM_common 123 = .ok (.goto 4, 3) := by decide +kernel
theorem dM_common_126 : decode bM_common 126 = .ok (.iconst 0, 1) := by decide +kernel
theorem dM_common_127 : decode bM_common 127 = .ok (.istore 8, 2) := by decide +kernel
theorem dM_common_129 : decode bM_common 129 = .ok (.aload_n 0, 1) := by decide +kernel
theorem dM_common_130 : decode bM_common 130 = .ok (.iload_n 1, 1) := by decide +kernel
theorem dM_common_131 : decode bM_common 131 = .ok (.iload_n 2, 1) := by decide +kernel
theorem dM_common_132 : decode bM_common 132 = .ok (.iload 7, 2) := by decide +kernel
theorem dM_common_134 : decode bM_common 134 = .ok (.invokevirtual 138, 3) := by decide +kernel
theorem dM_common_137 : decode bM_common 137 = .ok (.ifCond .eq 8, 3) := by decide +kernel
theorem dM_common_140 : decode bM_common 140 = .ok (.iload 8, 2) := by decide +kernel
theorem dM_common_142 : decode bM_common 142 = .ok (.ifCond .ne 7, 3) := by decide +kernel
theorem dM_common_145 : decode bM_common 145 = .ok (.iconst 1, 1) := by decide +kernel
theorem dM_common_146 : decode bM_common 146 = .ok (.goto 4, 3) := by decide +kernel
theorem dM_common_149 : decode bM_common 149 = .ok (.iconst 0, 1) := by decide +kernel
theorem dM_common_150 : decode bM_common 150 = .ok (.istore 6, 2) := by decide +kernel
theorem dM_common_152 : decode bM_common 152 = .ok (.iinc 7 1, 3) := by decide +kernel
theorem dM_common_155 : decode bM_common 155 = .ok (.goto (-93), 3) := by decide +kernel
theorem dM_common_158 : decode bM_common 158 = .ok (.iload 6, 2) := by decide +kernel
theorem dM_common_160 : decode bM_common 160 = .ok (.ifCond .eq 12, 3) := by decide +kernel
theorem dM_common_163 : decode bM_common 163 = .ok (.iload 4, 2) := by decide +kernel
theorem dM_common_165 : decode bM_common 165 = .ok (.iload_n 3, 1) := by decide +kernel
theorem dM_common_166 : decode bM_common 166 = .ok (.if_icmp .ne 6, 3) := by decide +kernel
theorem dM_common_169 : decode bM_common 169 = .ok (.iload 5, 2) := by decide +kernel
theorem dM_common_171 : decode bM_common 171 = .ok (.ireturn, 1) := by decide +kernel
theorem dM_common_172 : decode bM_common 172 = .ok (.iload 4, 2) := by decide +kernel
theorem dM_common_174 : decode bM_common 174 = .ok (.iload 6, 2) := by decide +kernel
theorem dM_common_176 : decode bM_common 176 = .ok (.ifCond .eq 7, 3) := by decide +kernel
theorem dM_common_179 : decode bM_common 179 = .ok (.iconst 1, 1) := by decide +kernel
theorem dM_common_180 : decode bM_common 180 = .ok (.goto 4, 3) := by decide +kernel
theorem dM_common_183 : decode bM_common 183 = .ok (.iconst 0, 1) := by decide +kernel
theorem dM_common_184 : decode bM_common 184 = .ok (.iadd, 1) := by decide +kernel
theorem dM_common_185 : decode bM_common 185 = .ok (.istore 4, 2) := by decide +kernel
theorem dM_common_187 : decode bM_common 187 = .ok (.iinc 5 1, 3) := by decide +kernel
theorem dM_common_190 : decode bM_common 190 = .ok (.goto (-150), 3) := by decide +kernel
theorem dM_common_193 : decode bM_common 193 = .ok (.iconst (-1), 1) := by decide +kernel
theorem dM_common_194 : decode bM_common 194 = .ok (.ireturn, 1) := by decide +kernel
theorem dM_why_0 : decode bM_why 0 = .ok (.aload_n 0, 1) := by decide +kernel
theorem dM_why_1 : decode bM_why 1 = .ok (.aload_n 0, 1) := by decide +kernel
theorem dM_why_2 : decode bM_why 2 = .ok (.iload_n 1, 1) := by decide +kernel
theorem dM_why_3 : decode bM_why 3 = .ok (.invokevirtual 66, 3) := by decide +kernel
theorem dM_why_6 : decode bM_why 6 = .ok (.ifCond .eq 11, 3) := by decide +kernel
theorem dM_why_9 : decode bM_why 9 = .ok (.aload_n 0, 1) := by decide +kernel
theorem dM_why_10 : decode bM_why 10 = .ok (.iload_n 2, 1) := by decide +kernel
theorem dM_why_11 : decode bM_why 11 = .ok (.invokevirtual 66, 3) := by decide +kernel
theorem dM_why_14 : decode bM_why 14 = .ok (.ifCond .ne 7, 3) := by decide +kernel
theorem dM_why_17 : decode bM_why 17 = .ok (.iconst 1, 1) := by decide +kernel
theorem dM_why_18 : decode bM_why 18 = .ok (.goto 4, 3) := by decide +kernel
theorem dM_why_21 : decode bM_why 21 = .ok (.iconst 0, 1) := by decide +kernel
theorem dM_why_22 : decode bM_why 22 = .ok (.invokevirtual 70, 3) := by decide +kernel
theorem dM_why_25 : decode bM_why 25 = .ok (.ifCond .eq 5, 3) := by decide +kernel
theorem dM_why_28 : decode bM_why 28 = .ok (.iconst 0, 1) := by decide +kernel
theorem dM_why_29 : decode bM_why 29 = .ok (.ireturn, 1) := by decide +kernel
theorem dM_why_30 : decode bM_why 30 = .ok (.aload_n 0, 1) := by decide +kernel
theorem dM_why_31 : decode bM_why 31 = .ok (.invokevirtual 127, 3) := by decide +kernel
theorem dM_why_34 : decode bM_why 34 = .ok (.aload_n 0, 1) := by decide +kernel
theorem dM_why_35 : decode bM_why 35 = .ok (.iconst 0, 1) := by decide +kernel
theorem dM_why_36 : decode bM_why 36 = .ok (.putfield 141, 3) := by decide +kernel
theorem dM_why_39 : decode bM_why 39 = .ok (.aload_n 0, 1) := by decide +kernel
theorem dM_why_40 : decode bM_why 40 = .ok (.getfield 42, 3) := by decide +kernel
theorem dM_why_43 : decode bM_why 43 = .ok (.iload_n 1, 1) := by decide +kernel
theorem dM_why_44 : decode bM_why 44 = .ok (.iload_n 2, 1) := by decide +kernel
theorem dM_why_45 : decode bM_why 45 = .ok (.invokestatic 84, 3) := by decide +kernel
theorem dM_why_48 : decode bM_why 48 = .ok (.ifCond .ne 5, 3) := by decide +kernel
theorem dM_why_51 : decode bM_why 51 = .ok (.iconst (-1), 1) := by decide +kernel
theorem dM_why_52 : decode bM_why 52 = .ok (.ireturn, 1) := by decide +kernel
theorem dM_why_53 : decode bM_why 53 = .ok (.aload_n 0, 1) := by decide +kernel
theorem dM_why_54 : decode bM_why 54 = .ok (.iconst 0, 1) := by decide +kernel
theorem dM_why_55 : decode bM_why 55 = .ok (.putfield 58, 3) := by decide +kernel
theorem dM_why_58 : decode bM_why 58 = .ok (.aload_n 0, 1) := by decide +kernel
theorem dM_why_59 : decode bM_why 59 = .ok (.getfield 77, 3) := by decide +kernel
theorem dM_why_62 : decode bM_why 62 = .ok (.istore_n 3, 1) := by decide +kernel
theorem dM_why_63 : decode bM_why 63 = .ok (.iload_n 3, 1) := by decide +kernel
theorem dM_why_64 : decode bM_why 64 = .ok (.ifCond .le 57, 3) := by decide +kernel
theorem dM_why_67 : decode bM_why 67 = .ok (.aload_n 0, 1) := by decide +kernel
theorem dM_why_68 : decode bM_why 68 = .ok (.getfield 39, 3) := by decide +kernel
theorem dM_why_71 : decode bM_why 71 = .ok (.iload_n 3, 1) := by decide +kernel
theorem dM_why_72 : decode bM_why 72 = .ok (.baload, 1) := by decide +kernel
theorem dM_why_73 : decode bM_why 73 = .ok (.ifCond .ne 6, 3) := by decide +kernel
theorem dM_why_76 : decode bM_why 76 = .ok (.goto 39, 3) := by decide +kernel
theorem dM_why_79 : decode bM_why 79 = .ok (.aload_n 0, 1) := by decide +kernel
theorem dM_why_80 : decode bM_why 80 = .ok (.getfield 39, 3) := by decide +kernel
theorem dM_why_83 : decode bM_why 83 = .ok (.iload_n 3, 1) := by decide +kernel
theorem dM_why_84 : decode bM_why 84 = .ok (.iconst 0, 1) := by decide +kernel
theorem dM_why_85 : decode bM_why 85 = .ok (.bastore, 1) := by decide +kernel
theorem dM_why_86 : decode bM_why 86 = .ok (.aload_n 0, 1) := by decide +kernel
theorem dM_why_87 : decode bM_why 87 = .ok (.iload_n 1, 1) := by decide +kernel
theorem dM_why_88 : decode bM_why 88 = .ok (.iload_n 2, 1) := by decide +kernel
theorem dM_why_89 : decode bM_why 89 = .ok (.invokevirtual 124, 3) := by decide +kernel
theorem dM_why_92 : decode bM_why 92 = .ok (.aload_n 0, 1) := by decide +kernel
theorem dM_why_93 : decode bM_why 93 = .ok (.getfield 39, 3) := by decide +kernel
theorem dM_why_96 : decode bM_why 96 = .ok (.iload_n 3, 1) := by decide +kernel
theorem dM_why_97 : decode bM_why 97 = .ok (.aload_n 0, 1) := by decide +kernel
theorem dM_why_98 : decode bM_why 98 = .ok (.getfield 42, 3) := by decide +kernel
theorem dM_why_101 : decode bM_why 101 = .ok (.iload_n 1, 1) := by decide +kernel
theorem dM_why_102 : decode bM_why 102 = .ok (.iload_n 2, 1) := by decide +kernel
theorem dM_why_103 : decode bM_why 103 = .ok (.invokestatic 84, 3) := by decide +kernel
theorem dM_why_106 : decode bM_why 106 = .ok (.ifCond .ne 7, 3) := by decide +kernel
theorem dM_why_109 : decode bM_why 109 = .ok (.iconst 1, 1) := by decide +kernel
theorem dM_why_110 : decode bM_why 110 = .ok (.goto 4, 3) := by decide +kernel
theorem dM_why_113 : decode bM_why 113 = .ok (.iconst 0, 1) := by decide +kernel
theorem dM_why_114 : decode bM_why 114 = .ok (.bastore, 1) := by decide +kernel
theorem dM_why_115 : decode bM_why 115 = .ok (.iinc 3 (-1), 3) := by decide +kernel
theorem dM_why_118 : decode bM_why 118 = .ok (.goto (-55), 3) := by decide +kernel
theorem dM_why_121 : decode bM_why 121 = .ok (.iconst 1, 1) := by decide +kernel
theorem dM_why_122 : decode bM_why 122 = .ok (.istore_n 3, 1) := by decide +kernel
theorem dM_why_123 : decode bM_why 123 = .ok (.iload_n 3, 1) := by decide +kernel
theorem dM_why_124 : decode bM_why 124 = .ok (.aload_n 0, 1) := by decide +kernel
theorem dM_why_125 : decode bM_why 125 = .ok (.getfield 77, 3) := by decide +kernel
theorem dM_why_128 : decode bM_why 128 = .ok (.if_icmp .gt 38, 3) := by decide +kernel
theorem dM_why_131 : decode bM_why 131 = .ok (.aload_n 0, 1) := by decide +kernel
theorem dM_why_132 : decode bM_why 132 = .ok (.getfield 39, 3) := by decide +kernel
theorem dM_why_135 : decode bM_why 135 = .ok (.iload_n 3, 1) := by decide +kernel
theorem dM_why_136 : decode bM_why 136 = .ok (.baload, 1) := by decide +kernel
theorem dM_why_137 : decode bM_why 137 = .ok (.ifCond .eq 23, 3) := by decide +kernel
theorem dM_why_140 : decode bM_why 140 = .ok (.aload_n 0, 1) := by decide +kernel
theorem dM_why_141 : decode bM_why 141 = .ok (.getfield 52, 3) := by decide +kernel
theorem dM_why_144 : decode bM_why 144 = .ok (.aload_n 0, 1) := by decide +kernel
theorem dM_why_145 : decode bM_why 145 = .ok (.getfield 141, 3) := by decide +kernel
theorem dM_why_148 : decode bM_why 148 = .ok (.iload_n 3, 1) := by decide +kernel
theorem dM_why_149 : decode bM_why 149 = .ok (.iastore, 1) := by decide +kernel
theorem dM_why_150 : decode bM_why 150 = .ok (.aload_n 0, 1) := by decide +kernel
theorem dM_why_151 : decode bM_why 151 = .ok (.dup, 1) := by decide +kernel
theorem dM_why_152 : decode bM_why 152 = .ok (.getfield 141, 3) := by decide +kernel
theorem dM_why_155 : decode bM_why 155 = .ok (.iconst 1, 1) := by decide +kernel
theorem dM_why_156 : decode bM_why 156 = .ok (.iadd, 1) := by decide +kernel
theorem dM_why_157 : decode bM_why 157 = .ok (.putfield 141, 3) := by decide +kernel
theorem dM_why_160 : decode bM_why 160 = .ok (.iinc 3 1, 3) := by decide +kernel
theorem dM_why_163 : decode bM_why 163 = .ok (.goto (-40), 3) := by decide +kernel
theorem dM_why_166 : decode bM_why 166 = .ok (.aload_n 0, 1) := by decide +kernel
theorem dM_why_167 : decode bM_why 167 = .ok (.getfield 141, 3) := by decide +kernel
theorem dM_why_170 : decode bM_why 170 = .ok (.ireturn, 1) := by decide +kernel
theorem dM_reason_0 : decode bM_reason 0 = .ok (.aload_n 0, 1) := by decide +kernel
theorem dM_reason_1 : decode bM_reason 1 = .ok (.iconst 0, 1) := by decide +kernel
theorem dM_reason_2 : decode bM_reason 2 = .ok (.putfield 55, 3) := by decide +kernel
theorem dM_reason_5 : decode bM_reason 5 = .ok (.iload_n 1, 1) := by decide +kernel
theorem dM_reason_6 : decode bM_reason 6 = .ok (.ifCond .lt 20, 3) := by decide +kernel
theorem dM_reason_9 : decode bM_reason 9 = .ok (.iload_n 1, 1) := by decide +kernel
theorem dM_reason_10 : decode bM_reason 10 = .ok (.aload_n 0, 1) := by decide +kernel
theorem dM_reason_11 : decode bM_reason 11 = .ok (.getfield 141, 3) := by decide +kernel
theorem dM_reason_14 : decode bM_reason 14 = .ok (.if_icmp .ge 12, 3) := by decide +kernel
theorem dM_reason_17 : decode bM_reason 17 = .ok (.aload_n 0, 1) := by decide +kernel
theorem dM_reason_18 : decode bM_reason 18 = .ok (.getfield 52, 3) := by decide +kernel
theorem dM_reason_21 : decode bM_reason 21 = .ok (.iload_n 1, 1) := by decide +kernel
theorem dM_reason_22 : decode bM_reason 22 = .ok (.iaload, 1) := by decide +kernel
theorem dM_reason_23 : decode bM_reason 23 = .ok (.goto 4, 3) := by decide +kernel
theorem dM_reason_26 : decode bM_reason 26 = .ok (.iconst (-1), 1) := by decide +kernel
theorem dM_reason_27 : decode bM_reason 27 = .ok (.ireturn, 1) := by decide +kernel
theorem dM_has_0 : decode bM_has 0 = .ok (.aload_n 0, 1) := by decide +kernel
theorem dM_has_1 : decode bM_has 1 = .ok (.aload_n 0, 1) := by decide +kernel
theorem dM_has_2 : decode bM_has 2 = .ok (.iload_n 1, 1) := by decide +kernel
theorem dM_has_3 : decode bM_has 3 = .ok (.invokevirtual 66, 3) := by decide +kernel
theorem dM_has_6 : decode bM_has 6 = .ok (.ifCond .eq 18, 3) := by decide +kernel
theorem dM_has_9 : decode bM_has 9 = .ok (.iload_n 2, 1) := by decide +kernel
theorem dM_has_10 : decode bM_has 10 = .ok (.invokestatic 74, 3) := by decide +kernel
theorem dM_has_13 : decode bM_has 13 = .ok (.ifCond .eq 11, 3) := by decide +kernel
theorem dM_has_16 : decode bM_has 16 = .ok (.aload_n 0, 1) := by decide +kernel
theorem dM_has_17 : decode bM_has 17 = .ok (.iload_n 3, 1) := by decide +kernel
theorem dM_has_18 : decode bM_has 18 = .ok (.invokevirtual 66, 3) := by decide +kernel
theorem dM_has_21 : decode bM_has 21 = .ok (.ifCond .ne 7, 3) := by decide +kernel
theorem dM_has_24 : decode bM_has 24 = .ok (.iconst 1, 1) := by decide +kernel
theorem dM_has_25 : decode bM_has 25 = .ok (.goto 4, 3) := by decide +kernel
theorem dM_has_28 : decode bM_has 28 = .ok (.iconst 0, 1) := by decide +kernel
theorem dM_has_29 : decode bM_has 29 = .ok (.invokevirtual 70, 3) := by decide +kernel
theorem dM_has_32 : decode bM_has 32 = .ok (.ifCond .eq 5, 3) := by decide +kernel
theorem dM_has_35 : decode bM_has 35 = .ok (.iconst 0, 1) := by decide +kernel
theorem dM_has_36 : decode bM_has 36 = .ok (.ireturn, 1) := by decide +kernel
theorem dM_has_37 : decode bM_has 37 = .ok (.aload_n 0, 1) := by decide +kernel
theorem dM_has_38 : decode bM_has 38 = .ok (.invokevirtual 127, 3) := by decide +kernel
theorem dM_has_41 : decode bM_has 41 = .ok (.aload_n 0, 1) := by decide +kernel
theorem dM_has_42 : decode bM_has 42 = .ok (.getfield 42, 3) := by decide +kernel
theorem dM_has_45 : decode bM_has 45 = .ok (.iload_n 1, 1) := by decide +kernel
theorem dM_has_46 : decode bM_has 46 = .ok (.iconst 1, 1) := by decide +kernel
theorem dM_has_47 : decode bM_has 47 = .ok (.invokestatic 84, 3) := by decide +kernel
theorem dM_has_50 : decode bM_has 50 = .ok (.ifCond .ne 13, 3) := by decide +kernel
theorem dM_has_53 : decode bM_has 53 = .ok (.aload_n 0, 1) := by decide +kernel
theorem dM_has_54 : decode bM_has 54 = .ok (.iload_n 2, 1) := by decide +kernel
theorem dM_has_55 : decode bM_has 55 = .ok (.iload_n 1, 1) := by decide +kernel
theorem dM_has_56 : decode bM_has 56 = .ok (.iload_n 3, 1) := by decide +kernel
theorem dM_has_57 : decode bM_has 57 = .ok (.invokevirtual 110, 3) := by decide +kernel
theorem dM_has_60 : decode bM_has 60 = .ok (.ifCond .eq 7, 3) := by decide +kernel
theorem dM_has_63 : decode bM_has 63 = .ok (.iconst 1, 1) := by decide +kernel
theorem dM_has_64 : decode bM_has 64 = .ok (.goto 4, 3) := by decide +kernel
theorem dM_has_67 : decode bM_has 67 = .ok (.iconst 0, 1) := by decide +kernel
theorem dM_has_68 : decode bM_has 68 = .ok (.ireturn, 1) := by decide +kernel
theorem dM_pairs_0 : decode bM_pairs 0 = .ok (.iconst 0, 1) := by decide +kernel
theorem dM_pairs_1 : decode bM_pairs 1 = .ok (.istore_n 1, 1) := by decide +kernel
theorem dM_pairs_2 : decode bM_pairs 2 = .ok (.iconst 0, 1) := by decide +kernel
theorem dM_pairs_3 : decode bM_pairs 3 = .ok (.istore_n 2, 1) := by decide +kernel
theorem dM_pairs_4 : decode bM_pairs 4 = .ok (.iload_n 2, 1) := by decide +kernel
theorem dM_pairs_5 : decode bM_pairs 5 = .ok (.aload_n 0, 1) := by decide +kernel
theorem dM_pairs_6 : decode bM_pairs 6 = .ok (.getfield 7, 3) := by decide +kernel
theorem dM_pairs_9 : decode bM_pairs 9 = .ok (.if_icmp .ge 50, 3) := by decide +kernel
theorem dM_pairs_12 : decode bM_pairs 12 = .ok (.iconst 0, 1) := by decide +kernel
theorem dM_pairs_13 : decode bM_pairs 13 = .ok (.istore_n 3, 1) := by decide +kernel
theorem dM_pairs_14 : decode bM_pairs 14 = .ok (.iload_n 3, 1) := by decide +kernel
theorem dM_pairs_15 : decode bM_pairs 15 = .ok (.aload_n 0, 1) := by decide +kernel
theorem dM_pairs_16 : decode bM_pairs 16 = .ok (.getfield 7, 3) := by decide +kernel
theorem dM_pairs_19 : decode bM_pairs 19 = .ok (.if_icmp .ge 34, 3) := by decide +kernel
theorem dM_pairs_22 : decode bM_pairs 22 = .ok (.iload_n 1, 1) := by decide +kernel
theorem dM_pairs_23 : decode bM_pairs 23 = .ok (.iload_n 2, 1) := by decide +kernel
theorem dM_pairs_24 : decode bM_pairs 24 = .ok (.iload_n 3, 1) := by decide +kernel
theorem dM_pairs_25 : decode bM_pairs 25 = .ok (.if_icmp .eq 19, 3) := by decide +kernel
theorem dM_pairs_28 : decode bM_pairs 28 = .ok (.aload_n 0, 1) := by decide +kernel
theorem dM_pairs_29 : decode bM_pairs 29 = .ok (.getfield 42, 3) := by decide +kernel
theorem dM_pairs_32 : decode bM_pairs 32 = .ok (.iload_n 2, 1) := by decide +kernel
theorem dM_pairs_33 : decode bM_pairs 33 = .ok (.iload_n 3, 1) := by decide +kernel
theorem dM_pairs_34 : decode bM_pairs 34 = .ok (.invokestatic 84, 3) := by decide +kernel
theorem dM_pairs_37 : decode bM_pairs 37 = .ok (.ifCond .eq 7, 3) := by decide +kernel
theorem dM_pairs_40 : decode bM_pairs 40 = .ok (.iconst 1, 1) := by decide +kernel
theorem dM_pairs_41 : decode bM_pairs 41 = .ok (.goto 4, 3) := by decide +kernel
theorem dM_pairs_44 : decode bM_pairs 44 = .ok (.iconst 0, 1) := by decide +kernel
theorem dM_pairs_45 : decode bM_pairs 45 = .ok (.iadd, 1) := by decide +kernel
theorem dM_pairs_46 : decode bM_pairs 46 = .ok (.istore_n 1, 1) := by decide +kernel
theorem dM_pairs_47 : decode bM_pairs 47 = .ok (.iinc 3 1, 3) := by decide +kernel
theorem dM_pairs_50 : decode bM_pairs 50 = .ok (.goto (-36), 3) := by decide +kernel
theorem dM_pairs_53 : decode bM_pairs 53 = .ok (.iinc 2 1, 3) := by decide +kernel
theorem dM_pairs_56 : decode bM_pairs 56 = .ok (.goto (-52), 3) := by decide +kernel
theorem dM_pairs_59 : decode bM_pairs 59 = .ok (.iload_n 1, 1) := by decide +kernel
theorem dM_pairs_60 : decode bM_pairs 60 = .ok (.ireturn, 1) := by decide +kernel
theorem dM_count_0 : decode bM_count 0 = .ok (.aload_n 0, 1) := by decide +kernel
theorem dM_count_1 : decode bM_count 1 = .ok (.iconst 0, 1) := by decide +kernel
theorem dM_count_2 : decode bM_count 2 = .ok (.putfield 55, 3) := by decide +kernel
theorem dM_count_5 : decode bM_count 5 = .ok (.aload_n 0, 1) := by decide +kernel
theorem dM_count_6 : decode bM_count 6 = .ok (.invokevirtual 127, 3) := by decide +kernel
theorem dM_count_9 : decode bM_count 9 = .ok (.iconst 0, 1) := by decide +kernel
theorem dM_count_10 : decode bM_count 10 = .ok (.istore_n 2, 1) := by decide +kernel
theorem dM_count_11 : decode bM_count 11 = .ok (.iconst 0, 1) := by decide +kernel
theorem dM_count_12 : decode bM_count 12 = .ok (.istore_n 3, 1) := by decide +kernel
theorem dM_count_13 : decode bM_count 13 = .ok (.iload_n 3, 1) := by decide +kernel
theorem dM_count_14 : decode bM_count 14 = .ok (.aload_n 0, 1) := by decide +kernel
theorem dM_count_15 : decode bM_count 15 = .ok (.getfield 7, 3) := by decide +kernel
theorem dM_count_18 : decode bM_count 18 = .ok (.if_icmp .ge 80, 3) := by decide +kernel
theorem dM_count_21 : decode bM_count 21 = .ok (.iload_n 2, 1) := by decide +kernel
theorem dM_count_22 : decode bM_count 22 = .ok (.iload_n 1, 1) := by decide +kernel
theorem dM_count_23 : decode bM_count 23 = .ok (.iconst 1, 1) := by decide +kernel
theorem dM_count_24 : decode bM_count 24 = .ok (.if_icmp .ne 21, 3) := by decide +kernel
theorem dM_count_27 : decode bM_count 27 = .ok (.aload_n 0, 1) := by decide +kernel
theorem dM_count_28 : decode bM_count 28 = .ok (.getfield 13, 3) := by decide +kernel
theorem dM_count_31 : decode bM_count 31 = .ok (.iload_n 3, 1) := by decide +kernel
theorem dM_count_32 : decode bM_count 32 = .ok (.iaload, 1) := by decide +kernel
theorem dM_count_33 : decode bM_count 33 = .ok (.iconst 2, 1) := by decide +kernel
theorem dM_count_34 : decode bM_count 34 = .ok (.if_icmp .ne 7, 3) := by decide +kernel
theorem dM_count_37 : decode bM_count 37 = .ok (.iconst 1, 1) := by decide +kernel
theorem dM_count_38 : decode bM_count 38 = .ok (.goto 52, 3) := by decide +kernel
theorem dM_count_41 : decode bM_count 41 = .ok (.iconst 0, 1) := by decide +kernel
theorem dM_count_42 : decode bM_count 42 = .ok (.goto 48, 3) := by decide +kernel
theorem dM_count_45 : decode bM_count 45 = .ok (.iload_n 1, 1) := by decide +kernel
theorem dM_count_46 : decode bM_count 46 = .ok (.iconst 5, 1) := by decide +kernel
theorem dM_count_47 : decode bM_count 47 = .ok (.if_icmp .ne 23, 3) := by decide +kernel
theorem dM_count_50 : decode bM_count 50 = .ok (.aload_n 0, 1) := by decide +kernel
theorem dM_count_51 : decode bM_count 51 = .ok (.getfield 42, 3) := by decide +kernel
theorem dM_count_54 : decode bM_count 54 = .ok (.iload_n 3, 1) := by decide +kernel
theorem dM_count_55 : decode bM_count 55 = .ok (.iconst 1, 1) := by decide +kernel
theorem dM_count_56 : decode bM_count 56 = .ok (.invokestatic 84, 3) := by decide +kernel
theorem dM_count_59 : decode bM_count 59 = .ok (.ifCond .eq 7, 3) := by decide +kernel
theorem dM_count_62 : decode bM_count 62 = .ok (.iconst 1, 1) := by decide +kernel
theorem dM_count_63 : decode bM_count 63 = .ok (.goto 27, 3) := by decide +kernel
theorem dM_count_66 : decode bM_count 66 = .ok (.iconst 0, 1) := by decide +kernel
theorem dM_count_67 : decode bM_count 67 = .ok (.goto 23, 3) := by decide +kernel
theorem dM_count_70 : decode bM_count 70 = .ok (.iload_n 1, 1) := by decide +kernel
theorem dM_count_71 : decode bM_count 71 = .ok (.bipush 6, 2) := by decide +kernel
theorem dM_count_73 : decode bM_count 73 = .ok (.if_icmp .ne 16, 3) := by decide +kernel
theorem dM_count_76 : decode bM_count 76 = .ok (.aload_n 0, 1) := by decide +kernel
theorem dM_count_77 : decode bM_count 77 = .ok (.iload_n 3, 1) := by decide +kernel
theorem dM_count_78 : decode bM_count 78 = .ok (.invokevirtual 134, 3) := by decide +kernel
theorem dM_count_81 : decode bM_count 81 = .ok (.iload_n 3, 1) := by decide +kernel
theorem dM_count_82 : decode bM_count 82 = .ok (.if_icmp .ne 7, 3) := by decide +kernel
theorem dM_count_85 : decode bM_count 85 = .ok (.iconst 1, 1) := by decide +kernel
theorem dM_count_86 : decode bM_count 86 = .ok (.goto 4, 3) := by decide +kernel
theorem dM_count_89 : decode bM_count 89 = .ok (.iconst 0, 1) := by decide +kernel
theorem dM_count_90 : decode bM_count 90 = .ok (.iadd, 1) := by decide +kernel
theorem dM_count_91 : decode bM_count 91 = .ok (.istore_n 2, 1) := by decide +kernel
theorem dM_count_92 : decode bM_count 92 = .ok (.iinc 3 1, 3) := by decide +kernel
theorem dM_count_95 : decode bM_count 95 = .ok (.goto (-82), 3) := by decide +kernel
theorem dM_count_98 : decode bM_count 98 = .ok (.iconst 1, 1) := by decide +kernel
theorem dM_count_99 : decode bM_count 99 = .ok (.istore_n 3, 1) := by decide +kernel
theorem dM_count_100 : decode bM_count 100 = .ok (.iload_n 3, 1) := by decide +kernel
theorem dM_count_101 : decode bM_count 101 = .ok (.aload_n 0, 1) := by decide +kernel
theorem dM_count_102 : decode bM_count 102 = .ok (.getfield 77, 3) := by decide +kernel
theorem dM_count_105 : decode bM_count 105 = .ok (.if_icmp .gt 31, 3) := by decide +kernel
theorem dM_count_108 : decode bM_count 108 = .ok (.iload_n 1, 1) := by decide +kernel
theorem dM_count_109 : decode bM_count 109 = .ok (.iconst 3, 1) := by decide +kernel
theorem dM_count_110 : decode bM_count 110 = .ok (.if_icmp .ne 26, 3) := by decide +kernel
theorem dM_count_113 : decode bM_count 113 = .ok (.iload_n 2, 1) := by decide +kernel
theorem dM_count_114 : decode bM_count 114 = .ok (.aload_n 0, 1) := by decide +kernel
theorem dM_count_115 : decode bM_count 115 = .ok (.getfield 35, 3) := by decide +kernel
theorem dM_count_118 : decode bM_count 118 = .ok (.iload_n 3, 1) := by decide +kernel
theorem dM_count_119 : decode bM_count 119 = .ok (.baload, 1) := by decide +kernel
theorem dM_count_120 : decode bM_count 120 = .ok (.ifCond .eq 7, 3) := by decide +kernel
theorem dM_count_123 : decode bM_count 123 = .ok (.iconst 1, 1) := by decide +kernel
theorem dM_count_124 : decode bM_count 124 = .ok (.goto 4, 3) := by decide +kernel
theorem dM_count_127 : decode bM_count 127 = .ok (.iconst 0, 1) := by decide +kernel
theorem dM_count_128 : decode bM_count 128 = .ok (.iadd, 1) := by decide +kernel
theorem dM_count_129 : decode bM_count 129 = .ok (.istore_n 2, 1) := by decide +kernel
theorem dM_count_130 : decode bM_count 130 = .ok (.iinc 3 1, 3) := by decide +kernel
theorem dM_count_133 : decode bM_count 133 = .ok (.goto (-33), 3) := by decide +kernel
theorem dM_count_136 : decode bM_count 136 = .ok (.iload_n 1, 1) := by decide +kernel
theorem dM_count_137 : decode bM_count 137 = .ok (.ifCond .ne 10, 3) := by decide +kernel
theorem dM_count_140 : decode bM_count 140 = .ok (.aload_n 0, 1) := by decide +kernel
theorem dM_count_141 : decode bM_count 141 = .ok (.getfield 7, 3) := by decide +kernel
theorem dM_count_144 : decode bM_count 144 = .ok (.goto 42, 3) := by decide +kernel
theorem dM_count_147 : decode bM_count 147 = .ok (.iload_n 1, 1) := by decide +kernel
theorem dM_count_148 : decode bM_count 148 = .ok (.iconst 2, 1) := by decide +kernel
theorem dM_count_149 : decode bM_count 149 = .ok (.if_icmp .ne 10, 3) := by decide +kernel
theorem dM_count_152 : decode bM_count 152 = .ok (.aload_n 0, 1) := by decide +kernel
theorem dM_count_153 : decode bM_count 153 = .ok (.getfield 77, 3) := by decide +kernel
theorem dM_count_156 : decode bM_count 156 = .ok (.goto 30, 3) := by decide +kernel
theorem dM_count_159 : decode bM_count 159 = .ok (.iload_n 1, 1) := by decide +kernel
theorem dM_count_160 : decode bM_count 160 = .ok (.iconst 4, 1) := by decide +kernel
theorem dM_count_161 : decode bM_count 161 = .ok (.if_icmp .ne 10, 3) := by decide +kernel
theorem dM_count_164 : decode bM_count 164 = .ok (.aload_n 0, 1) := by decide +kernel
theorem dM_count_165 : decode bM_count 165 = .ok (.invokevirtual 144, 3) := by decide +kernel
theorem dM_count_168 : decode bM_count 168 = .ok (.goto 18, 3) := by decide +kernel
theorem dM_count_171 : decode bM_count 171 = .ok (.iload_n 1, 1) := by decide +kernel
theorem dM_count_172 : decode bM_count 172 = .ok (.ifCond .lt 9, 3) := by decide +kernel
theorem dM_count_175 : decode bM_count 175 = .ok (.iload_n 1, 1) := by decide +kernel
theorem dM_count_176 : decode bM_count 176 = .ok (.bipush 6, 2) := by decide +kernel
theorem dM_count_178 : decode bM_count 178 = .ok (.if_icmp .le 7, 3) := by decide +kernel
theorem dM_count_181 : decode bM_count 181 = .ok (.iconst (-1), 1) := by decide +kernel
theorem dM_count_182 : decode bM_count 182 = .ok (.goto 4, 3) := by decide +kernel
theorem dM_count_185 : decode bM_count 185 = .ok (.iload_n 2, 1) := by decide +kernel
theorem dM_count_186 : decode bM_count 186 = .ok (.ireturn, 1) := by decide +kernel
