theorem dC_init_0 : decode bC_init 0 = .ok (.aload_n 0, 1) := by decide +kernel
theorem dC_init_1 : decode bC_init 1 = .ok (.invokespecial 5, 3) := by decide +kernel
theorem dC_init_4 : decode bC_init 4 = .ok (.aload_n 0, 1) := by decide +kernel
theorem dC_init_5 : decode bC_init 5 = .ok (.aload_n 1, 1) := by decide +kernel
theorem dC_init_6 : decode bC_init 6 = .ok (.putfield 11, 3) := by decide +kernel
theorem dC_init_9 : decode bC_init 9 = .ok (.aload_n 0, 1) := by decide +kernel
theorem dC_init_10 : decode bC_init 10 = .ok (.aload_n 2, 1) := by decide +kernel
theorem dC_init_11 : decode bC_init 11 = .ok (.putfield 15, 3) := by decide +kernel
theorem dC_init_14 : decode bC_init 14 = .ok (.aload_n 0, 1) := by decide +kernel
theorem dC_init_15 : decode bC_init 15 = .ok (.new 19, 3) := by decide +kernel
theorem dC_init_18 : decode bC_init 18 = .ok (.dup, 1) := by decide +kernel
theorem dC_init_19 : decode bC_init 19 = .ok (.sipush 1120, 3) := by decide +kernel
theorem dC_init_22 : decode bC_init 22 = .ok (.sipush 160, 3) := by decide +kernel
theorem dC_init_25 : decode bC_init 25 = .ok (.invokespecial 21, 3) := by decide +kernel
theorem dC_init_28 : decode bC_init 28 = .ok (.putfield 24, 3) := by decide +kernel
theorem dC_init_31 : decode bC_init 31 = .ok (.aload_n 0, 1) := by decide +kernel
theorem dC_init_32 : decode bC_init 32 = .ok (.new 19, 3) := by decide +kernel
theorem dC_init_35 : decode bC_init 35 = .ok (.dup, 1) := by decide +kernel
theorem dC_init_36 : decode bC_init 36 = .ok (.sipush 1120, 3) := by decide +kernel
theorem dC_init_39 : decode bC_init 39 = .ok (.sipush 160, 3) := by decide +kernel
theorem dC_init_42 : decode bC_init 42 = .ok (.invokespecial 21, 3) := by decide +kernel
theorem dC_init_45 : decode bC_init 45 = .ok (.putfield 28, 3) := by decide +kernel
theorem dC_init_48 : decode bC_init 48 = .ok (.aload_n 0, 1) := by decide +kernel
theorem dC_init_49 : decode bC_init 49 = .ok (.new 19, 3) := by decide +kernel
theorem dC_init_52 : decode bC_init 52 = .ok (.dup, 1) := by decide +kernel
theorem dC_init_53 : decode bC_init 53 = .ok (.sipush 1120, 3) := by decide +kernel
theorem dC_init_56 : decode bC_init 56 = .ok (.sipush 160, 3) := by decide +kernel
theorem dC_init_59 : decode bC_init 59 = .ok (.invokespecial 21, 3) := by decide +kernel
theorem dC_init_62 : decode bC_init 62 = .ok (.putfield 31, 3) := by decide +kernel
theorem dC_init_65 : decode bC_init 65 = .ok (.aload_n 0, 1) := by decide +kernel
theorem dC_init_66 : decode bC_init 66 = .ok (.new 19, 3) := by decide +kernel
theorem dC_init_69 : decode bC_init 69 = .ok (.dup, 1) := by decide +kernel
theorem dC_init_70 : decode bC_init 70 = .ok (.iconst 1, 1) := by decide +kernel
theorem dC_init_71 : decode bC_init 71 = .ok (.sipush 1120, 3) := by decide +kernel
theorem dC_init_74 : decode bC_init 74 = .ok (.invokespecial 21, 3) := by decide +kernel
theorem dC_init_77 : decode bC_init 77 = .ok (.putfield 34, 3) := by decide +kernel
theorem dC_init_80 : decode bC_init 80 = .ok (.aload_n 0, 1) := by decide +kernel
theorem dC_init_81 : decode bC_init 81 = .ok (.new 19, 3) := by decide +kernel
theorem dC_init_84 : decode bC_init 84 = .ok (.dup, 1) := by decide +kernel
theorem dC_init_85 : decode bC_init 85 = .ok (.sipush 160, 3) := by decide +kernel
theorem dC_init_88 : decode bC_init 88 = .ok (.sipush 160, 3) := by decide +kernel
theorem dC_init_91 : decode bC_init 91 = .ok (.invokespecial 21, 3) := by decide +kernel
theorem dC_init_94 : decode bC_init 94 = .ok (.putfield 37, 3) := by decide +kernel
theorem dC_init_97 : decode bC_init 97 = .ok (.aload_n 0, 1) := by decide +kernel
theorem dC_init_98 : decode bC_init 98 = .ok (.new 19, 3) := by decide +kernel
theorem dC_init_101 : decode bC_init 101 = .ok (.dup, 1) := by decide +kernel
theorem dC_init_102 : decode bC_init 102 = .ok (.bipush 6, 2) := by decide +kernel
theorem dC_init_104 : decode bC_init 104 = .ok (.bipush 6, 2) := by decide +kernel
theorem dC_init_106 : decode bC_init 106 = .ok (.invokespecial 21, 3) := by decide +kernel
theorem dC_init_109 : decode bC_init 109 = .ok (.putfield 40, 3) := by decide +kernel
theorem dC_init_112 : decode bC_init 112 = .ok (.aload_n 0, 1) := by decide +kernel
theorem dC_init_113 : decode bC_init 113 = .ok (.new 19, 3) := by decide +kernel
theorem dC_init_116 : decode bC_init 116 = .ok (.dup, 1) := by decide +kernel
theorem dC_init_117 : decode bC_init 117 = .ok (.bipush 36, 2) := by decide +kernel
theorem dC_init_119 : decode bC_init 119 = .ok (.bipush 6, 2) := by decide +kernel
theorem dC_init_121 : decode bC_init 121 = .ok (.invokespecial 21, 3) := by decide +kernel
theorem dC_init_124 : decode bC_init 124 = .ok (.putfield 43, 3) := by decide +kernel
theorem dC_init_127 : decode bC_init 127 = .ok (.aload_n 0, 1) := by decide +kernel
theorem dC_init_128 : decode bC_init 128 = .ok (.iconst 0, 1) := by decide +kernel
theorem dC_init_129 : decode bC_init 129 = .ok (.putfield 46, 3) := by decide +kernel
theorem dC_init_132 : decode bC_init 132 = .ok (.aload_n 0, 1) := by decide +kernel
theorem dC_init_133 : decode bC_init 133 = .ok (.iconst 0, 1) := by decide +kernel
theorem dC_init_134 : decode bC_init 134 = .ok (.putfield 50, 3) := by decide +kernel
theorem dC_init_137 : decode bC_init 137 = .ok (.aload_n 0, 1) := by decide +kernel
theorem dC_init_138 : decode bC_init 138 = .ok (.iconst 0, 1) := by decide +kernel
theorem dC_init_139 : decode bC_init 139 = .ok (.putfield 53, 3) := by decide +kernel
theorem dC_init_142 : decode bC_init 142 = .ok (.return_, 1) := by decide +kernel
theorem dC_spoil_0 : decode bC_spoil 0 = .ok (.aload_n 0, 1) := by decide +kernel
theorem dC_spoil_1 : decode bC_spoil 1 = .ok (.iconst 1, 1) := by decide +kernel
theorem dC_spoil_2 : decode bC_spoil 2 = .ok (.putfield 53, 3) := by decide +kernel
theorem dC_spoil_5 : decode bC_spoil 5 = .ok (.return_, 1) := by decide +kernel
theorem dC_isEmpty_0 : decode bC_isEmpty 0 = .ok (.aload_n 0, 1) := by decide +kernel
theorem dC_isEmpty_1 : decode bC_isEmpty 1 = .ok (.getfield 24, 3) := by decide +kernel
theorem dC_isEmpty_4 : decode bC_isEmpty 4 = .ok (.iload_n 1, 1) := by decide +kernel
theorem dC_isEmpty_5 : decode bC_isEmpty 5 = .ok (.bipush 6, 2) := by decide +kernel
theorem dC_isEmpty_7 : decode bC_isEmpty 7 = .ok (.invokestatic 57, 3) := by decide +kernel
theorem dC_isEmpty_10 : decode bC_isEmpty 10 = .ok (.iconst 1, 1) := by decide +kernel
theorem dC_isEmpty_11 : decode bC_isEmpty 11 = .ok (.invokevirtual 61, 3) := by decide +kernel
theorem dC_isEmpty_14 : decode bC_isEmpty 14 = .ok (.ireturn, 1) := by decide +kernel
theorem dC_covers_0 : decode bC_covers 0 = .ok (.aload_n 0, 1) := by decide +kernel
theorem dC_covers_1 : decode bC_covers 1 = .ok (.iload_n 1, 1) := by decide +kernel
theorem dC_covers_2 : decode bC_covers 2 = .ok (.invokevirtual 65, 3) := by decide +kernel
theorem dC_covers_5 : decode bC_covers 5 = .ok (.ifCond .ne 20, 3) := by decide +kernel
theorem dC_covers_8 : decode bC_covers 8 = .ok (.aload_n 0, 1) := by decide +kernel
theorem dC_covers_9 : decode bC_covers 9 = .ok (.getfield 24, 3) := by decide +kernel
theorem dC_covers_12 : decode bC_covers 12 = .ok (.iload_n 1, 1) := by decide +kernel
theorem dC_covers_13 : decode bC_covers 13 = .ok (.bipush 6, 2) := by decide +kernel
theorem dC_covers_15 : decode bC_covers 15 = .ok (.invokestatic 57, 3) := by decide +kernel
theorem dC_covers_18 : decode bC_covers 18 = .ok (.iload_n 2, 1) := by decide +kernel
theorem dC_covers_19 : decode bC_covers 19 = .ok (.invokevirtual 61, 3) := by decide +kernel
theorem dC_covers_22 : decode bC_covers 22 = .ok (.ifCond .eq 7, 3) := by decide +kernel
theorem dC_covers_25 : decode bC_covers 25 = .ok (.iconst 1, 1) := by decide +kernel
theorem dC_covers_26 : decode bC_covers 26 = .ok (.goto 4, 3) := by decide +kernel
theorem dC_covers_29 : decode bC_covers 29 = .ok (.iconst 0, 1) := by decide +kernel
theorem dC_covers_30 : decode bC_covers 30 = .ok (.ireturn, 1) := by decide +kernel
theorem dC_reaches_0 : decode bC_reaches 0 = .ok (.aload_n 0, 1) := by decide +kernel
theorem dC_reaches_1 : decode bC_reaches 1 = .ok (.iload_n 1, 1) := by decide +kernel
theorem dC_reaches_2 : decode bC_reaches 2 = .ok (.invokevirtual 65, 3) := by decide +kernel
theorem dC_reaches_5 : decode bC_reaches 5 = .ok (.ifCond .eq 5, 3) := by decide +kernel
theorem dC_reaches_8 : decode bC_reaches 8 = .ok (.iconst 1, 1) := by decide +kernel
theorem dC_reaches_9 : decode bC_reaches 9 = .ok (.ireturn, 1) := by decide +kernel
theorem dC_reaches_10 : decode bC_reaches 10 = .ok (.iload_n 1, 1) := by decide +kernel
theorem dC_reaches_11 : decode bC_reaches 11 = .ok (.iload_n 2, 1) := by decide +kernel
theorem dC_reaches_12 : decode bC_reaches 12 = .ok (.invokestatic 57, 3) := by decide +kernel
theorem dC_reaches_15 : decode bC_reaches 15 = .ok (.istore 4, 2) := by decide +kernel
theorem dC_reaches_17 : decode bC_reaches 17 = .ok (.aload_n 0, 1) := by decide +kernel
theorem dC_reaches_18 : decode bC_reaches 18 = .ok (.getfield 24, 3) := by decide +kernel
theorem dC_reaches_21 : decode bC_reaches 21 = .ok (.iload 4, 2) := by decide +kernel
theorem dC_reaches_23 : decode bC_reaches 23 = .ok (.iconst 0, 1) := by decide +kernel
theorem dC_reaches_24 : decode bC_reaches 24 = .ok (.invokevirtual 69, 3) := by decide +kernel
theorem dC_reaches_27 : decode bC_reaches 27 = .ok (.istore 5, 2) := by decide +kernel
theorem dC_reaches_29 : decode bC_reaches 29 = .ok (.iload 5, 2) := by decide +kernel
theorem dC_reaches_31 : decode bC_reaches 31 = .ok (.sipush 160, 3) := by decide +kernel
theorem dC_reaches_34 : decode bC_reaches 34 = .ok (.if_icmp .ge 41, 3) := by decide +kernel
theorem dC_reaches_37 : decode bC_reaches 37 = .ok (.aload_n 0, 1) := by decide +kernel
theorem dC_reaches_38 : decode bC_reaches 38 = .ok (.getfield 24, 3) := by decide +kernel
theorem dC_reaches_41 : decode bC_reaches 41 = .ok (.iload 5, 2) := by decide +kernel
theorem dC_reaches_43 : decode bC_reaches 43 = .ok (.bipush 6, 2) := by decide +kernel
theorem dC_reaches_45 : decode bC_reaches 45 = .ok (.invokestatic 57, 3) := by decide +kernel
theorem dC_reaches_48 : decode bC_reaches 48 = .ok (.iload_n 3, 1) := by decide +kernel
theorem dC_reaches_49 : decode bC_reaches 49 = .ok (.invokevirtual 61, 3) := by decide +kernel
theorem dC_reaches_52 : decode bC_reaches 52 = .ok (.ifCond .eq 5, 3) := by decide +kernel
theorem dC_reaches_55 : decode bC_reaches 55 = .ok (.iconst 1, 1) := by decide +kernel
theorem dC_reaches_56 : decode bC_reaches 56 = .ok (.ireturn, 1) := by decide +kernel
theorem dC_reaches_57 : decode bC_reaches 57 = .ok (.aload_n 0, 1) := by decide +kernel
theorem dC_reaches_58 : decode bC_reaches 58 = .ok (.getfield 24, 3) := by decide +kernel
theorem dC_reaches_61 : decode bC_reaches 61 = .ok (.iload 4, 2) := by decide +kernel
theorem dC_reaches_63 : decode bC_reaches 63 = .ok (.iload 5, 2) := by decide +kernel
theorem dC_reaches_65 : decode bC_reaches 65 = .ok (.iconst 1, 1) := by decide +kernel
theorem dC_reaches_66 : decode bC_reaches 66 = .ok (.iadd, 1) := by decide +kernel
theorem dC_reaches_67 : decode bC_reaches 67 = .ok (.invokevirtual 69, 3) := by decide +kernel
theorem dC_reaches_70 : decode bC_reaches 70 = .ok (.istore 5, 2) := by decide +kernel
theorem dC_reaches_72 : decode bC_reaches 72 = .ok (.goto (-43), 3) := by decide +kernel
theorem dC_reaches_75 : decode bC_reaches 75 = .ok (.iconst 0, 1) := by decide +kernel
theorem dC_reaches_76 : decode bC_reaches 76 = .ok (.ireturn, 1) := by decide +kernel
theorem dC_place_0 : decode bC_place 0 = .ok (.aload_n 0, 1) := by decide +kernel
theorem dC_place_1 : decode bC_place 1 = .ok (.invokevirtual 72, 3) := by decide +kernel
theorem dC_place_4 : decode bC_place 4 = .ok (.aload_n 0, 1) := by decide +kernel
theorem dC_place_5 : decode bC_place 5 = .ok (.iload_n 1, 1) := by decide +kernel
theorem dC_place_6 : decode bC_place 6 = .ok (.invokevirtual 75, 3) := by decide +kernel
theorem dC_place_9 : decode bC_place 9 = .ok (.aload_n 0, 1) := by decide +kernel
theorem dC_place_10 : decode bC_place 10 = .ok (.invokevirtual 79, 3) := by decide +kernel
theorem dC_place_13 : decode bC_place 13 = .ok (.return_, 1) := by decide +kernel
theorem dC_placeWithAbove_0 : decode bC_placeWithAbove 0 = .ok (.aload_n 0, 1) := by decide +kernel
theorem dC_placeWithAbove_1 : decode bC_placeWithAbove 1 = .ok (.invokevirtual 72, 3) := by decide +kernel
theorem dC_placeWithAbove_4 : decode bC_placeWithAbove 4 = .ok (.aload_n 0, 1) := by decide +kernel
theorem dC_placeWithAbove_5 : decode bC_placeWithAbove 5 = .ok (.iload_n 1, 1) := by decide +kernel
theorem dC_placeWithAbove_6 : decode bC_placeWithAbove 6 = .ok (.invokevirtual 75, 3) := by decide +kernel
theorem dC_placeWithAbove_9 : decode bC_placeWithAbove 9 = .ok (.aload_n 0, 1) := by decide +kernel
theorem dC_placeWithAbove_10 : decode bC_placeWithAbove 10 = .ok (.invokevirtual 79, 3) := by decide +kernel
theorem dC_placeWithAbove_13 : decode bC_placeWithAbove 13 = .ok (.iconst 0, 1) := by decide +kernel
theorem dC_placeWithAbove_14 : decode bC_placeWithAbove 14 = .ok (.istore_n 2, 1) := by decide +kernel
theorem dC_placeWithAbove_15 : decode bC_placeWithAbove 15 = .ok (.iload_n 2, 1) := by decide +kernel
theorem dC_placeWithAbove_16 : decode bC_placeWithAbove 16 = .ok (.aload_n 0, 1) := by decide +kernel
theorem dC_placeWithAbove_17 : decode bC_placeWithAbove 17 = .ok (.getfield 11, 3) := by decide +kernel
theorem dC_placeWithAbove_20 : decode bC_placeWithAbove 20 = .ok (.invokevirtual 82, 3) := by decide +kernel
theorem dC_placeWithAbove_23 : decode bC_placeWithAbove 23 = .ok (.if_icmp .ge 23, 3) := by decide +kernel
theorem dC_placeWithAbove_26 : decode bC_placeWithAbove 26 = .ok (.aload_n 0, 1) := by decide +kernel
theorem dC_placeWithAbove_27 : decode bC_placeWithAbove 27 = .ok (.iload_n 1, 1) := by decide +kernel
theorem dC_placeWithAbove_28 : decode bC_placeWithAbove 28 = .ok (.iload_n 2, 1) := by decide +kernel
theorem dC_placeWithAbove_29 : decode bC_placeWithAbove 29 = .ok (.invokevirtual 88, 3) := by decide +kernel
theorem dC_placeWithAbove_32 : decode bC_placeWithAbove 32 = .ok (.ifCond .eq 8, 3) := by decide +kernel
theorem dC_placeWithAbove_35 : decode bC_placeWithAbove 35 = .ok (.aload_n 0, 1) := by decide +kernel
theorem dC_placeWithAbove_36 : decode bC_placeWithAbove 36 = .ok (.iload_n 2, 1) := by decide +kernel
theorem dC_placeWithAbove_37 : decode bC_placeWithAbove 37 = .ok (.invokevirtual 75, 3) := by decide +kernel
theorem dC_placeWithAbove_40 : decode bC_placeWithAbove 40 = .ok (.iinc 2 1, 3) := by decide +kernel
theorem dC_placeWithAbove_43 : decode bC_placeWithAbove 43 = .ok (.goto (-28), 3) := by decide +kernel
theorem dC_placeWithAbove_46 : decode bC_placeWithAbove 46 = .ok (.aload_n 0, 1) := by decide +kernel
theorem dC_placeWithAbove_47 : decode bC_placeWithAbove 47 = .ok (.invokevirtual 79, 3) := by decide +kernel
theorem dC_placeWithAbove_50 : decode bC_placeWithAbove 50 = .ok (.return_, 1) := by decide +kernel
theorem dC_placeAll_0 : decode bC_placeAll 0 = .ok (.aload_n 0, 1) := by decide +kernel
theorem dC_placeAll_1 : decode bC_placeAll 1 = .ok (.invokevirtual 72, 3) := by decide +kernel
theorem dC_placeAll_4 : decode bC_placeAll 4 = .ok (.iconst 0, 1) := by decide +kernel
theorem dC_placeAll_5 : decode bC_placeAll 5 = .ok (.istore_n 1, 1) := by decide +kernel
theorem dC_placeAll_6 : decode bC_placeAll 6 = .ok (.iload_n 1, 1) := by decide +kernel
theorem dC_placeAll_7 : decode bC_placeAll 7 = .ok (.aload_n 0, 1) := by decide +kernel
theorem dC_placeAll_8 : decode bC_placeAll 8 = .ok (.getfield 11, 3) := by decide +kernel
theorem dC_placeAll_11 : decode bC_placeAll 11 = .ok (.invokevirtual 82, 3) := by decide +kernel
theorem dC_placeAll_14 : decode bC_placeAll 14 = .ok (.if_icmp .ge 14, 3) := by decide +kernel
theorem dC_placeAll_17 : decode bC_placeAll 17 = .ok (.aload_n 0, 1) := by decide +kernel
theorem dC_placeAll_18 : decode bC_placeAll 18 = .ok (.iload_n 1, 1) := by decide +kernel
theorem dC_placeAll_19 : decode bC_placeAll 19 = .ok (.invokevirtual 75, 3) := by decide +kernel
theorem dC_placeAll_22 : decode bC_placeAll 22 = .ok (.iinc 1 1, 3) := by decide +kernel
theorem dC_placeAll_25 : decode bC_placeAll 25 = .ok (.goto (-19), 3) := by decide +kernel
theorem dC_placeAll_28 : decode bC_placeAll 28 = .ok (.aload_n 0, 1) := by decide +kernel
theorem dC_placeAll_29 : decode bC_placeAll 29 = .ok (.invokevirtual 79, 3) := by decide +kernel
theorem dC_placeAll_32 : decode bC_placeAll 32 = .ok (.return_, 1) := by decide +kernel
theorem dC_forget_0 : decode bC_forget 0 = .ok (.aload_n 0, 1) := by decide +kernel
theorem dC_forget_1 : decode bC_forget 1 = .ok (.getfield 11, 3) := by decide +kernel
theorem dC_forget_4 : decode bC_forget 4 = .ok (.invokevirtual 82, 3) := by decide +kernel
theorem dC_forget_7 : decode bC_forget 7 = .ok (.bipush 7, 2) := by decide +kernel
theorem dC_forget_9 : decode bC_forget 9 = .ok (.imul, 1) := by decide +kernel
theorem dC_forget_10 : decode bC_forget 10 = .ok (.istore_n 1, 1) := by decide +kernel
theorem dC_forget_11 : decode bC_forget 11 = .ok (.aload_n 0, 1) := by decide +kernel
theorem dC_forget_12 : decode bC_forget 12 = .ok (.getfield 24, 3) := by decide +kernel
theorem dC_forget_15 : decode bC_forget 15 = .ok (.iload_n 1, 1) := by decide +kernel
theorem dC_forget_16 : decode bC_forget 16 = .ok (.invokevirtual 91, 3) := by decide +kernel
theorem dC_forget_19 : decode bC_forget 19 = .ok (.aload_n 0, 1) := by decide +kernel
theorem dC_forget_20 : decode bC_forget 20 = .ok (.getfield 28, 3) := by decide +kernel
theorem dC_forget_23 : decode bC_forget 23 = .ok (.iload_n 1, 1) := by decide +kernel
theorem dC_forget_24 : decode bC_forget 24 = .ok (.invokevirtual 91, 3) := by decide +kernel
theorem dC_forget_27 : decode bC_forget 27 = .ok (.aload_n 0, 1) := by decide +kernel
theorem dC_forget_28 : decode bC_forget 28 = .ok (.getfield 31, 3) := by decide +kernel
theorem dC_forget_31 : decode bC_forget 31 = .ok (.iload_n 1, 1) := by decide +kernel
theorem dC_forget_32 : decode bC_forget 32 = .ok (.invokevirtual 91, 3) := by decide +kernel
theorem dC_forget_35 : decode bC_forget 35 = .ok (.aload_n 0, 1) := by decide +kernel
theorem dC_forget_36 : decode bC_forget 36 = .ok (.getfield 34, 3) := by decide +kernel
theorem dC_forget_39 : decode bC_forget 39 = .ok (.iconst 1, 1) := by decide +kernel
theorem dC_forget_40 : decode bC_forget 40 = .ok (.invokevirtual 91, 3) := by decide +kernel
theorem dC_forget_43 : decode bC_forget 43 = .ok (.aload_n 0, 1) := by decide +kernel
theorem dC_forget_44 : decode bC_forget 44 = .ok (.getfield 37, 3) := by decide +kernel
theorem dC_forget_47 : decode bC_forget 47 = .ok (.aload_n 0, 1) := by decide +kernel
theorem dC_forget_48 : decode bC_forget 48 = .ok (.getfield 11, 3) := by decide +kernel
theorem dC_forget_51 : decode bC_forget 51 = .ok (.invokevirtual 82, 3) := by decide +kernel
theorem dC_forget_54 : decode bC_forget 54 = .ok (.invokevirtual 91, 3) := by decide +kernel
theorem dC_forget_57 : decode bC_forget 57 = .ok (.aload_n 0, 1) := by decide +kernel
theorem dC_forget_58 : decode bC_forget 58 = .ok (.getfield 40, 3) := by decide +kernel
theorem dC_forget_61 : decode bC_forget 61 = .ok (.bipush 6, 2) := by decide +kernel
theorem dC_forget_63 : decode bC_forget 63 = .ok (.invokevirtual 91, 3) := by decide +kernel
theorem dC_forget_66 : decode bC_forget 66 = .ok (.aload_n 0, 1) := by decide +kernel
theorem dC_forget_67 : decode bC_forget 67 = .ok (.getfield 43, 3) := by decide +kernel
theorem dC_forget_70 : decode bC_forget 70 = .ok (.bipush 36, 2) := by decide +kernel
theorem dC_forget_72 : decode bC_forget 72 = .ok (.invokevirtual 91, 3) := by decide +kernel
theorem dC_forget_75 : decode bC_forget 75 = .ok (.aload_n 0, 1) := by decide +kernel
theorem dC_forget_76 : decode bC_forget 76 = .ok (.aload_n 0, 1) := by decide +kernel
theorem dC_forget_77 : decode bC_forget 77 = .ok (.getfield 11, 3) := by decide +kernel
theorem dC_forget_80 : decode bC_forget 80 = .ok (.invokevirtual 82, 3) := by decide +kernel
theorem dC_forget_83 : decode bC_forget 83 = .ok (.putfield 46, 3) := by decide +kernel
theorem dC_forget_86 : decode bC_forget 86 = .ok (.aload_n 0, 1) := by decide +kernel
theorem dC_forget_87 : decode bC_forget 87 = .ok (.iconst 0, 1) := by decide +kernel
theorem dC_forget_88 : decode bC_forget 88 = .ok (.putfield 50, 3) := by decide +kernel
theorem dC_forget_91 : decode bC_forget 91 = .ok (.aload_n 0, 1) := by decide +kernel
theorem dC_forget_92 : decode bC_forget 92 = .ok (.iconst 0, 1) := by decide +kernel
theorem dC_forget_93 : decode bC_forget 93 = .ok (.putfield 53, 3) := by decide +kernel
theorem dC_forget_96 : decode bC_forget 96 = .ok (.return_, 1) := by decide +kernel
theorem dC_begin_0 : decode bC_begin 0 = .ok (.aload_n 0, 1) := by decide +kernel
theorem dC_begin_1 : decode bC_begin 1 = .ok (.getfield 24, 3) := by decide +kernel
theorem dC_begin_4 : decode bC_begin 4 = .ok (.iload_n 1, 1) := by decide +kernel
theorem dC_begin_5 : decode bC_begin 5 = .ok (.bipush 6, 2) := by decide +kernel
theorem dC_begin_7 : decode bC_begin 7 = .ok (.invokestatic 57, 3) := by decide +kernel
theorem dC_begin_10 : decode bC_begin 10 = .ok (.iload_n 1, 1) := by decide +kernel
theorem dC_begin_11 : decode bC_begin 11 = .ok (.invokevirtual 61, 3) := by decide +kernel
theorem dC_begin_14 : decode bC_begin 14 = .ok (.ifCond .ne 19, 3) := by decide +kernel
theorem dC_begin_17 : decode bC_begin 17 = .ok (.aload_n 0, 1) := by decide +kernel
theorem dC_begin_18 : decode bC_begin 18 = .ok (.iload_n 1, 1) := by decide +kernel
theorem dC_begin_19 : decode bC_begin 19 = .ok (.bipush 6, 2) := by decide +kernel
theorem dC_begin_21 : decode bC_begin 21 = .ok (.iload_n 1, 1) := by decide +kernel
theorem dC_begin_22 : decode bC_begin 22 = .ok (.invokevirtual 94, 3) := by decide +kernel
theorem dC_begin_25 : decode bC_begin 25 = .ok (.aload_n 0, 1) := by decide +kernel
theorem dC_begin_26 : decode bC_begin 26 = .ok (.iload_n 1, 1) := by decide +kernel
theorem dC_begin_27 : decode bC_begin 27 = .ok (.bipush 6, 2) := by decide +kernel
theorem dC_begin_29 : decode bC_begin 29 = .ok (.iconst 0, 1) := by decide +kernel
theorem dC_begin_30 : decode bC_begin 30 = .ok (.invokevirtual 94, 3) := by decide +kernel
theorem dC_begin_33 : decode bC_begin 33 = .ok (.return_, 1) := by decide +kernel
theorem dC_hear_0 : decode bC_hear 0 = .ok (.aload_n 0, 1) := by decide +kernel
theorem dC_hear_1 : decode bC_hear 1 = .ok (.getfield 15, 3) := by decide +kernel
theorem dC_hear_4 : decode bC_hear 4 = .ok (.iload_n 1, 1) := by decide +kernel
theorem dC_hear_5 : decode bC_hear 5 = .ok (.invokevirtual 98, 3) := by decide +kernel
theorem dC_hear_8 : decode bC_hear 8 = .ok (.istore_n 2, 1) := by decide +kernel
theorem dC_hear_9 : decode bC_hear 9 = .ok (.aload_n 0, 1) := by decide +kernel
theorem dC_hear_10 : decode bC_hear 10 = .ok (.getfield 15, 3) := by decide +kernel
theorem dC_hear_13 : decode bC_hear 13 = .ok (.iload_n 1, 1) := by decide +kernel
theorem dC_hear_14 : decode bC_hear 14 = .ok (.invokevirtual 104, 3) := by decide +kernel
theorem dC_hear_17 : decode bC_hear 17 = .ok (.istore_n 3, 1) := by decide +kernel
theorem dC_hear_18 : decode bC_hear 18 = .ok (.aload_n 0, 1) := by decide +kernel
theorem dC_hear_19 : decode bC_hear 19 = .ok (.getfield 15, 3) := by decide +kernel
theorem dC_hear_22 : decode bC_hear 22 = .ok (.iload_n 1, 1) := by decide +kernel
theorem dC_hear_23 : decode bC_hear 23 = .ok (.invokevirtual 107, 3) := by decide +kernel
theorem dC_hear_26 : decode bC_hear 26 = .ok (.tableswitch 148 0 2 #[26, 52, 101], 26) := by decide +kernel
theorem dC_hear_52 : decode bC_hear 52 = .ok (.aload_n 0, 1) := by decide +kernel
theorem dC_hear_53 : decode bC_hear 53 = .ok (.getfield 37, 3) := by decide +kernel
theorem dC_hear_56 : decode bC_hear 56 = .ok (.iload_n 2, 1) := by decide +kernel
theorem dC_hear_57 : decode bC_hear 57 = .ok (.iload_n 3, 1) := by decide +kernel
theorem dC_hear_58 : decode bC_hear 58 = .ok (.invokevirtual 110, 3) := by decide +kernel
theorem dC_hear_61 : decode bC_hear 61 = .ok (.pop, 1) := by decide +kernel
theorem dC_hear_62 : decode bC_hear 62 = .ok (.aload_n 0, 1) := by decide +kernel
theorem dC_hear_63 : decode bC_hear 63 = .ok (.iload_n 2, 1) := by decide +kernel
theorem dC_hear_64 : decode bC_hear 64 = .ok (.bipush 6, 2) := by decide +kernel
theorem dC_hear_66 : decode bC_hear 66 = .ok (.invokestatic 57, 3) := by decide +kernel
theorem dC_hear_69 : decode bC_hear 69 = .ok (.bipush 6, 2) := by decide +kernel
theorem dC_hear_71 : decode bC_hear 71 = .ok (.iload_n 3, 1) := by decide +kernel
theorem dC_hear_72 : decode bC_hear 72 = .ok (.invokevirtual 113, 3) := by decide +kernel
theorem dC_hear_75 : decode bC_hear 75 = .ok (.goto 208, 3) := by decide +kernel
theorem dC_hear_78 : decode bC_hear 78 = .ok (.aload_n 0, 1) := by decide +kernel
theorem dC_hear_79 : decode bC_hear 79 = .ok (.getfield 37, 3) := by decide +kernel
theorem dC_hear_82 : decode bC_hear 82 = .ok (.iload_n 2, 1) := by decide +kernel
theorem dC_hear_83 : decode bC_hear 83 = .ok (.iload_n 3, 1) := by decide +kernel
theorem dC_hear_84 : decode bC_hear 84 = .ok (.invokevirtual 110, 3) := by decide +kernel
theorem dC_hear_87 : decode bC_hear 87 = .ok (.pop, 1) := by decide +kernel
theorem dC_hear_88 : decode bC_hear 88 = .ok (.aload_n 0, 1) := by decide +kernel
theorem dC_hear_89 : decode bC_hear 89 = .ok (.getfield 37, 3) := by decide +kernel
theorem dC_hear_92 : decode bC_hear 92 = .ok (.iload_n 3, 1) := by decide +kernel
theorem dC_hear_93 : decode bC_hear 93 = .ok (.iload_n 2, 1) := by decide +kernel
theorem dC_hear_94 : decode bC_hear 94 = .ok (.invokevirtual 110, 3) := by decide +kernel
theorem dC_hear_97 : decode bC_hear 97 = .ok (.pop, 1) := by decide +kernel
theorem dC_hear_98 : decode bC_hear 98 = .ok (.aload_n 0, 1) := by decide +kernel
theorem dC_hear_99 : decode bC_hear 99 = .ok (.iload_n 2, 1) := by decide +kernel
theorem dC_hear_100 : decode bC_hear 100 = .ok (.bipush 6, 2) := by decide +kernel
theorem dC_hear_102 : decode bC_hear 102 = .ok (.invokestatic 57, 3) := by decide +kernel
theorem dC_hear_105 : decode bC_hear 105 = .ok (.bipush 6, 2) := by decide +kernel
theorem dC_hear_107 : decode bC_hear 107 = .ok (.iload_n 3, 1) := by decide +kernel
theorem dC_hear_108 : decode bC_hear 108 = .ok (.invokevirtual 113, 3) := by decide +kernel
theorem dC_hear_111 : decode bC_hear 111 = .ok (.aload_n 0, 1) := by decide +kernel
theorem dC_hear_112 : decode bC_hear 112 = .ok (.iload_n 3, 1) := by decide +kernel
theorem dC_hear_113 : decode bC_hear 113 = .ok (.bipush 6, 2) := by decide +kernel
theorem dC_hear_115 : decode bC_hear 115 = .ok (.invokestatic 57, 3) := by decide +kernel
theorem dC_hear_118 : decode bC_hear 118 = .ok (.bipush 6, 2) := by decide +kernel
theorem dC_hear_120 : decode bC_hear 120 = .ok (.iload_n 2, 1) := by decide +kernel
theorem dC_hear_121 : decode bC_hear 121 = .ok (.invokevirtual 113, 3) := by decide +kernel
theorem dC_hear_124 : decode bC_hear 124 = .ok (.goto 159, 3) := by decide +kernel
theorem dC_hear_127 : decode bC_hear 127 = .ok (.aload_n 0, 1) := by decide +kernel
theorem dC_hear_128 : decode bC_hear 128 = .ok (.getfield 40, 3) := by decide +kernel
theorem dC_hear_131 : decode bC_hear 131 = .ok (.iload_n 2, 1) := by decide +kernel
theorem dC_hear_132 : decode bC_hear 132 = .ok (.iload_n 3, 1) := by decide +kernel
theorem dC_hear_133 : decode bC_hear 133 = .ok (.invokevirtual 110, 3) := by decide +kernel
theorem dC_hear_136 : decode bC_hear 136 = .ok (.pop, 1) := by decide +kernel
theorem dC_hear_137 : decode bC_hear 137 = .ok (.iconst 0, 1) := by decide +kernel
theorem dC_hear_138 : decode bC_hear 138 = .ok (.istore 4, 2) := by decide +kernel
theorem dC_hear_140 : decode bC_hear 140 = .ok (.iload 4, 2) := by decide +kernel
theorem dC_hear_142 : decode bC_hear 142 = .ok (.aload_n 0, 1) := by decide +kernel
theorem dC_hear_143 : decode bC_hear 143 = .ok (.getfield 11, 3) := by decide +kernel
theorem dC_hear_146 : decode bC_hear 146 = .ok (.invokevirtual 82, 3) := by decide +kernel
theorem dC_hear_149 : decode bC_hear 149 = .ok (.if_icmp .ge 22, 3) := by decide +kernel
theorem dC_hear_152 : decode bC_hear 152 = .ok (.aload_n 0, 1) := by decide +kernel
theorem dC_hear_153 : decode bC_hear 153 = .ok (.iload 4, 2) := by decide +kernel
theorem dC_hear_155 : decode bC_hear 155 = .ok (.iload_n 2, 1) := by decide +kernel
theorem dC_hear_156 : decode bC_hear 156 = .ok (.invokestatic 57, 3) := by decide +kernel
theorem dC_hear_159 : decode bC_hear 159 = .ok (.iload_n 3, 1) := by decide +kernel
theorem dC_hear_160 : decode bC_hear 160 = .ok (.iload 4, 2) := by decide +kernel
theorem dC_hear_162 : decode bC_hear 162 = .ok (.invokevirtual 113, 3) := by decide +kernel
theorem dC_hear_165 : decode bC_hear 165 = .ok (.iinc 4 1, 3) := by decide +kernel
theorem dC_hear_168 : decode bC_hear 168 = .ok (.goto (-28), 3) := by decide +kernel
theorem dC_hear_171 : decode bC_hear 171 = .ok (.goto 112, 3) := by decide +kernel
theorem dC_hear_174 : decode bC_hear 174 = .ok (.aload_n 0, 1) := by decide +kernel
theorem dC_hear_175 : decode bC_hear 175 = .ok (.getfield 43, 3) := by decide +kernel
theorem dC_hear_178 : decode bC_hear 178 = .ok (.iload_n 2, 1) := by decide +kernel
theorem dC_hear_179 : decode bC_hear 179 = .ok (.bipush 6, 2) := by decide +kernel
theorem dC_hear_181 : decode bC_hear 181 = .ok (.imul, 1) := by decide +kernel
theorem dC_hear_182 : decode bC_hear 182 = .ok (.iload_n 3, 1) := by decide +kernel
theorem dC_hear_183 : decode bC_hear 183 = .ok (.iadd, 1) := by decide +kernel
theorem dC_hear_184 : decode bC_hear 184 = .ok (.aload_n 0, 1) := by decide +kernel
theorem dC_hear_185 : decode bC_hear 185 = .ok (.getfield 15, 3) := by decide +kernel
theorem dC_hear_188 : decode bC_hear 188 = .ok (.iload_n 1, 1) := by decide +kernel
theorem dC_hear_189 : decode bC_hear 189 = .ok (.invokevirtual 116, 3) := by decide +kernel
theorem dC_hear_192 : decode bC_hear 192 = .ok (.invokevirtual 110, 3) := by decide +kernel
theorem dC_hear_195 : decode bC_hear 195 = .ok (.pop, 1) := by decide +kernel
theorem dC_hear_196 : decode bC_hear 196 = .ok (.iconst 0, 1) := by decide +kernel
theorem dC_hear_197 : decode bC_hear 197 = .ok (.istore 4, 2) := by decide +kernel
theorem dC_hear_199 : decode bC_hear 199 = .ok (.iload 4, 2) := by decide +kernel
theorem dC_hear_201 : decode bC_hear 201 = .ok (.aload_n 0, 1) := by decide +kernel
theorem dC_hear_202 : decode bC_hear 202 = .ok (.getfield 11, 3) := by decide +kernel
theorem dC_hear_205 : decode bC_hear 205 = .ok (.invokevirtual 82, 3) := by decide +kernel
theorem dC_hear_208 : decode bC_hear 208 = .ok (.if_icmp .ge 75, 3) := by decide +kernel
theorem dC_hear_211 : decode bC_hear 211 = .ok (.iload 4, 2) := by decide +kernel
theorem dC_hear_213 : decode bC_hear 213 = .ok (.iload_n 3, 1) := by decide +kernel
theorem dC_hear_214 : decode bC_hear 214 = .ok (.invokestatic 57, 3) := by decide +kernel
theorem dC_hear_217 : decode bC_hear 217 = .ok (.istore 5, 2) := by decide +kernel
theorem dC_hear_219 : decode bC_hear 219 = .ok (.aload_n 0, 1) := by decide +kernel
theorem dC_hear_220 : decode bC_hear 220 = .ok (.getfield 24, 3) := by decide +kernel
theorem dC_hear_223 : decode bC_hear 223 = .ok (.iload 5, 2) := by decide +kernel
theorem dC_hear_225 : decode bC_hear 225 = .ok (.iconst 0, 1) := by decide +kernel
theorem dC_hear_226 : decode bC_hear 226 = .ok (.invokevirtual 69, 3) := by decide +kernel
theorem dC_hear_229 : decode bC_hear 229 = .ok (.istore 6, 2) := by decide +kernel
theorem dC_hear_231 : decode bC_hear 231 = .ok (.iload 6, 2) := by decide +kernel
theorem dC_hear_233 : decode bC_hear 233 = .ok (.sipush 160, 3) := by decide +kernel
theorem dC_hear_236 : decode bC_hear 236 = .ok (.if_icmp .ge 41, 3) := by decide +kernel
theorem dC_hear_239 : decode bC_hear 239 = .ok (.aload_n 0, 1) := by decide +kernel
theorem dC_hear_240 : decode bC_hear 240 = .ok (.iload 4, 2) := by decide +kernel
theorem dC_hear_242 : decode bC_hear 242 = .ok (.iload_n 2, 1) := by decide +kernel
theorem dC_hear_243 : decode bC_hear 243 = .ok (.invokestatic 57, 3) := by decide +kernel
theorem dC_hear_246 : decode bC_hear 246 = .ok (.aload_n 0, 1) := by decide +kernel
theorem dC_hear_247 : decode bC_hear 247 = .ok (.getfield 15, 3) := by decide +kernel
theorem dC_hear_250 : decode bC_hear 250 = .ok (.iload_n 1, 1) := by decide +kernel
theorem dC_hear_251 : decode bC_hear 251 = .ok (.invokevirtual 116, 3) := by decide +kernel
theorem dC_hear_254 : decode bC_hear 254 = .ok (.iload 6, 2) := by decide +kernel
theorem dC_hear_256 : decode bC_hear 256 = .ok (.invokevirtual 113, 3) := by decide +kernel
theorem dC_hear_259 : decode bC_hear 259 = .ok (.aload_n 0, 1) := by decide +kernel
theorem dC_hear_260 : decode bC_hear 260 = .ok (.getfield 24, 3) := by decide +kernel
theorem dC_hear_263 : decode bC_hear 263 = .ok (.iload 5, 2) := by decide +kernel
theorem dC_hear_265 : decode bC_hear 265 = .ok (.iload 6, 2) := by decide +kernel
theorem dC_hear_267 : decode bC_hear 267 = .ok (.iconst 1, 1) := by decide +kernel
theorem dC_hear_268 : decode bC_hear 268 = .ok (.iadd, 1) := by decide +kernel
theorem dC_hear_269 : decode bC_hear 269 = .ok (.invokevirtual 69, 3) := by decide +kernel
theorem dC_hear_272 : decode bC_hear 272 = .ok (.istore 6, 2) := by decide +kernel
theorem dC_hear_274 : decode bC_hear 274 = .ok (.goto (-43), 3) := by decide +kernel
theorem dC_hear_277 : decode bC_hear 277 = .ok (.iinc 4 1, 3) := by decide +kernel
theorem dC_hear_280 : decode bC_hear 280 = .ok (.goto (-81), 3) := by decide +kernel
theorem dC_hear_283 : decode bC_hear 283 = .ok (.return_, 1) := by decide +kernel
theorem dC_saturate_0 : decode bC_saturate 0 = .ok (.iconst 0, 1) := by decide +kernel
theorem dC_saturate_1 : decode bC_saturate 1 = .ok (.istore_n 1, 1) := by decide +kernel
theorem dC_saturate_2 : decode bC_saturate 2 = .ok (.iload_n 1, 1) := by decide +kernel
theorem dC_saturate_3 : decode bC_saturate 3 = .ok (.ldc 119, 2) := by decide +kernel
theorem dC_saturate_5 : decode bC_saturate 5 = .ok (.if_icmp .ge 192, 3) := by decide +kernel
theorem dC_saturate_8 : decode bC_saturate 8 = .ok (.aload_n 0, 1) := by decide +kernel
theorem dC_saturate_9 : decode bC_saturate 9 = .ok (.getfield 34, 3) := by decide +kernel
theorem dC_saturate_12 : decode bC_saturate 12 = .ok (.iconst 0, 1) := by decide +kernel
theorem dC_saturate_13 : decode bC_saturate 13 = .ok (.iconst 0, 1) := by decide +kernel
theorem dC_saturate_14 : decode bC_saturate 14 = .ok (.invokevirtual 69, 3) := by decide +kernel
theorem dC_saturate_17 : decode bC_saturate 17 = .ok (.istore_n 2, 1) := by decide +kernel
theorem dC_saturate_18 : decode bC_saturate 18 = .ok (.iload_n 2, 1) := by decide +kernel
theorem dC_saturate_19 : decode bC_saturate 19 = .ok (.sipush 1120, 3) := by decide +kernel
theorem dC_saturate_22 : decode bC_saturate 22 = .ok (.if_icmp .lt 4, 3) := by decide +kernel
theorem dC_saturate_25 : decode bC_saturate 25 = .ok (.return_, 1) := by decide +kernel
theorem dC_saturate_26 : decode bC_saturate 26 = .ok (.aload_n 0, 1) := by decide +kernel
theorem dC_saturate_27 : decode bC_saturate 27 = .ok (.getfield 34, 3) := by decide +kernel
theorem dC_saturate_30 : decode bC_saturate 30 = .ok (.iconst 0, 1) := by decide +kernel
theorem dC_saturate_31 : decode bC_saturate 31 = .ok (.iload_n 2, 1) := by decide +kernel
theorem dC_saturate_32 : decode bC_saturate 32 = .ok (.invokevirtual 120, 3) := by decide +kernel
theorem dC_saturate_35 : decode bC_saturate 35 = .ok (.iload_n 2, 1) := by decide +kernel
theorem dC_saturate_36 : decode bC_saturate 36 = .ok (.bipush 7, 2) := by decide +kernel
theorem dC_saturate_38 : decode bC_saturate 38 = .ok (.idiv, 1) := by decide +kernel
theorem dC_saturate_39 : decode bC_saturate 39 = .ok (.istore_n 3, 1) := by decide +kernel
theorem dC_saturate_40 : decode bC_saturate 40 = .ok (.iload_n 2, 1) := by decide +kernel
theorem dC_saturate_41 : decode bC_saturate 41 = .ok (.bipush 7, 2) := by decide +kernel
theorem dC_saturate_43 : decode bC_saturate 43 = .ok (.irem, 1) := by decide +kernel
theorem dC_saturate_44 : decode bC_saturate 44 = .ok (.istore 4, 2) := by decide +kernel
theorem dC_saturate_46 : decode bC_saturate 46 = .ok (.aload_n 0, 1) := by decide +kernel
theorem dC_saturate_47 : decode bC_saturate 47 = .ok (.getfield 31, 3) := by decide +kernel
theorem dC_saturate_50 : decode bC_saturate 50 = .ok (.iload_n 2, 1) := by decide +kernel
theorem dC_saturate_51 : decode bC_saturate 51 = .ok (.iconst 0, 1) := by decide +kernel
theorem dC_saturate_52 : decode bC_saturate 52 = .ok (.invokevirtual 69, 3) := by decide +kernel
theorem dC_saturate_55 : decode bC_saturate 55 = .ok (.istore 5, 2) := by decide +kernel
theorem dC_saturate_57 : decode bC_saturate 57 = .ok (.iload 5, 2) := by decide +kernel
theorem dC_saturate_59 : decode bC_saturate 59 = .ok (.sipush 160, 3) := by decide +kernel
theorem dC_saturate_62 : decode bC_saturate 62 = .ok (.if_icmp .ge 129, 3) := by decide +kernel
theorem dC_saturate_65 : decode bC_saturate 65 = .ok (.aload_n 0, 1) := by decide +kernel
theorem dC_saturate_66 : decode bC_saturate 66 = .ok (.getfield 31, 3) := by decide +kernel
theorem dC_saturate_69 : decode bC_saturate 69 = .ok (.iload_n 2, 1) := by decide +kernel
theorem dC_saturate_70 : decode bC_saturate 70 = .ok (.iload 5, 2) := by decide +kernel
theorem dC_saturate_72 : decode bC_saturate 72 = .ok (.invokevirtual 120, 3) := by decide +kernel
theorem dC_saturate_75 : decode bC_saturate 75 = .ok (.iload 4, 2) := by decide +kernel
theorem dC_saturate_77 : decode bC_saturate 77 = .ok (.bipush 6, 2) := by decide +kernel
theorem dC_saturate_79 : decode bC_saturate 79 = .ok (.if_icmp .ne 17, 3) := by decide +kernel
theorem dC_saturate_82 : decode bC_saturate 82 = .ok (.iload 5, 2) := by decide +kernel
theorem dC_saturate_84 : decode bC_saturate 84 = .ok (.iconst 1, 1) := by decide +kernel
theorem dC_saturate_85 : decode bC_saturate 85 = .ok (.if_icmp .ne 11, 3) := by decide +kernel
theorem dC_saturate_88 : decode bC_saturate 88 = .ok (.aload_n 0, 1) := by decide +kernel
theorem dC_saturate_89 : decode bC_saturate 89 = .ok (.iload_n 3, 1) := by decide +kernel
theorem dC_saturate_90 : decode bC_saturate 90 = .ok (.invokevirtual 123, 3) := by decide +kernel
theorem dC_saturate_93 : decode bC_saturate 93 = .ok (.goto 81, 3) := by decide +kernel
theorem dC_saturate_96 : decode bC_saturate 96 = .ok (.iload 4, 2) := by decide +kernel
theorem dC_saturate_98 : decode bC_saturate 98 = .ok (.bipush 6, 2) := by decide +kernel
theorem dC_saturate_100 : decode bC_saturate 100 = .ok (.if_icmp .ne 48, 3) := by decide +kernel
theorem dC_saturate_103 : decode bC_saturate 103 = .ok (.aload_n 0, 1) := by decide +kernel
theorem dC_saturate_104 : decode bC_saturate 104 = .ok (.iload_n 3, 1) := by decide +kernel
theorem dC_saturate_105 : decode bC_saturate 105 = .ok (.invokevirtual 65, 3) := by decide +kernel
theorem dC_saturate_108 : decode bC_saturate 108 = .ok (.ifCond .ne 40, 3) := by decide +kernel
theorem dC_saturate_111 : decode bC_saturate 111 = .ok (.aload_n 0, 1) := by decide +kernel
theorem dC_saturate_112 : decode bC_saturate 112 = .ok (.iload_n 3, 1) := by decide +kernel
theorem dC_saturate_113 : decode bC_saturate 113 = .ok (.bipush 6, 2) := by decide +kernel
theorem dC_saturate_115 : decode bC_saturate 115 = .ok (.aload_n 0, 1) := by decide +kernel
theorem dC_saturate_116 : decode bC_saturate 116 = .ok (.getfield 37, 3) := by decide +kernel
theorem dC_saturate_119 : decode bC_saturate 119 = .ok (.iload 5, 2) := by decide +kernel
theorem dC_saturate_121 : decode bC_saturate 121 = .ok (.invokevirtual 126, 3) := by decide +kernel
theorem dC_saturate_124 : decode bC_saturate 124 = .ok (.aload_n 0, 1) := by decide +kernel
theorem dC_saturate_125 : decode bC_saturate 125 = .ok (.iload_n 3, 1) := by decide +kernel
theorem dC_saturate_126 : decode bC_saturate 126 = .ok (.iload 5, 2) := by decide +kernel
theorem dC_saturate_128 : decode bC_saturate 128 = .ok (.invokevirtual 130, 3) := by decide +kernel
theorem dC_saturate_131 : decode bC_saturate 131 = .ok (.aload_n 0, 1) := by decide +kernel
theorem dC_saturate_132 : decode bC_saturate 132 = .ok (.iload_n 3, 1) := by decide +kernel
theorem dC_saturate_133 : decode bC_saturate 133 = .ok (.iload 5, 2) := by decide +kernel
theorem dC_saturate_135 : decode bC_saturate 135 = .ok (.invokevirtual 133, 3) := by decide +kernel
theorem dC_saturate_138 : decode bC_saturate 138 = .ok (.aload_n 0, 1) := by decide +kernel
theorem dC_saturate_139 : decode bC_saturate 139 = .ok (.iload_n 3, 1) := by decide +kernel
theorem dC_saturate_140 : decode bC_saturate 140 = .ok (.iload 5, 2) := by decide +kernel
theorem dC_saturate_142 : decode bC_saturate 142 = .ok (.invokevirtual 136, 3) := by decide +kernel
theorem dC_saturate_145 : decode bC_saturate 145 = .ok (.goto 29, 3) := by decide +kernel
theorem dC_saturate_148 : decode bC_saturate 148 = .ok (.aload_n 0, 1) := by decide +kernel
theorem dC_saturate_149 : decode bC_saturate 149 = .ok (.iload_n 3, 1) := by decide +kernel
theorem dC_saturate_150 : decode bC_saturate 150 = .ok (.invokevirtual 65, 3) := by decide +kernel
theorem dC_saturate_153 : decode bC_saturate 153 = .ok (.ifCond .ne 21, 3) := by decide +kernel
theorem dC_saturate_156 : decode bC_saturate 156 = .ok (.aload_n 0, 1) := by decide +kernel
theorem dC_saturate_157 : decode bC_saturate 157 = .ok (.iload_n 3, 1) := by decide +kernel
theorem dC_saturate_158 : decode bC_saturate 158 = .ok (.iload 4, 2) := by decide +kernel
theorem dC_saturate_160 : decode bC_saturate 160 = .ok (.iload 5, 2) := by decide +kernel
theorem dC_saturate_162 : decode bC_saturate 162 = .ok (.invokevirtual 139, 3) := by decide +kernel
theorem dC_saturate_165 : decode bC_saturate 165 = .ok (.aload_n 0, 1) := by decide +kernel
theorem dC_saturate_166 : decode bC_saturate 166 = .ok (.iload_n 3, 1) := by decide +kernel
theorem dC_saturate_167 : decode bC_saturate 167 = .ok (.iload 4, 2) := by decide +kernel
theorem dC_saturate_169 : decode bC_saturate 169 = .ok (.iload 5, 2) := by decide +kernel
theorem dC_saturate_171 : decode bC_saturate 171 = .ok (.invokevirtual 142, 3) := by decide +kernel
theorem dC_saturate_174 : decode bC_saturate 174 = .ok (.aload_n 0, 1) := by decide +kernel
theorem dC_saturate_175 : decode bC_saturate 175 = .ok (.getfield 31, 3) := by decide +kernel
theorem dC_saturate_178 : decode bC_saturate 178 = .ok (.iload_n 2, 1) := by decide +kernel
theorem dC_saturate_179 : decode bC_saturate 179 = .ok (.iload 5, 2) := by decide +kernel
theorem dC_saturate_181 : decode bC_saturate 181 = .ok (.iconst 1, 1) := by decide +kernel
theorem dC_saturate_182 : decode bC_saturate 182 = .ok (.iadd, 1) := by decide +kernel
theorem dC_saturate_183 : decode bC_saturate 183 = .ok (.invokevirtual 69, 3) := by decide +kernel
theorem dC_saturate_186 : decode bC_saturate 186 = .ok (.istore 5, 2) := by decide +kernel
theorem dC_saturate_188 : decode bC_saturate 188 = .ok (.goto (-131), 3) := by decide +kernel
theorem dC_saturate_191 : decode bC_saturate 191 = .ok (.iinc 1 1, 3) := by decide +kernel
theorem dC_saturate_194 : decode bC_saturate 194 = .ok (.goto (-192), 3) := by decide +kernel
theorem dC_saturate_197 : decode bC_saturate 197 = .ok (.return_, 1) := by decide +kernel
theorem dC_row_0 : decode bC_row 0 = .ok (.iload_n 0, 1) := by decide +kernel
theorem dC_row_1 : decode bC_row 1 = .ok (.bipush 7, 2) := by decide +kernel
theorem dC_row_3 : decode bC_row 3 = .ok (.imul, 1) := by decide +kernel
theorem dC_row_4 : decode bC_row 4 = .ok (.iload_n 1, 1) := by decide +kernel
theorem dC_row_5 : decode bC_row 5 = .ok (.iadd, 1) := by decide +kernel
theorem dC_row_6 : decode bC_row 6 = .ok (.ireturn, 1) := by decide +kernel
theorem dC_catchUp_0 : decode bC_catchUp 0 = .ok (.aload_n 0, 1) := by decide +kernel
theorem dC_catchUp_1 : decode bC_catchUp 1 = .ok (.getfield 53, 3) := by decide +kernel
theorem dC_catchUp_4 : decode bC_catchUp 4 = .ok (.ifCond .eq 7, 3) := by decide +kernel
theorem dC_catchUp_7 : decode bC_catchUp 7 = .ok (.aload_n 0, 1) := by decide +kernel
theorem dC_catchUp_8 : decode bC_catchUp 8 = .ok (.invokevirtual 145, 3) := by decide +kernel
theorem dC_catchUp_11 : decode bC_catchUp 11 = .ok (.aload_n 0, 1) := by decide +kernel
theorem dC_catchUp_12 : decode bC_catchUp 12 = .ok (.getfield 46, 3) := by decide +kernel
theorem dC_catchUp_15 : decode bC_catchUp 15 = .ok (.istore_n 1, 1) := by decide +kernel
theorem dC_catchUp_16 : decode bC_catchUp 16 = .ok (.iload_n 1, 1) := by decide +kernel
theorem dC_catchUp_17 : decode bC_catchUp 17 = .ok (.aload_n 0, 1) := by decide +kernel
theorem dC_catchUp_18 : decode bC_catchUp 18 = .ok (.getfield 11, 3) := by decide +kernel
theorem dC_catchUp_21 : decode bC_catchUp 21 = .ok (.invokevirtual 82, 3) := by decide +kernel
theorem dC_catchUp_24 : decode bC_catchUp 24 = .ok (.if_icmp .ge 46, 3) := by decide +kernel
theorem dC_catchUp_27 : decode bC_catchUp 27 = .ok (.aload_n 0, 1) := by decide +kernel
theorem dC_catchUp_28 : decode bC_catchUp 28 = .ok (.getfield 11, 3) := by decide +kernel
theorem dC_catchUp_31 : decode bC_catchUp 31 = .ok (.iload_n 1, 1) := by decide +kernel
theorem dC_catchUp_32 : decode bC_catchUp 32 = .ok (.invokevirtual 148, 3) := by decide +kernel
theorem dC_catchUp_35 : decode bC_catchUp 35 = .ok (.iconst 2, 1) := by decide +kernel
theorem dC_catchUp_36 : decode bC_catchUp 36 = .ok (.if_icmp .ne 11, 3) := by decide +kernel
theorem dC_catchUp_39 : decode bC_catchUp 39 = .ok (.aload_n 0, 1) := by decide +kernel
theorem dC_catchUp_40 : decode bC_catchUp 40 = .ok (.iload_n 1, 1) := by decide +kernel
theorem dC_catchUp_41 : decode bC_catchUp 41 = .ok (.invokevirtual 149, 3) := by decide +kernel
theorem dC_catchUp_44 : decode bC_catchUp 44 = .ok (.goto 20, 3) := by decide +kernel
theorem dC_catchUp_47 : decode bC_catchUp 47 = .ok (.aload_n 0, 1) := by decide +kernel
theorem dC_catchUp_48 : decode bC_catchUp 48 = .ok (.getfield 11, 3) := by decide +kernel
theorem dC_catchUp_51 : decode bC_catchUp 51 = .ok (.iload_n 1, 1) := by decide +kernel
theorem dC_catchUp_52 : decode bC_catchUp 52 = .ok (.invokevirtual 148, 3) := by decide +kernel
theorem dC_catchUp_55 : decode bC_catchUp 55 = .ok (.iconst 3, 1) := by decide +kernel
theorem dC_catchUp_56 : decode bC_catchUp 56 = .ok (.if_icmp .ne 8, 3) := by decide +kernel
theorem dC_catchUp_59 : decode bC_catchUp 59 = .ok (.aload_n 0, 1) := by decide +kernel
theorem dC_catchUp_60 : decode bC_catchUp 60 = .ok (.iload_n 1, 1) := by decide +kernel
theorem dC_catchUp_61 : decode bC_catchUp 61 = .ok (.invokevirtual 152, 3) := by decide +kernel
theorem dC_catchUp_64 : decode bC_catchUp 64 = .ok (.iinc 1 1, 3) := by decide +kernel
theorem dC_catchUp_67 : decode bC_catchUp 67 = .ok (.goto (-51), 3) := by decide +kernel
theorem dC_catchUp_70 : decode bC_catchUp 70 = .ok (.aload_n 0, 1) := by decide +kernel
theorem dC_catchUp_71 : decode bC_catchUp 71 = .ok (.aload_n 0, 1) := by decide +kernel
theorem dC_catchUp_72 : decode bC_catchUp 72 = .ok (.getfield 11, 3) := by decide +kernel
theorem dC_catchUp_75 : decode bC_catchUp 75 = .ok (.invokevirtual 82, 3) := by decide +kernel
theorem dC_catchUp_78 : decode bC_catchUp 78 = .ok (.putfield 46, 3) := by decide +kernel
theorem dC_catchUp_81 : decode bC_catchUp 81 = .ok (.aload_n 0, 1) := by decide +kernel
theorem dC_catchUp_82 : decode bC_catchUp 82 = .ok (.getfield 50, 3) := by decide +kernel
theorem dC_catchUp_85 : decode bC_catchUp 85 = .ok (.iconst 1, 1) := by decide +kernel
theorem dC_catchUp_86 : decode bC_catchUp 86 = .ok (.iadd, 1) := by decide +kernel
theorem dC_catchUp_87 : decode bC_catchUp 87 = .ok (.istore_n 1, 1) := by decide +kernel
theorem dC_catchUp_88 : decode bC_catchUp 88 = .ok (.iload_n 1, 1) := by decide +kernel
theorem dC_catchUp_89 : decode bC_catchUp 89 = .ok (.aload_n 0, 1) := by decide +kernel
theorem dC_catchUp_90 : decode bC_catchUp 90 = .ok (.getfield 15, 3) := by decide +kernel
theorem dC_catchUp_93 : decode bC_catchUp 93 = .ok (.invokevirtual 155, 3) := by decide +kernel
theorem dC_catchUp_96 : decode bC_catchUp 96 = .ok (.if_icmp .gt 25, 3) := by decide +kernel
theorem dC_catchUp_99 : decode bC_catchUp 99 = .ok (.aload_n 0, 1) := by decide +kernel
theorem dC_catchUp_100 : decode bC_catchUp 100 = .ok (.getfield 15, 3) := by decide +kernel
theorem dC_catchUp_103 : decode bC_catchUp 103 = .ok (.iload_n 1, 1) := by decide +kernel
theorem dC_catchUp_104 : decode bC_catchUp 104 = .ok (.invokevirtual 158, 3) := by decide +kernel
theorem dC_catchUp_107 : decode bC_catchUp 107 = .ok (.ifCond .eq 8, 3) := by decide +kernel
theorem dC_catchUp_110 : decode bC_catchUp 110 = .ok (.aload_n 0, 1) := by decide +kernel
theorem dC_catchUp_111 : decode bC_catchUp 111 = .ok (.iload_n 1, 1) := by decide +kernel
theorem dC_catchUp_112 : decode bC_catchUp 112 = .ok (.invokevirtual 161, 3) := by decide +kernel
theorem dC_catchUp_115 : decode bC_catchUp 115 = .ok (.iinc 1 1, 3) := by decide +kernel
theorem dC_catchUp_118 : decode bC_catchUp 118 = .ok (.goto (-30), 3) := by decide +kernel
theorem dC_catchUp_121 : decode bC_catchUp 121 = .ok (.aload_n 0, 1) := by decide +kernel
theorem dC_catchUp_122 : decode bC_catchUp 122 = .ok (.aload_n 0, 1) := by decide +kernel
theorem dC_catchUp_123 : decode bC_catchUp 123 = .ok (.getfield 15, 3) := by decide +kernel
theorem dC_catchUp_126 : decode bC_catchUp 126 = .ok (.invokevirtual 155, 3) := by decide +kernel
theorem dC_catchUp_129 : decode bC_catchUp 129 = .ok (.putfield 50, 3) := by decide +kernel
theorem dC_catchUp_132 : decode bC_catchUp 132 = .ok (.return_, 1) := by decide +kernel
theorem dC_admitBoth_0 : decode bC_admitBoth 0 = .ok (.aload_n 0, 1) := by decide +kernel
theorem dC_admitBoth_1 : decode bC_admitBoth 1 = .ok (.getfield 11, 3) := by decide +kernel
theorem dC_admitBoth_4 : decode bC_admitBoth 4 = .ok (.iload_n 1, 1) := by decide +kernel
theorem dC_admitBoth_5 : decode bC_admitBoth 5 = .ok (.invokevirtual 164, 3) := by decide +kernel
theorem dC_admitBoth_8 : decode bC_admitBoth 8 = .ok (.bipush 6, 2) := by decide +kernel
theorem dC_admitBoth_10 : decode bC_admitBoth 10 = .ok (.invokestatic 57, 3) := by decide +kernel
theorem dC_admitBoth_13 : decode bC_admitBoth 13 = .ok (.istore_n 2, 1) := by decide +kernel
theorem dC_admitBoth_14 : decode bC_admitBoth 14 = .ok (.aload_n 0, 1) := by decide +kernel
theorem dC_admitBoth_15 : decode bC_admitBoth 15 = .ok (.getfield 28, 3) := by decide +kernel
theorem dC_admitBoth_18 : decode bC_admitBoth 18 = .ok (.iload_n 2, 1) := by decide +kernel
theorem dC_admitBoth_19 : decode bC_admitBoth 19 = .ok (.iconst 0, 1) := by decide +kernel
theorem dC_admitBoth_20 : decode bC_admitBoth 20 = .ok (.invokevirtual 69, 3) := by decide +kernel
theorem dC_admitBoth_23 : decode bC_admitBoth 23 = .ok (.istore_n 3, 1) := by decide +kernel
theorem dC_admitBoth_24 : decode bC_admitBoth 24 = .ok (.iload_n 3, 1) := by decide +kernel
theorem dC_admitBoth_25 : decode bC_admitBoth 25 = .ok (.sipush 160, 3) := by decide +kernel
theorem dC_admitBoth_28 : decode bC_admitBoth 28 = .ok (.if_icmp .ge 50, 3) := by decide +kernel
theorem dC_admitBoth_31 : decode bC_admitBoth 31 = .ok (.aload_n 0, 1) := by decide +kernel
theorem dC_admitBoth_32 : decode bC_admitBoth 32 = .ok (.getfield 24, 3) := by decide +kernel
theorem dC_admitBoth_35 : decode bC_admitBoth 35 = .ok (.iload_n 3, 1) := by decide +kernel
theorem dC_admitBoth_36 : decode bC_admitBoth 36 = .ok (.bipush 6, 2) := by decide +kernel
theorem dC_admitBoth_38 : decode bC_admitBoth 38 = .ok (.invokestatic 57, 3) := by decide +kernel
theorem dC_admitBoth_41 : decode bC_admitBoth 41 = .ok (.aload_n 0, 1) := by decide +kernel
theorem dC_admitBoth_42 : decode bC_admitBoth 42 = .ok (.getfield 11, 3) := by decide +kernel
theorem dC_admitBoth_45 : decode bC_admitBoth 45 = .ok (.iload_n 1, 1) := by decide +kernel
theorem dC_admitBoth_46 : decode bC_admitBoth 46 = .ok (.invokevirtual 167, 3) := by decide +kernel
theorem dC_admitBoth_49 : decode bC_admitBoth 49 = .ok (.invokevirtual 61, 3) := by decide +kernel
theorem dC_admitBoth_52 : decode bC_admitBoth 52 = .ok (.ifCond .eq 11, 3) := by decide +kernel
theorem dC_admitBoth_55 : decode bC_admitBoth 55 = .ok (.aload_n 0, 1) := by decide +kernel
theorem dC_admitBoth_56 : decode bC_admitBoth 56 = .ok (.iload_n 3, 1) := by decide +kernel
theorem dC_admitBoth_57 : decode bC_admitBoth 57 = .ok (.bipush 6, 2) := by decide +kernel
theorem dC_admitBoth_59 : decode bC_admitBoth 59 = .ok (.iload_n 1, 1) := by decide +kernel
theorem dC_admitBoth_60 : decode bC_admitBoth 60 = .ok (.invokevirtual 94, 3) := by decide +kernel
theorem dC_admitBoth_63 : decode bC_admitBoth 63 = .ok (.aload_n 0, 1) := by decide +kernel
theorem dC_admitBoth_64 : decode bC_admitBoth 64 = .ok (.getfield 28, 3) := by decide +kernel
theorem dC_admitBoth_67 : decode bC_admitBoth 67 = .ok (.iload_n 2, 1) := by decide +kernel
theorem dC_admitBoth_68 : decode bC_admitBoth 68 = .ok (.iload_n 3, 1) := by decide +kernel
theorem dC_admitBoth_69 : decode bC_admitBoth 69 = .ok (.iconst 1, 1) := by decide +kernel
theorem dC_admitBoth_70 : decode bC_admitBoth 70 = .ok (.iadd, 1) := by decide +kernel
theorem dC_admitBoth_71 : decode bC_admitBoth 71 = .ok (.invokevirtual 69, 3) := by decide +kernel
theorem dC_admitBoth_74 : decode bC_admitBoth 74 = .ok (.istore_n 3, 1) := by decide +kernel
theorem dC_admitBoth_75 : decode bC_admitBoth 75 = .ok (.goto (-51), 3) := by decide +kernel
theorem dC_admitBoth_78 : decode bC_admitBoth 78 = .ok (.return_, 1) := by decide +kernel
theorem dC_admitSome_0 : decode bC_admitSome 0 = .ok (.aload_n 0, 1) := by decide +kernel
theorem dC_admitSome_1 : decode bC_admitSome 1 = .ok (.getfield 11, 3) := by decide +kernel
theorem dC_admitSome_4 : decode bC_admitSome 4 = .ok (.iload_n 1, 1) := by decide +kernel
theorem dC_admitSome_5 : decode bC_admitSome 5 = .ok (.invokevirtual 167, 3) := by decide +kernel
theorem dC_admitSome_8 : decode bC_admitSome 8 = .ok (.bipush 6, 2) := by decide +kernel
theorem dC_admitSome_10 : decode bC_admitSome 10 = .ok (.invokestatic 57, 3) := by decide +kernel
theorem dC_admitSome_13 : decode bC_admitSome 13 = .ok (.istore_n 2, 1) := by decide +kernel
theorem dC_admitSome_14 : decode bC_admitSome 14 = .ok (.aload_n 0, 1) := by decide +kernel
theorem dC_admitSome_15 : decode bC_admitSome 15 = .ok (.getfield 28, 3) := by decide +kernel
theorem dC_admitSome_18 : decode bC_admitSome 18 = .ok (.iload_n 2, 1) := by decide +kernel
theorem dC_admitSome_19 : decode bC_admitSome 19 = .ok (.iconst 0, 1) := by decide +kernel
theorem dC_admitSome_20 : decode bC_admitSome 20 = .ok (.invokevirtual 69, 3) := by decide +kernel
theorem dC_admitSome_23 : decode bC_admitSome 23 = .ok (.istore_n 3, 1) := by decide +kernel
theorem dC_admitSome_24 : decode bC_admitSome 24 = .ok (.iload_n 3, 1) := by decide +kernel
theorem dC_admitSome_25 : decode bC_admitSome 25 = .ok (.sipush 160, 3) := by decide +kernel
theorem dC_admitSome_28 : decode bC_admitSome 28 = .ok (.if_icmp .ge 37, 3) := by decide +kernel
theorem dC_admitSome_31 : decode bC_admitSome 31 = .ok (.aload_n 0, 1) := by decide +kernel
theorem dC_admitSome_32 : decode bC_admitSome 32 = .ok (.iload_n 3, 1) := by decide +kernel
theorem dC_admitSome_33 : decode bC_admitSome 33 = .ok (.aload_n 0, 1) := by decide +kernel
theorem dC_admitSome_34 : decode bC_admitSome 34 = .ok (.getfield 11, 3) := by decide +kernel
theorem dC_admitSome_37 : decode bC_admitSome 37 = .ok (.iload_n 1, 1) := by decide +kernel
theorem dC_admitSome_38 : decode bC_admitSome 38 = .ok (.invokevirtual 164, 3) := by decide +kernel
theorem dC_admitSome_41 : decode bC_admitSome 41 = .ok (.invokestatic 57, 3) := by decide +kernel
theorem dC_admitSome_44 : decode bC_admitSome 44 = .ok (.bipush 6, 2) := by decide +kernel
theorem dC_admitSome_46 : decode bC_admitSome 46 = .ok (.iload_n 1, 1) := by decide +kernel
theorem dC_admitSome_47 : decode bC_admitSome 47 = .ok (.invokevirtual 113, 3) := by decide +kernel
theorem dC_admitSome_50 : decode bC_admitSome 50 = .ok (.aload_n 0, 1) := by decide +kernel
theorem dC_admitSome_51 : decode bC_admitSome 51 = .ok (.getfield 28, 3) := by decide +kernel
theorem dC_admitSome_54 : decode bC_admitSome 54 = .ok (.iload_n 2, 1) := by decide +kernel
theorem dC_admitSome_55 : decode bC_admitSome 55 = .ok (.iload_n 3, 1) := by decide +kernel
theorem dC_admitSome_56 : decode bC_admitSome 56 = .ok (.iconst 1, 1) := by decide +kernel
theorem dC_admitSome_57 : decode bC_admitSome 57 = .ok (.iadd, 1) := by decide +kernel
theorem dC_admitSome_58 : decode bC_admitSome 58 = .ok (.invokevirtual 69, 3) := by decide +kernel
theorem dC_admitSome_61 : decode bC_admitSome 61 = .ok (.istore_n 3, 1) := by decide +kernel
theorem dC_admitSome_62 : decode bC_admitSome 62 = .ok (.goto (-38), 3) := by decide +kernel
theorem dC_admitSome_65 : decode bC_admitSome 65 = .ok (.return_, 1) := by decide +kernel
theorem dC_emptySources_0 : decode bC_emptySources 0 = .ok (.iconst 0, 1) := by decide +kernel
theorem dC_emptySources_1 : decode bC_emptySources 1 = .ok (.istore_n 2, 1) := by decide +kernel
theorem dC_emptySources_2 : decode bC_emptySources 2 = .ok (.iload_n 2, 1) := by decide +kernel
theorem dC_emptySources_3 : decode bC_emptySources 3 = .ok (.bipush 6, 2) := by decide +kernel
theorem dC_emptySources_5 : decode bC_emptySources 5 = .ok (.if_icmp .ge 21, 3) := by decide +kernel
theorem dC_emptySources_8 : decode bC_emptySources 8 = .ok (.aload_n 0, 1) := by decide +kernel
theorem dC_emptySources_9 : decode bC_emptySources 9 = .ok (.iload_n 1, 1) := by decide +kernel
theorem dC_emptySources_10 : decode bC_emptySources 10 = .ok (.iload_n 2, 1) := by decide +kernel
theorem dC_emptySources_11 : decode bC_emptySources 11 = .ok (.invokestatic 57, 3) := by decide +kernel
theorem dC_emptySources_14 : decode bC_emptySources 14 = .ok (.bipush 6, 2) := by decide +kernel
theorem dC_emptySources_16 : decode bC_emptySources 16 = .ok (.iconst 1, 1) := by decide +kernel
theorem dC_emptySources_17 : decode bC_emptySources 17 = .ok (.invokevirtual 113, 3) := by decide +kernel
theorem dC_emptySources_20 : decode bC_emptySources 20 = .ok (.iinc 2 1, 3) := by decide +kernel
theorem dC_emptySources_23 : decode bC_emptySources 23 = .ok (.goto (-21), 3) := by decide +kernel
theorem dC_emptySources_26 : decode bC_emptySources 26 = .ok (.return_, 1) := by decide +kernel
theorem dC_drawParts_0 : decode bC_drawParts 0 = .ok (.aload_n 0, 1) := by decide +kernel
theorem dC_drawParts_1 : decode bC_drawParts 1 = .ok (.getfield 11, 3) := by decide +kernel
theorem dC_drawParts_4 : decode bC_drawParts 4 = .ok (.iload_n 2, 1) := by decide +kernel
theorem dC_drawParts_5 : decode bC_drawParts 5 = .ok (.invokevirtual 148, 3) := by decide +kernel
theorem dC_drawParts_8 : decode bC_drawParts 8 = .ok (.iconst 2, 1) := by decide +kernel
theorem dC_drawParts_9 : decode bC_drawParts 9 = .ok (.if_icmp .ne 36, 3) := by decide +kernel
theorem dC_drawParts_12 : decode bC_drawParts 12 = .ok (.aload_n 0, 1) := by decide +kernel
theorem dC_drawParts_13 : decode bC_drawParts 13 = .ok (.iload_n 1, 1) := by decide +kernel
theorem dC_drawParts_14 : decode bC_drawParts 14 = .ok (.bipush 6, 2) := by decide +kernel
theorem dC_drawParts_16 : decode bC_drawParts 16 = .ok (.aload_n 0, 1) := by decide +kernel
theorem dC_drawParts_17 : decode bC_drawParts 17 = .ok (.getfield 11, 3) := by decide +kernel
theorem dC_drawParts_20 : decode bC_drawParts 20 = .ok (.iload_n 2, 1) := by decide +kernel
theorem dC_drawParts_21 : decode bC_drawParts 21 = .ok (.invokevirtual 164, 3) := by decide +kernel
theorem dC_drawParts_24 : decode bC_drawParts 24 = .ok (.invokevirtual 94, 3) := by decide +kernel
theorem dC_drawParts_27 : decode bC_drawParts 27 = .ok (.aload_n 0, 1) := by decide +kernel
theorem dC_drawParts_28 : decode bC_drawParts 28 = .ok (.iload_n 1, 1) := by decide +kernel
theorem dC_drawParts_29 : decode bC_drawParts 29 = .ok (.bipush 6, 2) := by decide +kernel
theorem dC_drawParts_31 : decode bC_drawParts 31 = .ok (.aload_n 0, 1) := by decide +kernel
theorem dC_drawParts_32 : decode bC_drawParts 32 = .ok (.getfield 11, 3) := by decide +kernel
theorem dC_drawParts_35 : decode bC_drawParts 35 = .ok (.iload_n 2, 1) := by decide +kernel
theorem dC_drawParts_36 : decode bC_drawParts 36 = .ok (.invokevirtual 167, 3) := by decide +kernel
theorem dC_drawParts_39 : decode bC_drawParts 39 = .ok (.invokevirtual 94, 3) := by decide +kernel
theorem dC_drawParts_42 : decode bC_drawParts 42 = .ok (.goto 36, 3) := by decide +kernel
theorem dC_drawParts_45 : decode bC_drawParts 45 = .ok (.aload_n 0, 1) := by decide +kernel
theorem dC_drawParts_46 : decode bC_drawParts 46 = .ok (.getfield 11, 3) := by decide +kernel
theorem dC_drawParts_49 : decode bC_drawParts 49 = .ok (.iload_n 2, 1) := by decide +kernel
theorem dC_drawParts_50 : decode bC_drawParts 50 = .ok (.invokevirtual 148, 3) := by decide +kernel
theorem dC_drawParts_53 : decode bC_drawParts 53 = .ok (.iconst 3, 1) := by decide +kernel
theorem dC_drawParts_54 : decode bC_drawParts 54 = .ok (.if_icmp .ne 24, 3) := by decide +kernel
theorem dC_drawParts_57 : decode bC_drawParts 57 = .ok (.aload_n 0, 1) := by decide +kernel
theorem dC_drawParts_58 : decode bC_drawParts 58 = .ok (.iload_n 1, 1) := by decide +kernel
theorem dC_drawParts_59 : decode bC_drawParts 59 = .ok (.aload_n 0, 1) := by decide +kernel
theorem dC_drawParts_60 : decode bC_drawParts 60 = .ok (.getfield 11, 3) := by decide +kernel
theorem dC_drawParts_63 : decode bC_drawParts 63 = .ok (.iload_n 2, 1) := by decide +kernel
theorem dC_drawParts_64 : decode bC_drawParts 64 = .ok (.invokevirtual 164, 3) := by decide +kernel
theorem dC_drawParts_67 : decode bC_drawParts 67 = .ok (.aload_n 0, 1) := by decide +kernel
theorem dC_drawParts_68 : decode bC_drawParts 68 = .ok (.getfield 11, 3) := by decide +kernel
theorem dC_drawParts_71 : decode bC_drawParts 71 = .ok (.iload_n 2, 1) := by decide +kernel
theorem dC_drawParts_72 : decode bC_drawParts 72 = .ok (.invokevirtual 167, 3) := by decide +kernel
theorem dC_drawParts_75 : decode bC_drawParts 75 = .ok (.invokevirtual 94, 3) := by decide +kernel
theorem dC_drawParts_78 : decode bC_drawParts 78 = .ok (.return_, 1) := by decide +kernel
theorem dC_drawBoths_0 : decode bC_drawBoths 0 = .ok (.aload_n 0, 1) := by decide +kernel
theorem dC_drawBoths_1 : decode bC_drawBoths 1 = .ok (.getfield 11, 3) := by decide +kernel
theorem dC_drawBoths_4 : decode bC_drawBoths 4 = .ok (.getfield 170, 3) := by decide +kernel
theorem dC_drawBoths_7 : decode bC_drawBoths 7 = .ok (.astore_n 3, 1) := by decide +kernel
theorem dC_drawBoths_8 : decode bC_drawBoths 8 = .ok (.aload_n 3, 1) := by decide +kernel
theorem dC_drawBoths_9 : decode bC_drawBoths 9 = .ok (.iload_n 2, 1) := by decide +kernel
theorem dC_drawBoths_10 : decode bC_drawBoths 10 = .ok (.iconst 0, 1) := by decide +kernel
theorem dC_drawBoths_11 : decode bC_drawBoths 11 = .ok (.invokevirtual 69, 3) := by decide +kernel
theorem dC_drawBoths_14 : decode bC_drawBoths 14 = .ok (.istore 4, 2) := by decide +kernel
theorem dC_drawBoths_16 : decode bC_drawBoths 16 = .ok (.iload 4, 2) := by decide +kernel
theorem dC_drawBoths_18 : decode bC_drawBoths 18 = .ok (.sipush 160, 3) := by decide +kernel
theorem dC_drawBoths_21 : decode bC_drawBoths 21 = .ok (.if_icmp .ge 52, 3) := by decide +kernel
theorem dC_drawBoths_24 : decode bC_drawBoths 24 = .ok (.aload_n 0, 1) := by decide +kernel
theorem dC_drawBoths_25 : decode bC_drawBoths 25 = .ok (.getfield 24, 3) := by decide +kernel
theorem dC_drawBoths_28 : decode bC_drawBoths 28 = .ok (.iload_n 1, 1) := by decide +kernel
theorem dC_drawBoths_29 : decode bC_drawBoths 29 = .ok (.bipush 6, 2) := by decide +kernel
theorem dC_drawBoths_31 : decode bC_drawBoths 31 = .ok (.invokestatic 57, 3) := by decide +kernel
theorem dC_drawBoths_34 : decode bC_drawBoths 34 = .ok (.aload_n 0, 1) := by decide +kernel
theorem dC_drawBoths_35 : decode bC_drawBoths 35 = .ok (.getfield 11, 3) := by decide +kernel
theorem dC_drawBoths_38 : decode bC_drawBoths 38 = .ok (.iload 4, 2) := by decide +kernel
theorem dC_drawBoths_40 : decode bC_drawBoths 40 = .ok (.iload_n 2, 1) := by decide +kernel
theorem dC_drawBoths_41 : decode bC_drawBoths 41 = .ok (.invokevirtual 173, 3) := by decide +kernel
theorem dC_drawBoths_44 : decode bC_drawBoths 44 = .ok (.invokevirtual 61, 3) := by decide +kernel
theorem dC_drawBoths_47 : decode bC_drawBoths 47 = .ok (.ifCond .eq 12, 3) := by decide +kernel
theorem dC_drawBoths_50 : decode bC_drawBoths 50 = .ok (.aload_n 0, 1) := by decide +kernel
theorem dC_drawBoths_51 : decode bC_drawBoths 51 = .ok (.iload_n 1, 1) := by decide +kernel
theorem dC_drawBoths_52 : decode bC_drawBoths 52 = .ok (.bipush 6, 2) := by decide +kernel
theorem dC_drawBoths_54 : decode bC_drawBoths 54 = .ok (.iload 4, 2) := by decide +kernel
theorem dC_drawBoths_56 : decode bC_drawBoths 56 = .ok (.invokevirtual 94, 3) := by decide +kernel
theorem dC_drawBoths_59 : decode bC_drawBoths 59 = .ok (.aload_n 3, 1) := by decide +kernel
theorem dC_drawBoths_60 : decode bC_drawBoths 60 = .ok (.iload_n 2, 1) := by decide +kernel
theorem dC_drawBoths_61 : decode bC_drawBoths 61 = .ok (.iload 4, 2) := by decide +kernel
theorem dC_drawBoths_63 : decode bC_drawBoths 63 = .ok (.iconst 1, 1) := by decide +kernel
theorem dC_drawBoths_64 : decode bC_drawBoths 64 = .ok (.iadd, 1) := by decide +kernel
theorem dC_drawBoths_65 : decode bC_drawBoths 65 = .ok (.invokevirtual 69, 3) := by decide +kernel
theorem dC_drawBoths_68 : decode bC_drawBoths 68 = .ok (.istore 4, 2) := by decide +kernel
theorem dC_drawBoths_70 : decode bC_drawBoths 70 = .ok (.goto (-54), 3) := by decide +kernel
theorem dC_drawBoths_73 : decode bC_drawBoths 73 = .ok (.return_, 1) := by decide +kernel
theorem dC_drawSomes_0 : decode bC_drawSomes 0 = .ok (.iconst 0, 1) := by decide +kernel
theorem dC_drawSomes_1 : decode bC_drawSomes 1 = .ok (.istore_n 3, 1) := by decide +kernel
theorem dC_drawSomes_2 : decode bC_drawSomes 2 = .ok (.iload_n 3, 1) := by decide +kernel
theorem dC_drawSomes_3 : decode bC_drawSomes 3 = .ok (.bipush 6, 2) := by decide +kernel
theorem dC_drawSomes_5 : decode bC_drawSomes 5 = .ok (.if_icmp .ge 39, 3) := by decide +kernel
theorem dC_drawSomes_8 : decode bC_drawSomes 8 = .ok (.aload_n 0, 1) := by decide +kernel
theorem dC_drawSomes_9 : decode bC_drawSomes 9 = .ok (.getfield 11, 3) := by decide +kernel
theorem dC_drawSomes_12 : decode bC_drawSomes 12 = .ok (.iload_n 3, 1) := by decide +kernel
theorem dC_drawSomes_13 : decode bC_drawSomes 13 = .ok (.iload_n 2, 1) := by decide +kernel
theorem dC_drawSomes_14 : decode bC_drawSomes 14 = .ok (.invokevirtual 176, 3) := by decide +kernel
theorem dC_drawSomes_17 : decode bC_drawSomes 17 = .ok (.istore 4, 2) := by decide +kernel
theorem dC_drawSomes_19 : decode bC_drawSomes 19 = .ok (.iload 4, 2) := by decide +kernel
theorem dC_drawSomes_21 : decode bC_drawSomes 21 = .ok (.iconst (-1), 1) := by decide +kernel
theorem dC_drawSomes_22 : decode bC_drawSomes 22 = .ok (.if_icmp .eq 16, 3) := by decide +kernel
theorem dC_drawSomes_25 : decode bC_drawSomes 25 = .ok (.aload_n 0, 1) := by decide +kernel
theorem dC_drawSomes_26 : decode bC_drawSomes 26 = .ok (.iload_n 1, 1) := by decide +kernel
theorem dC_drawSomes_27 : decode bC_drawSomes 27 = .ok (.iload_n 3, 1) := by decide +kernel
theorem dC_drawSomes_28 : decode bC_drawSomes 28 = .ok (.invokestatic 57, 3) := by decide +kernel
theorem dC_drawSomes_31 : decode bC_drawSomes 31 = .ok (.bipush 6, 2) := by decide +kernel
theorem dC_drawSomes_33 : decode bC_drawSomes 33 = .ok (.iload 4, 2) := by decide +kernel
theorem dC_drawSomes_35 : decode bC_drawSomes 35 = .ok (.invokevirtual 113, 3) := by decide +kernel
theorem dC_drawSomes_38 : decode bC_drawSomes 38 = .ok (.iinc 3 1, 3) := by decide +kernel
theorem dC_drawSomes_41 : decode bC_drawSomes 41 = .ok (.goto (-39), 3) := by decide +kernel
theorem dC_drawSomes_44 : decode bC_drawSomes 44 = .ok (.return_, 1) := by decide +kernel
theorem dC_drawFromLink_0 : decode bC_drawFromLink 0 = .ok (.aload_n 0, 1) := by decide +kernel
theorem dC_drawFromLink_1 : decode bC_drawFromLink 1 = .ok (.iload_n 3, 1) := by decide +kernel
theorem dC_drawFromLink_2 : decode bC_drawFromLink 2 = .ok (.invokevirtual 75, 3) := by decide +kernel
theorem dC_drawFromLink_5 : decode bC_drawFromLink 5 = .ok (.aload_n 0, 1) := by decide +kernel
theorem dC_drawFromLink_6 : decode bC_drawFromLink 6 = .ok (.iload_n 3, 1) := by decide +kernel
theorem dC_drawFromLink_7 : decode bC_drawFromLink 7 = .ok (.invokevirtual 65, 3) := by decide +kernel
theorem dC_drawFromLink_10 : decode bC_drawFromLink 10 = .ok (.ifCond .eq 12, 3) := by decide +kernel
theorem dC_drawFromLink_13 : decode bC_drawFromLink 13 = .ok (.aload_n 0, 1) := by decide +kernel
theorem dC_drawFromLink_14 : decode bC_drawFromLink 14 = .ok (.iload_n 1, 1) := by decide +kernel
theorem dC_drawFromLink_15 : decode bC_drawFromLink 15 = .ok (.bipush 6, 2) := by decide +kernel
theorem dC_drawFromLink_17 : decode bC_drawFromLink 17 = .ok (.iconst 1, 1) := by decide +kernel
theorem dC_drawFromLink_18 : decode bC_drawFromLink 18 = .ok (.invokevirtual 94, 3) := by decide +kernel
theorem dC_drawFromLink_21 : decode bC_drawFromLink 21 = .ok (.return_, 1) := by decide +kernel
theorem dC_drawFromLink_22 : decode bC_drawFromLink 22 = .ok (.aload_n 0, 1) := by decide +kernel
theorem dC_drawFromLink_23 : decode bC_drawFromLink 23 = .ok (.getfield 40, 3) := by decide +kernel
theorem dC_drawFromLink_26 : decode bC_drawFromLink 26 = .ok (.iload_n 2, 1) := by decide +kernel
theorem dC_drawFromLink_27 : decode bC_drawFromLink 27 = .ok (.iconst 0, 1) := by decide +kernel
theorem dC_drawFromLink_28 : decode bC_drawFromLink 28 = .ok (.invokevirtual 69, 3) := by decide +kernel
theorem dC_drawFromLink_31 : decode bC_drawFromLink 31 = .ok (.istore 4, 2) := by decide +kernel
theorem dC_drawFromLink_33 : decode bC_drawFromLink 33 = .ok (.iload 4, 2) := by decide +kernel
theorem dC_drawFromLink_35 : decode bC_drawFromLink 35 = .ok (.bipush 6, 2) := by decide +kernel
theorem dC_drawFromLink_37 : decode bC_drawFromLink 37 = .ok (.if_icmp .ge 28, 3) := by decide +kernel
theorem dC_drawFromLink_40 : decode bC_drawFromLink 40 = .ok (.aload_n 0, 1) := by decide +kernel
theorem dC_drawFromLink_41 : decode bC_drawFromLink 41 = .ok (.iload_n 1, 1) := by decide +kernel
theorem dC_drawFromLink_42 : decode bC_drawFromLink 42 = .ok (.iload 4, 2) := by decide +kernel
theorem dC_drawFromLink_44 : decode bC_drawFromLink 44 = .ok (.iload_n 3, 1) := by decide +kernel
theorem dC_drawFromLink_45 : decode bC_drawFromLink 45 = .ok (.invokevirtual 94, 3) := by decide +kernel
theorem dC_drawFromLink_48 : decode bC_drawFromLink 48 = .ok (.aload_n 0, 1) := by decide +kernel
theorem dC_drawFromLink_49 : decode bC_drawFromLink 49 = .ok (.getfield 40, 3) := by decide +kernel
theorem dC_drawFromLink_52 : decode bC_drawFromLink 52 = .ok (.iload_n 2, 1) := by decide +kernel
theorem dC_drawFromLink_53 : decode bC_drawFromLink 53 = .ok (.iload 4, 2) := by decide +kernel
theorem dC_drawFromLink_55 : decode bC_drawFromLink 55 = .ok (.iconst 1, 1) := by decide +kernel
theorem dC_drawFromLink_56 : decode bC_drawFromLink 56 = .ok (.iadd, 1) := by decide +kernel
theorem dC_drawFromLink_57 : decode bC_drawFromLink 57 = .ok (.invokevirtual 69, 3) := by decide +kernel
theorem dC_drawFromLink_60 : decode bC_drawFromLink 60 = .ok (.istore 4, 2) := by decide +kernel
theorem dC_drawFromLink_62 : decode bC_drawFromLink 62 = .ok (.goto (-29), 3) := by decide +kernel
theorem dC_drawFromLink_65 : decode bC_drawFromLink 65 = .ok (.iload_n 3, 1) := by decide +kernel
theorem dC_drawFromLink_66 : decode bC_drawFromLink 66 = .ok (.bipush 6, 2) := by decide +kernel
theorem dC_drawFromLink_68 : decode bC_drawFromLink 68 = .ok (.invokestatic 57, 3) := by decide +kernel
theorem dC_drawFromLink_71 : decode bC_drawFromLink 71 = .ok (.istore 4, 2) := by decide +kernel
theorem dC_drawFromLink_73 : decode bC_drawFromLink 73 = .ok (.aload_n 0, 1) := by decide +kernel
theorem dC_drawFromLink_74 : decode bC_drawFromLink 74 = .ok (.getfield 11, 3) := by decide +kernel
theorem dC_drawFromLink_77 : decode bC_drawFromLink 77 = .ok (.getfield 179, 3) := by decide +kernel
theorem dC_drawFromLink_80 : decode bC_drawFromLink 80 = .ok (.astore 5, 2) := by decide +kernel
theorem dC_drawFromLink_82 : decode bC_drawFromLink 82 = .ok (.aload 5, 2) := by decide +kernel
theorem dC_drawFromLink_84 : decode bC_drawFromLink 84 = .ok (.iload_n 2, 1) := by decide +kernel
theorem dC_drawFromLink_85 : decode bC_drawFromLink 85 = .ok (.iconst 0, 1) := by decide +kernel
theorem dC_drawFromLink_86 : decode bC_drawFromLink 86 = .ok (.invokevirtual 69, 3) := by decide +kernel
theorem dC_drawFromLink_89 : decode bC_drawFromLink 89 = .ok (.istore 6, 2) := by decide +kernel
theorem dC_drawFromLink_91 : decode bC_drawFromLink 91 = .ok (.iload 6, 2) := by decide +kernel
theorem dC_drawFromLink_93 : decode bC_drawFromLink 93 = .ok (.sipush 160, 3) := by decide +kernel
theorem dC_drawFromLink_96 : decode bC_drawFromLink 96 = .ok (.if_icmp .ge 49, 3) := by decide +kernel
theorem dC_drawFromLink_99 : decode bC_drawFromLink 99 = .ok (.aload_n 0, 1) := by decide +kernel
theorem dC_drawFromLink_100 : decode bC_drawFromLink 100 = .ok (.getfield 24, 3) := by decide +kernel
theorem dC_drawFromLink_103 : decode bC_drawFromLink 103 = .ok (.iload 4, 2) := by decide +kernel
theorem dC_drawFromLink_105 : decode bC_drawFromLink 105 = .ok (.iload 6, 2) := by decide +kernel
theorem dC_drawFromLink_107 : decode bC_drawFromLink 107 = .ok (.invokevirtual 61, 3) := by decide +kernel
theorem dC_drawFromLink_110 : decode bC_drawFromLink 110 = .ok (.ifCond .eq 20, 3) := by decide +kernel
theorem dC_drawFromLink_113 : decode bC_drawFromLink 113 = .ok (.aload_n 0, 1) := by decide +kernel
theorem dC_drawFromLink_114 : decode bC_drawFromLink 114 = .ok (.iload_n 1, 1) := by decide +kernel
theorem dC_drawFromLink_115 : decode bC_drawFromLink 115 = .ok (.bipush 6, 2) := by decide +kernel
theorem dC_drawFromLink_117 : decode bC_drawFromLink 117 = .ok (.aload_n 0, 1) := by decide +kernel
theorem dC_drawFromLink_118 : decode bC_drawFromLink 118 = .ok (.getfield 11, 3) := by decide +kernel
theorem dC_drawFromLink_121 : decode bC_drawFromLink 121 = .ok (.iload_n 2, 1) := by decide +kernel
theorem dC_drawFromLink_122 : decode bC_drawFromLink 122 = .ok (.iload 6, 2) := by decide +kernel
theorem dC_drawFromLink_124 : decode bC_drawFromLink 124 = .ok (.invokevirtual 176, 3) := by decide +kernel
theorem dC_drawFromLink_127 : decode bC_drawFromLink 127 = .ok (.invokevirtual 94, 3) := by decide +kernel
theorem dC_drawFromLink_130 : decode bC_drawFromLink 130 = .ok (.aload 5, 2) := by decide +kernel
theorem dC_drawFromLink_132 : decode bC_drawFromLink 132 = .ok (.iload_n 2, 1) := by decide +kernel
theorem dC_drawFromLink_133 : decode bC_drawFromLink 133 = .ok (.iload 6, 2) := by decide +kernel
theorem dC_drawFromLink_135 : decode bC_drawFromLink 135 = .ok (.iconst 1, 1) := by decide +kernel
theorem dC_drawFromLink_136 : decode bC_drawFromLink 136 = .ok (.iadd, 1) := by decide +kernel
theorem dC_drawFromLink_137 : decode bC_drawFromLink 137 = .ok (.invokevirtual 69, 3) := by decide +kernel
theorem dC_drawFromLink_140 : decode bC_drawFromLink 140 = .ok (.istore 6, 2) := by decide +kernel
theorem dC_drawFromLink_142 : decode bC_drawFromLink 142 = .ok (.goto (-51), 3) := by decide +kernel
theorem dC_drawFromLink_145 : decode bC_drawFromLink 145 = .ok (.return_, 1) := by decide +kernel
theorem dC_drawFromChains_0 : decode bC_drawFromChains 0 = .ok (.iconst 0, 1) := by decide +kernel
theorem dC_drawFromChains_1 : decode bC_drawFromChains 1 = .ok (.istore 4, 2) := by decide +kernel
theorem dC_drawFromChains_3 : decode bC_drawFromChains 3 = .ok (.iload 4, 2) := by decide +kernel
theorem dC_drawFromChains_5 : decode bC_drawFromChains 5 = .ok (.bipush 6, 2) := by decide +kernel
theorem dC_drawFromChains_7 : decode bC_drawFromChains 7 = .ok (.if_icmp .ge 131, 3) := by decide +kernel
theorem dC_drawFromChains_10 : decode bC_drawFromChains 10 = .ok (.iload_n 2, 1) := by decide +kernel
theorem dC_drawFromChains_11 : decode bC_drawFromChains 11 = .ok (.bipush 6, 2) := by decide +kernel
theorem dC_drawFromChains_13 : decode bC_drawFromChains 13 = .ok (.imul, 1) := by decide +kernel
theorem dC_drawFromChains_14 : decode bC_drawFromChains 14 = .ok (.iload 4, 2) := by decide +kernel
theorem dC_drawFromChains_16 : decode bC_drawFromChains 16 = .ok (.iadd, 1) := by decide +kernel
theorem dC_drawFromChains_17 : decode bC_drawFromChains 17 = .ok (.istore 5, 2) := by decide +kernel
theorem dC_drawFromChains_19 : decode bC_drawFromChains 19 = .ok (.aload_n 0, 1) := by decide +kernel
theorem dC_drawFromChains_20 : decode bC_drawFromChains 20 = .ok (.getfield 43, 3) := by decide +kernel
theorem dC_drawFromChains_23 : decode bC_drawFromChains 23 = .ok (.iload 5, 2) := by decide +kernel
theorem dC_drawFromChains_25 : decode bC_drawFromChains 25 = .ok (.iconst 0, 1) := by decide +kernel
theorem dC_drawFromChains_26 : decode bC_drawFromChains 26 = .ok (.invokevirtual 69, 3) := by decide +kernel
theorem dC_drawFromChains_29 : decode bC_drawFromChains 29 = .ok (.istore 6, 2) := by decide +kernel
theorem dC_drawFromChains_31 : decode bC_drawFromChains 31 = .ok (.iload 6, 2) := by decide +kernel
theorem dC_drawFromChains_33 : decode bC_drawFromChains 33 = .ok (.bipush 6, 2) := by decide +kernel
theorem dC_drawFromChains_35 : decode bC_drawFromChains 35 = .ok (.if_icmp .ge 38, 3) := by decide +kernel
theorem dC_drawFromChains_38 : decode bC_drawFromChains 38 = .ok (.aload_n 0, 1) := by decide +kernel
theorem dC_drawFromChains_39 : decode bC_drawFromChains 39 = .ok (.iload_n 1, 1) := by decide +kernel
theorem dC_drawFromChains_40 : decode bC_drawFromChains 40 = .ok (.iload 6, 2) := by decide +kernel
theorem dC_drawFromChains_42 : decode bC_drawFromChains 42 = .ok (.aload_n 0, 1) := by decide +kernel
theorem dC_drawFromChains_43 : decode bC_drawFromChains 43 = .ok (.getfield 24, 3) := by decide +kernel
theorem dC_drawFromChains_46 : decode bC_drawFromChains 46 = .ok (.iload_n 3, 1) := by decide +kernel
theorem dC_drawFromChains_47 : decode bC_drawFromChains 47 = .ok (.iload 4, 2) := by decide +kernel
theorem dC_drawFromChains_49 : decode bC_drawFromChains 49 = .ok (.invokestatic 57, 3) := by decide +kernel
theorem dC_drawFromChains_52 : decode bC_drawFromChains 52 = .ok (.invokevirtual 126, 3) := by decide +kernel
theorem dC_drawFromChains_55 : decode bC_drawFromChains 55 = .ok (.aload_n 0, 1) := by decide +kernel
theorem dC_drawFromChains_56 : decode bC_drawFromChains 56 = .ok (.getfield 43, 3) := by decide +kernel
theorem dC_drawFromChains_59 : decode bC_drawFromChains 59 = .ok (.iload 5, 2) := by decide +kernel
theorem dC_drawFromChains_61 : decode bC_drawFromChains 61 = .ok (.iload 6, 2) := by decide +kernel
theorem dC_drawFromChains_63 : decode bC_drawFromChains 63 = .ok (.iconst 1, 1) := by decide +kernel
theorem dC_drawFromChains_64 : decode bC_drawFromChains 64 = .ok (.iadd, 1) := by decide +kernel
theorem dC_drawFromChains_65 : decode bC_drawFromChains 65 = .ok (.invokevirtual 69, 3) := by decide +kernel
theorem dC_drawFromChains_68 : decode bC_drawFromChains 68 = .ok (.istore 6, 2) := by decide +kernel
theorem dC_drawFromChains_70 : decode bC_drawFromChains 70 = .ok (.goto (-39), 3) := by decide +kernel
theorem dC_drawFromChains_73 : decode bC_drawFromChains 73 = .ok (.iload 4, 2) := by decide +kernel
theorem dC_drawFromChains_75 : decode bC_drawFromChains 75 = .ok (.bipush 6, 2) := by decide +kernel
theorem dC_drawFromChains_77 : decode bC_drawFromChains 77 = .ok (.imul, 1) := by decide +kernel
theorem dC_drawFromChains_78 : decode bC_drawFromChains 78 = .ok (.iload_n 2, 1) := by decide +kernel
theorem dC_drawFromChains_79 : decode bC_drawFromChains 79 = .ok (.iadd, 1) := by decide +kernel
theorem dC_drawFromChains_80 : decode bC_drawFromChains 80 = .ok (.istore 6, 2) := by decide +kernel
theorem dC_drawFromChains_82 : decode bC_drawFromChains 82 = .ok (.aload_n 0, 1) := by decide +kernel
theorem dC_drawFromChains_83 : decode bC_drawFromChains 83 = .ok (.getfield 43, 3) := by decide +kernel
theorem dC_drawFromChains_86 : decode bC_drawFromChains 86 = .ok (.iload 6, 2) := by decide +kernel
theorem dC_drawFromChains_88 : decode bC_drawFromChains 88 = .ok (.iconst 0, 1) := by decide +kernel
theorem dC_drawFromChains_89 : decode bC_drawFromChains 89 = .ok (.invokevirtual 69, 3) := by decide +kernel
theorem dC_drawFromChains_92 : decode bC_drawFromChains 92 = .ok (.istore 7, 2) := by decide +kernel
theorem dC_drawFromChains_94 : decode bC_drawFromChains 94 = .ok (.iload 7, 2) := by decide +kernel
theorem dC_drawFromChains_96 : decode bC_drawFromChains 96 = .ok (.bipush 6, 2) := by decide +kernel
theorem dC_drawFromChains_98 : decode bC_drawFromChains 98 = .ok (.if_icmp .ge 34, 3) := by decide +kernel
theorem dC_drawFromChains_101 : decode bC_drawFromChains 101 = .ok (.aload_n 0, 1) := by decide +kernel
theorem dC_drawFromChains_102 : decode bC_drawFromChains 102 = .ok (.iload_n 1, 1) := by decide +kernel
theorem dC_drawFromChains_103 : decode bC_drawFromChains 103 = .ok (.iload 4, 2) := by decide +kernel
theorem dC_drawFromChains_105 : decode bC_drawFromChains 105 = .ok (.invokestatic 57, 3) := by decide +kernel
theorem dC_drawFromChains_108 : decode bC_drawFromChains 108 = .ok (.iload 7, 2) := by decide +kernel
theorem dC_drawFromChains_110 : decode bC_drawFromChains 110 = .ok (.iload_n 3, 1) := by decide +kernel
theorem dC_drawFromChains_111 : decode bC_drawFromChains 111 = .ok (.invokevirtual 113, 3) := by decide +kernel
theorem dC_drawFromChains_114 : decode bC_drawFromChains 114 = .ok (.aload_n 0, 1) := by decide +kernel
theorem dC_drawFromChains_115 : decode bC_drawFromChains 115 = .ok (.getfield 43, 3) := by decide +kernel
theorem dC_drawFromChains_118 : decode bC_drawFromChains 118 = .ok (.iload 6, 2) := by decide +kernel
theorem dC_drawFromChains_120 : decode bC_drawFromChains 120 = .ok (.iload 7, 2) := by decide +kernel
theorem dC_drawFromChains_122 : decode bC_drawFromChains 122 = .ok (.iconst 1, 1) := by decide +kernel
theorem dC_drawFromChains_123 : decode bC_drawFromChains 123 = .ok (.iadd, 1) := by decide +kernel
theorem dC_drawFromChains_124 : decode bC_drawFromChains 124 = .ok (.invokevirtual 69, 3) := by decide +kernel
theorem dC_drawFromChains_127 : decode bC_drawFromChains 127 = .ok (.istore 7, 2) := by decide +kernel
theorem dC_drawFromChains_129 : decode bC_drawFromChains 129 = .ok (.goto (-35), 3) := by decide +kernel
theorem dC_drawFromChains_132 : decode bC_drawFromChains 132 = .ok (.iinc 4 1, 3) := by decide +kernel
theorem dC_drawFromChains_135 : decode bC_drawFromChains 135 = .ok (.goto (-132), 3) := by decide +kernel
theorem dC_drawFromChains_138 : decode bC_drawFromChains 138 = .ok (.return_, 1) := by decide +kernel
theorem dC_add_0 : decode bC_add 0 = .ok (.iload_n 1, 1) := by decide +kernel
theorem dC_add_1 : decode bC_add 1 = .ok (.iload_n 2, 1) := by decide +kernel
theorem dC_add_2 : decode bC_add 2 = .ok (.invokestatic 57, 3) := by decide +kernel
theorem dC_add_5 : decode bC_add 5 = .ok (.istore 4, 2) := by decide +kernel
theorem dC_add_7 : decode bC_add 7 = .ok (.aload_n 0, 1) := by decide +kernel
theorem dC_add_8 : decode bC_add 8 = .ok (.getfield 24, 3) := by decide +kernel
theorem dC_add_11 : decode bC_add 11 = .ok (.iload 4, 2) := by decide +kernel
theorem dC_add_13 : decode bC_add 13 = .ok (.iload_n 3, 1) := by decide +kernel
theorem dC_add_14 : decode bC_add 14 = .ok (.invokevirtual 110, 3) := by decide +kernel
theorem dC_add_17 : decode bC_add 17 = .ok (.ifCond .eq 39, 3) := by decide +kernel
theorem dC_add_20 : decode bC_add 20 = .ok (.aload_n 0, 1) := by decide +kernel
theorem dC_add_21 : decode bC_add 21 = .ok (.getfield 28, 3) := by decide +kernel
theorem dC_add_24 : decode bC_add 24 = .ok (.iload_n 3, 1) := by decide +kernel
theorem dC_add_25 : decode bC_add 25 = .ok (.iload_n 2, 1) := by decide +kernel
theorem dC_add_26 : decode bC_add 26 = .ok (.invokestatic 57, 3) := by decide +kernel
theorem dC_add_29 : decode bC_add 29 = .ok (.iload_n 1, 1) := by decide +kernel
theorem dC_add_30 : decode bC_add 30 = .ok (.invokevirtual 110, 3) := by decide +kernel
theorem dC_add_33 : decode bC_add 33 = .ok (.pop, 1) := by decide +kernel
theorem dC_add_34 : decode bC_add 34 = .ok (.aload_n 0, 1) := by decide +kernel
theorem dC_add_35 : decode bC_add 35 = .ok (.getfield 31, 3) := by decide +kernel
theorem dC_add_38 : decode bC_add 38 = .ok (.iload 4, 2) := by decide +kernel
theorem dC_add_40 : decode bC_add 40 = .ok (.iload_n 3, 1) := by decide +kernel
theorem dC_add_41 : decode bC_add 41 = .ok (.invokevirtual 110, 3) := by decide +kernel
theorem dC_add_44 : decode bC_add 44 = .ok (.pop, 1) := by decide +kernel
theorem dC_add_45 : decode bC_add 45 = .ok (.aload_n 0, 1) := by decide +kernel
theorem dC_add_46 : decode bC_add 46 = .ok (.getfield 34, 3) := by decide +kernel
theorem dC_add_49 : decode bC_add 49 = .ok (.iconst 0, 1) := by decide +kernel
theorem dC_add_50 : decode bC_add 50 = .ok (.iload 4, 2) := by decide +kernel
theorem dC_add_52 : decode bC_add 52 = .ok (.invokevirtual 110, 3) := by decide +kernel
theorem dC_add_55 : decode bC_add 55 = .ok (.pop, 1) := by decide +kernel
theorem dC_add_56 : decode bC_add 56 = .ok (.return_, 1) := by decide +kernel
theorem dC_addAll_0 : decode bC_addAll 0 = .ok (.iload_n 1, 1) := by decide +kernel
theorem dC_addAll_1 : decode bC_addAll 1 = .ok (.iload_n 2, 1) := by decide +kernel
theorem dC_addAll_2 : decode bC_addAll 2 = .ok (.invokestatic 57, 3) := by decide +kernel
theorem dC_addAll_5 : decode bC_addAll 5 = .ok (.istore 5, 2) := by decide +kernel
theorem dC_addAll_7 : decode bC_addAll 7 = .ok (.aload_n 3, 1) := by decide +kernel
theorem dC_addAll_8 : decode bC_addAll 8 = .ok (.iload 4, 2) := by decide +kernel
theorem dC_addAll_10 : decode bC_addAll 10 = .ok (.iconst 0, 1) := by decide +kernel
theorem dC_addAll_11 : decode bC_addAll 11 = .ok (.aload_n 0, 1) := by decide +kernel
theorem dC_addAll_12 : decode bC_addAll 12 = .ok (.getfield 24, 3) := by decide +kernel
theorem dC_addAll_15 : decode bC_addAll 15 = .ok (.iload 5, 2) := by decide +kernel
theorem dC_addAll_17 : decode bC_addAll 17 = .ok (.invokevirtual 182, 3) := by decide +kernel
theorem dC_addAll_20 : decode bC_addAll 20 = .ok (.istore 6, 2) := by decide +kernel
theorem dC_addAll_22 : decode bC_addAll 22 = .ok (.iload 6, 2) := by decide +kernel
theorem dC_addAll_24 : decode bC_addAll 24 = .ok (.sipush 160, 3) := by decide +kernel
theorem dC_addAll_27 : decode bC_addAll 27 = .ok (.if_icmp .ge 32, 3) := by decide +kernel
theorem dC_addAll_30 : decode bC_addAll 30 = .ok (.aload_n 0, 1) := by decide +kernel
theorem dC_addAll_31 : decode bC_addAll 31 = .ok (.iload_n 1, 1) := by decide +kernel
theorem dC_addAll_32 : decode bC_addAll 32 = .ok (.iload_n 2, 1) := by decide +kernel
theorem dC_addAll_33 : decode bC_addAll 33 = .ok (.iload 6, 2) := by decide +kernel
theorem dC_addAll_35 : decode bC_addAll 35 = .ok (.invokevirtual 94, 3) := by decide +kernel
theorem dC_addAll_38 : decode bC_addAll 38 = .ok (.aload_n 3, 1) := by decide +kernel
theorem dC_addAll_39 : decode bC_addAll 39 = .ok (.iload 4, 2) := by decide +kernel
theorem dC_addAll_41 : decode bC_addAll 41 = .ok (.iload 6, 2) := by decide +kernel
theorem dC_addAll_43 : decode bC_addAll 43 = .ok (.iconst 1, 1) := by decide +kernel
theorem dC_addAll_44 : decode bC_addAll 44 = .ok (.iadd, 1) := by decide +kernel
theorem dC_addAll_45 : decode bC_addAll 45 = .ok (.aload_n 0, 1) := by decide +kernel
theorem dC_addAll_46 : decode bC_addAll 46 = .ok (.getfield 24, 3) := by decide +kernel
theorem dC_addAll_49 : decode bC_addAll 49 = .ok (.iload 5, 2) := by decide +kernel
theorem dC_addAll_51 : decode bC_addAll 51 = .ok (.invokevirtual 182, 3) := by decide +kernel
theorem dC_addAll_54 : decode bC_addAll 54 = .ok (.istore 6, 2) := by decide +kernel
theorem dC_addAll_56 : decode bC_addAll 56 = .ok (.goto (-34), 3) := by decide +kernel
theorem dC_addAll_59 : decode bC_addAll 59 = .ok (.return_, 1) := by decide +kernel
theorem dC_addFromAll_0 : decode bC_addFromAll 0 = .ok (.iload_n 3, 1) := by decide +kernel
theorem dC_addFromAll_1 : decode bC_addFromAll 1 = .ok (.iload_n 2, 1) := by decide +kernel
theorem dC_addFromAll_2 : decode bC_addFromAll 2 = .ok (.invokestatic 57, 3) := by decide +kernel
theorem dC_addFromAll_5 : decode bC_addFromAll 5 = .ok (.istore 4, 2) := by decide +kernel
theorem dC_addFromAll_7 : decode bC_addFromAll 7 = .ok (.aload_n 0, 1) := by decide +kernel
theorem dC_addFromAll_8 : decode bC_addFromAll 8 = .ok (.getfield 28, 3) := by decide +kernel
theorem dC_addFromAll_11 : decode bC_addFromAll 11 = .ok (.iload_n 1, 1) := by decide +kernel
theorem dC_addFromAll_12 : decode bC_addFromAll 12 = .ok (.iconst 0, 1) := by decide +kernel
theorem dC_addFromAll_13 : decode bC_addFromAll 13 = .ok (.aload_n 0, 1) := by decide +kernel
theorem dC_addFromAll_14 : decode bC_addFromAll 14 = .ok (.getfield 28, 3) := by decide +kernel
theorem dC_addFromAll_17 : decode bC_addFromAll 17 = .ok (.iload 4, 2) := by decide +kernel
theorem dC_addFromAll_19 : decode bC_addFromAll 19 = .ok (.invokevirtual 182, 3) := by decide +kernel
theorem dC_addFromAll_22 : decode bC_addFromAll 22 = .ok (.istore 5, 2) := by decide +kernel
theorem dC_addFromAll_24 : decode bC_addFromAll 24 = .ok (.iload 5, 2) := by decide +kernel
theorem dC_addFromAll_26 : decode bC_addFromAll 26 = .ok (.sipush 160, 3) := by decide +kernel
theorem dC_addFromAll_29 : decode bC_addFromAll 29 = .ok (.if_icmp .ge 34, 3) := by decide +kernel
theorem dC_addFromAll_32 : decode bC_addFromAll 32 = .ok (.aload_n 0, 1) := by decide +kernel
theorem dC_addFromAll_33 : decode bC_addFromAll 33 = .ok (.iload 5, 2) := by decide +kernel
theorem dC_addFromAll_35 : decode bC_addFromAll 35 = .ok (.iload_n 2, 1) := by decide +kernel
theorem dC_addFromAll_36 : decode bC_addFromAll 36 = .ok (.iload_n 3, 1) := by decide +kernel
theorem dC_addFromAll_37 : decode bC_addFromAll 37 = .ok (.invokevirtual 94, 3) := by decide +kernel
theorem dC_addFromAll_40 : decode bC_addFromAll 40 = .ok (.aload_n 0, 1) := by decide +kernel
theorem dC_addFromAll_41 : decode bC_addFromAll 41 = .ok (.getfield 28, 3) := by decide +kernel
theorem dC_addFromAll_44 : decode bC_addFromAll 44 = .ok (.iload_n 1, 1) := by decide +kernel
theorem dC_addFromAll_45 : decode bC_addFromAll 45 = .ok (.iload 5, 2) := by decide +kernel
theorem dC_addFromAll_47 : decode bC_addFromAll 47 = .ok (.iconst 1, 1) := by decide +kernel
theorem dC_addFromAll_48 : decode bC_addFromAll 48 = .ok (.iadd, 1) := by decide +kernel
theorem dC_addFromAll_49 : decode bC_addFromAll 49 = .ok (.aload_n 0, 1) := by decide +kernel
theorem dC_addFromAll_50 : decode bC_addFromAll 50 = .ok (.getfield 28, 3) := by decide +kernel
theorem dC_addFromAll_53 : decode bC_addFromAll 53 = .ok (.iload 4, 2) := by decide +kernel
theorem dC_addFromAll_55 : decode bC_addFromAll 55 = .ok (.invokevirtual 182, 3) := by decide +kernel
theorem dC_addFromAll_58 : decode bC_addFromAll 58 = .ok (.istore 5, 2) := by decide +kernel
theorem dC_addFromAll_60 : decode bC_addFromAll 60 = .ok (.goto (-36), 3) := by decide +kernel
theorem dC_addFromAll_63 : decode bC_addFromAll 63 = .ok (.return_, 1) := by decide +kernel
