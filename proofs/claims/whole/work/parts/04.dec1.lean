theorem dA_init_0 : decode bA_init 0 = .ok (.aload_n 0, 1) := by decide +kernel
theorem dA_init_1 : decode bA_init 1 = .ok (.invokespecial 3, 3) := by decide +kernel
theorem dA_init_4 : decode bA_init 4 = .ok (.aload_n 0, 1) := by decide +kernel
theorem dA_init_5 : decode bA_init 5 = .ok (.bipush 100, 2) := by decide +kernel
theorem dA_init_7 : decode bA_init 7 = .ok (.newarray .int, 2) := by decide +kernel
theorem dA_init_9 : decode bA_init 9 = .ok (.putfield 9, 3) := by decide +kernel
theorem dA_init_12 : decode bA_init 12 = .ok (.aload_n 0, 1) := by decide +kernel
theorem dA_init_13 : decode bA_init 13 = .ok (.bipush 100, 2) := by decide +kernel
theorem dA_init_15 : decode bA_init 15 = .ok (.newarray .int, 2) := by decide +kernel
theorem dA_init_17 : decode bA_init 17 = .ok (.putfield 15, 3) := by decide +kernel
theorem dA_init_20 : decode bA_init 20 = .ok (.aload_n 0, 1) := by decide +kernel
theorem dA_init_21 : decode bA_init 21 = .ok (.bipush 100, 2) := by decide +kernel
theorem dA_init_23 : decode bA_init 23 = .ok (.newarray .int, 2) := by decide +kernel
theorem dA_init_25 : decode bA_init 25 = .ok (.putfield 18, 3) := by decide +kernel
theorem dA_init_28 : decode bA_init 28 = .ok (.aload_n 0, 1) := by decide +kernel
theorem dA_init_29 : decode bA_init 29 = .ok (.bipush 100, 2) := by decide +kernel
theorem dA_init_31 : decode bA_init 31 = .ok (.newarray .int, 2) := by decide +kernel
theorem dA_init_33 : decode bA_init 33 = .ok (.putfield 21, 3) := by decide +kernel
theorem dA_init_36 : decode bA_init 36 = .ok (.aload_n 0, 1) := by decide +kernel
theorem dA_init_37 : decode bA_init 37 = .ok (.bipush 100, 2) := by decide +kernel
theorem dA_init_39 : decode bA_init 39 = .ok (.newarray .boolean, 2) := by decide +kernel
theorem dA_init_41 : decode bA_init 41 = .ok (.putfield 24, 3) := by decide +kernel
theorem dA_init_44 : decode bA_init 44 = .ok (.aload_n 0, 1) := by decide +kernel
theorem dA_init_45 : decode bA_init 45 = .ok (.iconst 0, 1) := by decide +kernel
theorem dA_init_46 : decode bA_init 46 = .ok (.putfield 28, 3) := by decide +kernel
theorem dA_init_49 : decode bA_init 49 = .ok (.aload_n 0, 1) := by decide +kernel
theorem dA_init_50 : decode bA_init 50 = .ok (.iconst 0, 1) := by decide +kernel
theorem dA_init_51 : decode bA_init 51 = .ok (.putfield 32, 3) := by decide +kernel
theorem dA_init_54 : decode bA_init 54 = .ok (.return_, 1) := by decide +kernel
theorem dA_told_0 : decode bA_told 0 = .ok (.aload_n 0, 1) := by decide +kernel
theorem dA_told_1 : decode bA_told 1 = .ok (.getfield 28, 3) := by decide +kernel
theorem dA_told_4 : decode bA_told 4 = .ok (.ireturn, 1) := by decide +kernel
theorem dA_inForce_0 : decode bA_inForce 0 = .ok (.aload_n 0, 1) := by decide +kernel
theorem dA_inForce_1 : decode bA_inForce 1 = .ok (.getfield 32, 3) := by decide +kernel
theorem dA_inForce_4 : decode bA_inForce 4 = .ok (.ireturn, 1) := by decide +kernel
theorem dA_kind_0 : decode bA_kind 0 = .ok (.aload_n 0, 1) := by decide +kernel
theorem dA_kind_1 : decode bA_kind 1 = .ok (.getfield 9, 3) := by decide +kernel
theorem dA_kind_4 : decode bA_kind 4 = .ok (.iload_n 1, 1) := by decide +kernel
theorem dA_kind_5 : decode bA_kind 5 = .ok (.iconst 1, 1) := by decide +kernel
theorem dA_kind_6 : decode bA_kind 6 = .ok (.isub, 1) := by decide +kernel
theorem dA_kind_7 : decode bA_kind 7 = .ok (.iaload, 1) := by decide +kernel
theorem dA_kind_8 : decode bA_kind 8 = .ok (.ireturn, 1) := by decide +kernel
theorem dA_first_0 : decode bA_first 0 = .ok (.aload_n 0, 1) := by decide +kernel
theorem dA_first_1 : decode bA_first 1 = .ok (.getfield 15, 3) := by decide +kernel
theorem dA_first_4 : decode bA_first 4 = .ok (.iload_n 1, 1) := by decide +kernel
theorem dA_first_5 : decode bA_first 5 = .ok (.iconst 1, 1) := by decide +kernel
theorem dA_first_6 : decode bA_first 6 = .ok (.isub, 1) := by decide +kernel
theorem dA_first_7 : decode bA_first 7 = .ok (.iaload, 1) := by decide +kernel
theorem dA_first_8 : decode bA_first 8 = .ok (.ireturn, 1) := by decide +kernel
theorem dA_second_0 : decode bA_second 0 = .ok (.aload_n 0, 1) := by decide +kernel
theorem dA_second_1 : decode bA_second 1 = .ok (.getfield 18, 3) := by decide +kernel
theorem dA_second_4 : decode bA_second 4 = .ok (.iload_n 1, 1) := by decide +kernel
theorem dA_second_5 : decode bA_second 5 = .ok (.iconst 1, 1) := by decide +kernel
theorem dA_second_6 : decode bA_second 6 = .ok (.isub, 1) := by decide +kernel
theorem dA_second_7 : decode bA_second 7 = .ok (.iaload, 1) := by decide +kernel
theorem dA_second_8 : decode bA_second 8 = .ok (.ireturn, 1) := by decide +kernel
theorem dA_third_0 : decode bA_third 0 = .ok (.aload_n 0, 1) := by decide +kernel
theorem dA_third_1 : decode bA_third 1 = .ok (.getfield 21, 3) := by decide +kernel
theorem dA_third_4 : decode bA_third 4 = .ok (.iload_n 1, 1) := by decide +kernel
theorem dA_third_5 : decode bA_third 5 = .ok (.iconst 1, 1) := by decide +kernel
theorem dA_third_6 : decode bA_third 6 = .ok (.isub, 1) := by decide +kernel
theorem dA_third_7 : decode bA_third 7 = .ok (.iaload, 1) := by decide +kernel
theorem dA_third_8 : decode bA_third 8 = .ok (.ireturn, 1) := by decide +kernel
theorem dA_isInForce_0 : decode bA_isInForce 0 = .ok (.iload_n 1, 1) := by decide +kernel
theorem dA_isInForce_1 : decode bA_isInForce 1 = .ok (.iconst 1, 1) := by decide +kernel
theorem dA_isInForce_2 : decode bA_isInForce 2 = .ok (.if_icmp .lt 26, 3) := by decide +kernel
theorem dA_isInForce_5 : decode bA_isInForce 5 = .ok (.iload_n 1, 1) := by decide +kernel
theorem dA_isInForce_6 : decode bA_isInForce 6 = .ok (.aload_n 0, 1) := by decide +kernel
theorem dA_isInForce_7 : decode bA_isInForce 7 = .ok (.getfield 28, 3) := by decide +kernel
theorem dA_isInForce_10 : decode bA_isInForce 10 = .ok (.if_icmp .gt 18, 3) := by decide +kernel
theorem dA_isInForce_13 : decode bA_isInForce 13 = .ok (.aload_n 0, 1) := by decide +kernel
theorem dA_isInForce_14 : decode bA_isInForce 14 = .ok (.getfield 24, 3) := by decide +kernel
theorem dA_isInForce_17 : decode bA_isInForce 17 = .ok (.iload_n 1, 1) := by decide +kernel
theorem dA_isInForce_18 : decode bA_isInForce 18 = .ok (.iconst 1, 1) := by decide +kernel
theorem dA_isInForce_19 : decode bA_isInForce 19 = .ok (.isub, 1) := by decide +kernel
theorem dA_isInForce_20 : decode bA_isInForce 20 = .ok (.baload, 1) := by decide +kernel
theorem dA_isInForce_21 : decode bA_isInForce 21 = .ok (.ifCond .ne 7, 3) := by decide +kernel
theorem dA_isInForce_24 : decode bA_isInForce 24 = .ok (.iconst 1, 1) := by decide +kernel
theorem dA_isInForce_25 : decode bA_isInForce 25 = .ok (.goto 4, 3) := by decide +kernel
theorem dA_isInForce_28 : decode bA_isInForce 28 = .ok (.iconst 0, 1) := by decide +kernel
theorem dA_isInForce_29 : decode bA_isInForce 29 = .ok (.ireturn, 1) := by decide +kernel
theorem dA_tell_0 : decode bA_tell 0 = .ok (.aload_n 0, 1) := by decide +kernel
theorem dA_tell_1 : decode bA_tell 1 = .ok (.getfield 28, 3) := by decide +kernel
theorem dA_tell_4 : decode bA_tell 4 = .ok (.bipush 100, 2) := by decide +kernel
theorem dA_tell_6 : decode bA_tell 6 = .ok (.if_icmp .lt 5, 3) := by decide +kernel
theorem dA_tell_9 : decode bA_tell 9 = .ok (.iconst (-1), 1) := by decide +kernel
theorem dA_tell_10 : decode bA_tell 10 = .ok (.ireturn, 1) := by decide +kernel
theorem dA_tell_11 : decode bA_tell 11 = .ok (.aload_n 0, 1) := by decide +kernel
theorem dA_tell_12 : decode bA_tell 12 = .ok (.getfield 9, 3) := by decide +kernel
theorem dA_tell_15 : decode bA_tell 15 = .ok (.aload_n 0, 1) := by decide +kernel
theorem dA_tell_16 : decode bA_tell 16 = .ok (.getfield 28, 3) := by decide +kernel
theorem dA_tell_19 : decode bA_tell 19 = .ok (.iload_n 1, 1) := by decide +kernel
theorem dA_tell_20 : decode bA_tell 20 = .ok (.iastore, 1) := by decide +kernel
theorem dA_tell_21 : decode bA_tell 21 = .ok (.aload_n 0, 1) := by decide +kernel
theorem dA_tell_22 : decode bA_tell 22 = .ok (.getfield 15, 3) := by decide +kernel
theorem dA_tell_25 : decode bA_tell 25 = .ok (.aload_n 0, 1) := by decide +kernel
theorem dA_tell_26 : decode bA_tell 26 = .ok (.getfield 28, 3) := by decide +kernel
theorem dA_tell_29 : decode bA_tell 29 = .ok (.iload_n 2, 1) := by decide +kernel
theorem dA_tell_30 : decode bA_tell 30 = .ok (.iastore, 1) := by decide +kernel
theorem dA_tell_31 : decode bA_tell 31 = .ok (.aload_n 0, 1) := by decide +kernel
theorem dA_tell_32 : decode bA_tell 32 = .ok (.getfield 18, 3) := by decide +kernel
theorem dA_tell_35 : decode bA_tell 35 = .ok (.aload_n 0, 1) := by decide +kernel
theorem dA_tell_36 : decode bA_tell 36 = .ok (.getfield 28, 3) := by decide +kernel
theorem dA_tell_39 : decode bA_tell 39 = .ok (.iload_n 3, 1) := by decide +kernel
theorem dA_tell_40 : decode bA_tell 40 = .ok (.iastore, 1) := by decide +kernel
theorem dA_tell_41 : decode bA_tell 41 = .ok (.aload_n 0, 1) := by decide +kernel
theorem dA_tell_42 : decode bA_tell 42 = .ok (.getfield 21, 3) := by decide +kernel
theorem dA_tell_45 : decode bA_tell 45 = .ok (.aload_n 0, 1) := by decide +kernel
theorem dA_tell_46 : decode bA_tell 46 = .ok (.getfield 28, 3) := by decide +kernel
theorem dA_tell_49 : decode bA_tell 49 = .ok (.iload 4, 2) := by decide +kernel
theorem dA_tell_51 : decode bA_tell 51 = .ok (.iastore, 1) := by decide +kernel
theorem dA_tell_52 : decode bA_tell 52 = .ok (.aload_n 0, 1) := by decide +kernel
theorem dA_tell_53 : decode bA_tell 53 = .ok (.dup, 1) := by decide +kernel
theorem dA_tell_54 : decode bA_tell 54 = .ok (.getfield 28, 3) := by decide +kernel
theorem dA_tell_57 : decode bA_tell 57 = .ok (.iconst 1, 1) := by decide +kernel
theorem dA_tell_58 : decode bA_tell 58 = .ok (.iadd, 1) := by decide +kernel
theorem dA_tell_59 : decode bA_tell 59 = .ok (.putfield 28, 3) := by decide +kernel
theorem dA_tell_62 : decode bA_tell 62 = .ok (.aload_n 0, 1) := by decide +kernel
theorem dA_tell_63 : decode bA_tell 63 = .ok (.dup, 1) := by decide +kernel
theorem dA_tell_64 : decode bA_tell 64 = .ok (.getfield 32, 3) := by decide +kernel
theorem dA_tell_67 : decode bA_tell 67 = .ok (.iconst 1, 1) := by decide +kernel
theorem dA_tell_68 : decode bA_tell 68 = .ok (.iadd, 1) := by decide +kernel
theorem dA_tell_69 : decode bA_tell 69 = .ok (.putfield 32, 3) := by decide +kernel
theorem dA_tell_72 : decode bA_tell 72 = .ok (.aload_n 0, 1) := by decide +kernel
theorem dA_tell_73 : decode bA_tell 73 = .ok (.getfield 28, 3) := by decide +kernel
theorem dA_tell_76 : decode bA_tell 76 = .ok (.ireturn, 1) := by decide +kernel
theorem dA_takeBack_0 : decode bA_takeBack 0 = .ok (.aload_n 0, 1) := by decide +kernel
theorem dA_takeBack_1 : decode bA_takeBack 1 = .ok (.getfield 24, 3) := by decide +kernel
theorem dA_takeBack_4 : decode bA_takeBack 4 = .ok (.iload_n 1, 1) := by decide +kernel
theorem dA_takeBack_5 : decode bA_takeBack 5 = .ok (.iconst 1, 1) := by decide +kernel
theorem dA_takeBack_6 : decode bA_takeBack 6 = .ok (.isub, 1) := by decide +kernel
theorem dA_takeBack_7 : decode bA_takeBack 7 = .ok (.iconst 1, 1) := by decide +kernel
theorem dA_takeBack_8 : decode bA_takeBack 8 = .ok (.bastore, 1) := by decide +kernel
theorem dA_takeBack_9 : decode bA_takeBack 9 = .ok (.aload_n 0, 1) := by decide +kernel
theorem dA_takeBack_10 : decode bA_takeBack 10 = .ok (.dup, 1) := by decide +kernel
theorem dA_takeBack_11 : decode bA_takeBack 11 = .ok (.getfield 32, 3) := by decide +kernel
theorem dA_takeBack_14 : decode bA_takeBack 14 = .ok (.iconst 1, 1) := by decide +kernel
theorem dA_takeBack_15 : decode bA_takeBack 15 = .ok (.isub, 1) := by decide +kernel
theorem dA_takeBack_16 : decode bA_takeBack 16 = .ok (.putfield 32, 3) := by decide +kernel
theorem dA_takeBack_19 : decode bA_takeBack 19 = .ok (.return_, 1) := by decide +kernel
theorem dB_init_0 : decode bB_init 0 = .ok (.aload_n 0, 1) := by decide +kernel
theorem dB_init_1 : decode bB_init 1 = .ok (.invokespecial 1, 3) := by decide +kernel
theorem dB_init_4 : decode bB_init 4 = .ok (.aload_n 0, 1) := by decide +kernel
theorem dB_init_5 : decode bB_init 5 = .ok (.iload_n 2, 1) := by decide +kernel
theorem dB_init_6 : decode bB_init 6 = .ok (.putfield 7, 3) := by decide +kernel
theorem dB_init_9 : decode bB_init 9 = .ok (.aload_n 0, 1) := by decide +kernel
theorem dB_init_10 : decode bB_init 10 = .ok (.iload_n 2, 1) := by decide +kernel
theorem dB_init_11 : decode bB_init 11 = .ok (.bipush 63, 2) := by decide +kernel
theorem dB_init_13 : decode bB_init 13 = .ok (.iadd, 1) := by decide +kernel
theorem dB_init_14 : decode bB_init 14 = .ok (.bipush 64, 2) := by decide +kernel
theorem dB_init_16 : decode bB_init 16 = .ok (.idiv, 1) := by decide +kernel
theorem dB_init_17 : decode bB_init 17 = .ok (.putfield 13, 3) := by decide +kernel
theorem dB_init_20 : decode bB_init 20 = .ok (.aload_n 0, 1) := by decide +kernel
theorem dB_init_21 : decode bB_init 21 = .ok (.iload_n 1, 1) := by decide +kernel
theorem dB_init_22 : decode bB_init 22 = .ok (.aload_n 0, 1) := by decide +kernel
theorem dB_init_23 : decode bB_init 23 = .ok (.getfield 13, 3) := by decide +kernel
theorem dB_init_26 : decode bB_init 26 = .ok (.imul, 1) := by decide +kernel
theorem dB_init_27 : decode bB_init 27 = .ok (.newarray .long, 2) := by decide +kernel
theorem dB_init_29 : decode bB_init 29 = .ok (.putfield 16, 3) := by decide +kernel
theorem dB_init_32 : decode bB_init 32 = .ok (.return_, 1) := by decide +kernel
theorem dB_holds_0 : decode bB_holds 0 = .ok (.aload_n 0, 1) := by decide +kernel
theorem dB_holds_1 : decode bB_holds 1 = .ok (.getfield 16, 3) := by decide +kernel
theorem dB_holds_4 : decode bB_holds 4 = .ok (.iload_n 1, 1) := by decide +kernel
theorem dB_holds_5 : decode bB_holds 5 = .ok (.aload_n 0, 1) := by decide +kernel
theorem dB_holds_6 : decode bB_holds 6 = .ok (.getfield 13, 3) := by decide +kernel
theorem dB_holds_9 : decode bB_holds 9 = .ok (.imul, 1) := by decide +kernel
theorem dB_holds_10 : decode bB_holds 10 = .ok (.iload_n 2, 1) := by decide +kernel
theorem dB_holds_11 : decode bB_holds 11 = .ok (.bipush 6, 2) := by decide +kernel
theorem dB_holds_13 : decode bB_holds 13 = .ok (.ishr, 1) := by decide +kernel
theorem dB_holds_14 : decode bB_holds 14 = .ok (.iadd, 1) := by decide +kernel
theorem dB_holds_15 : decode bB_holds 15 = .ok (.laload, 1) := by decide +kernel
theorem dB_holds_16 : decode bB_holds 16 = .ok (.iload_n 2, 1) := by decide +kernel
theorem dB_holds_17 : decode bB_holds 17 = .ok (.bipush 63, 2) := by decide +kernel
theorem dB_holds_19 : decode bB_holds 19 = .ok (.iand, 1) := by decide +kernel
theorem dB_holds_20 : decode bB_holds 20 = .ok (.lushr, 1) := by decide +kernel
theorem dB_holds_21 : decode bB_holds 21 = .ok (.lconst 1, 1) := by decide +kernel
theorem dB_holds_22 : decode bB_holds 22 = .ok (.land, 1) := by decide +kernel
theorem dB_holds_23 : decode bB_holds 23 = .ok (.lconst 0, 1) := by decide +kernel
theorem dB_holds_24 : decode bB_holds 24 = .ok (.lcmp, 1) := by decide +kernel
theorem dB_holds_25 : decode bB_holds 25 = .ok (.ifCond .eq 7, 3) := by decide +kernel
theorem dB_holds_28 : decode bB_holds 28 = .ok (.iconst 1, 1) := by decide +kernel
theorem dB_holds_29 : decode bB_holds 29 = .ok (.goto 4, 3) := by decide +kernel
theorem dB_holds_32 : decode bB_holds 32 = .ok (.iconst 0, 1) := by decide +kernel
theorem dB_holds_33 : decode bB_holds 33 = .ok (.ireturn, 1) := by decide +kernel
theorem dB_put_0 : decode bB_put 0 = .ok (.iload_n 1, 1) := by decide +kernel
theorem dB_put_1 : decode bB_put 1 = .ok (.aload_n 0, 1) := by decide +kernel
theorem dB_put_2 : decode bB_put 2 = .ok (.getfield 13, 3) := by decide +kernel
theorem dB_put_5 : decode bB_put 5 = .ok (.imul, 1) := by decide +kernel
theorem dB_put_6 : decode bB_put 6 = .ok (.iload_n 2, 1) := by decide +kernel
theorem dB_put_7 : decode bB_put 7 = .ok (.bipush 6, 2) := by decide +kernel
theorem dB_put_9 : decode bB_put 9 = .ok (.ishr, 1) := by decide +kernel
theorem dB_put_10 : decode bB_put 10 = .ok (.iadd, 1) := by decide +kernel
theorem dB_put_11 : decode bB_put 11 = .ok (.istore_n 3, 1) := by decide +kernel
theorem dB_put_12 : decode bB_put 12 = .ok (.aload_n 0, 1) := by decide +kernel
theorem dB_put_13 : decode bB_put 13 = .ok (.getfield 16, 3) := by decide +kernel
theorem dB_put_16 : decode bB_put 16 = .ok (.iload_n 3, 1) := by decide +kernel
theorem dB_put_17 : decode bB_put 17 = .ok (.laload, 1) := by decide +kernel
theorem dB_put_18 : decode bB_put 18 = .ok (.lstore 4, 2) := by decide +kernel
theorem dB_put_20 : decode bB_put 20 = .ok (.aload_n 0, 1) := by decide +kernel
theorem dB_put_21 : decode bB_put 21 = .ok (.getfield 16, 3) := by decide +kernel
theorem dB_put_24 : decode bB_put 24 = .ok (.iload_n 3, 1) := by decide +kernel
theorem dB_put_25 : decode bB_put 25 = .ok (.lload 4, 2) := by decide +kernel
theorem dB_put_27 : decode bB_put 27 = .ok (.lconst 1, 1) := by decide +kernel
theorem dB_put_28 : decode bB_put 28 = .ok (.iload_n 2, 1) := by decide +kernel
theorem dB_put_29 : decode bB_put 29 = .ok (.bipush 63, 2) := by decide +kernel
theorem dB_put_31 : decode bB_put 31 = .ok (.iand, 1) := by decide +kernel
theorem dB_put_32 : decode bB_put 32 = .ok (.lshl, 1) := by decide +kernel
theorem dB_put_33 : decode bB_put 33 = .ok (.lor, 1) := by decide +kernel
theorem dB_put_34 : decode bB_put 34 = .ok (.lastore, 1) := by decide +kernel
theorem dB_put_35 : decode bB_put 35 = .ok (.aload_n 0, 1) := by decide +kernel
theorem dB_put_36 : decode bB_put 36 = .ok (.getfield 16, 3) := by decide +kernel
theorem dB_put_39 : decode bB_put 39 = .ok (.iload_n 3, 1) := by decide +kernel
theorem dB_put_40 : decode bB_put 40 = .ok (.laload, 1) := by decide +kernel
theorem dB_put_41 : decode bB_put 41 = .ok (.lload 4, 2) := by decide +kernel
theorem dB_put_43 : decode bB_put 43 = .ok (.lcmp, 1) := by decide +kernel
theorem dB_put_44 : decode bB_put 44 = .ok (.ifCond .eq 7, 3) := by decide +kernel
theorem dB_put_47 : decode bB_put 47 = .ok (.iconst 1, 1) := by decide +kernel
theorem dB_put_48 : decode bB_put 48 = .ok (.goto 4, 3) := by decide +kernel
theorem dB_put_51 : decode bB_put 51 = .ok (.iconst 0, 1) := by decide +kernel
theorem dB_put_52 : decode bB_put 52 = .ok (.ireturn, 1) := by decide +kernel
theorem dB_drop_0 : decode bB_drop 0 = .ok (.aload_n 0, 1) := by decide +kernel
theorem dB_drop_1 : decode bB_drop 1 = .ok (.getfield 16, 3) := by decide +kernel
theorem dB_drop_4 : decode bB_drop 4 = .ok (.iload_n 1, 1) := by decide +kernel
theorem dB_drop_5 : decode bB_drop 5 = .ok (.aload_n 0, 1) := by decide +kernel
theorem dB_drop_6 : decode bB_drop 6 = .ok (.getfield 13, 3) := by decide +kernel
theorem dB_drop_9 : decode bB_drop 9 = .ok (.imul, 1) := by decide +kernel
theorem dB_drop_10 : decode bB_drop 10 = .ok (.iload_n 2, 1) := by decide +kernel
theorem dB_drop_11 : decode bB_drop 11 = .ok (.bipush 6, 2) := by decide +kernel
theorem dB_drop_13 : decode bB_drop 13 = .ok (.ishr, 1) := by decide +kernel
theorem dB_drop_14 : decode bB_drop 14 = .ok (.iadd, 1) := by decide +kernel
theorem dB_drop_15 : decode bB_drop 15 = .ok (.dup2, 1) := by decide +kernel
theorem dB_drop_16 : decode bB_drop 16 = .ok (.laload, 1) := by decide +kernel
theorem dB_drop_17 : decode bB_drop 17 = .ok (.lconst 1, 1) := by decide +kernel
theorem dB_drop_18 : decode bB_drop 18 = .ok (.iload_n 2, 1) := by decide +kernel
theorem dB_drop_19 : decode bB_drop 19 = .ok (.bipush 63, 2) := by decide +kernel
theorem dB_drop_21 : decode bB_drop 21 = .ok (.iand, 1) := by decide +kernel
theorem dB_drop_22 : decode bB_drop 22 = .ok (.lshl, 1) := by decide +kernel
theorem dB_drop_23 : decode bB_drop 23 = .ok (.ldc2_w 20, 3) := by decide +kernel
theorem dB_drop_26 : decode bB_drop 26 = .ok (.lxor, 1) := by decide +kernel
theorem dB_drop_27 : decode bB_drop 27 = .ok (.land, 1) := by decide +kernel
theorem dB_drop_28 : decode bB_drop 28 = .ok (.lastore, 1) := by decide +kernel
theorem dB_drop_29 : decode bB_drop 29 = .ok (.return_, 1) := by decide +kernel
theorem dB_next_0 : decode bB_next 0 = .ok (.iload_n 2, 1) := by decide +kernel
theorem dB_next_1 : decode bB_next 1 = .ok (.istore_n 3, 1) := by decide +kernel
theorem dB_next_2 : decode bB_next 2 = .ok (.iload_n 3, 1) := by decide +kernel
theorem dB_next_3 : decode bB_next 3 = .ok (.aload_n 0, 1) := by decide +kernel
theorem dB_next_4 : decode bB_next 4 = .ok (.getfield 7, 3) := by decide +kernel
theorem dB_next_7 : decode bB_next 7 = .ok (.if_icmp .ge 57, 3) := by decide +kernel
theorem dB_next_10 : decode bB_next 10 = .ok (.aload_n 0, 1) := by decide +kernel
theorem dB_next_11 : decode bB_next 11 = .ok (.getfield 16, 3) := by decide +kernel
theorem dB_next_14 : decode bB_next 14 = .ok (.iload_n 1, 1) := by decide +kernel
theorem dB_next_15 : decode bB_next 15 = .ok (.aload_n 0, 1) := by decide +kernel
theorem dB_next_16 : decode bB_next 16 = .ok (.getfield 13, 3) := by decide +kernel
theorem dB_next_19 : decode bB_next 19 = .ok (.imul, 1) := by decide +kernel
theorem dB_next_20 : decode bB_next 20 = .ok (.iload_n 3, 1) := by decide +kernel
theorem dB_next_21 : decode bB_next 21 = .ok (.bipush 6, 2) := by decide +kernel
theorem dB_next_23 : decode bB_next 23 = .ok (.ishr, 1) := by decide +kernel
theorem dB_next_24 : decode bB_next 24 = .ok (.iadd, 1) := by decide +kernel
theorem dB_next_25 : decode bB_next 25 = .ok (.laload, 1) := by decide +kernel
theorem dB_next_26 : decode bB_next 26 = .ok (.iload_n 3, 1) := by decide +kernel
theorem dB_next_27 : decode bB_next 27 = .ok (.bipush 63, 2) := by decide +kernel
theorem dB_next_29 : decode bB_next 29 = .ok (.iand, 1) := by decide +kernel
theorem dB_next_30 : decode bB_next 30 = .ok (.lushr, 1) := by decide +kernel
theorem dB_next_31 : decode bB_next 31 = .ok (.lstore 4, 2) := by decide +kernel
theorem dB_next_33 : decode bB_next 33 = .ok (.lload 4, 2) := by decide +kernel
theorem dB_next_35 : decode bB_next 35 = .ok (.lconst 0, 1) := by decide +kernel
theorem dB_next_36 : decode bB_next 36 = .ok (.lcmp, 1) := by decide +kernel
theorem dB_next_37 : decode bB_next 37 = .ok (.ifCond .eq 17, 3) := by decide +kernel
theorem dB_next_40 : decode bB_next 40 = .ok (.iload_n 3, 1) := by decide +kernel
theorem dB_next_41 : decode bB_next 41 = .ok (.lload 4, 2) := by decide +kernel
theorem dB_next_43 : decode bB_next 43 = .ok (.lload 4, 2) := by decide +kernel
theorem dB_next_45 : decode bB_next 45 = .ok (.lneg, 1) := by decide +kernel
theorem dB_next_46 : decode bB_next 46 = .ok (.land, 1) := by decide +kernel
theorem dB_next_47 : decode bB_next 47 = .ok (.lconst 1, 1) := by decide +kernel
theorem dB_next_48 : decode bB_next 48 = .ok (.lsub, 1) := by decide +kernel
theorem dB_next_49 : decode bB_next 49 = .ok (.invokestatic 22, 3) := by decide +kernel
theorem dB_next_52 : decode bB_next 52 = .ok (.iadd, 1) := by decide +kernel
theorem dB_next_53 : decode bB_next 53 = .ok (.ireturn, 1) := by decide +kernel
theorem dB_next_54 : decode bB_next 54 = .ok (.iload_n 3, 1) := by decide +kernel
theorem dB_next_55 : decode bB_next 55 = .ok (.bipush 63, 2) := by decide +kernel
theorem dB_next_57 : decode bB_next 57 = .ok (.ior, 1) := by decide +kernel
theorem dB_next_58 : decode bB_next 58 = .ok (.iconst 1, 1) := by decide +kernel
theorem dB_next_59 : decode bB_next 59 = .ok (.iadd, 1) := by decide +kernel
theorem dB_next_60 : decode bB_next 60 = .ok (.istore_n 3, 1) := by decide +kernel
theorem dB_next_61 : decode bB_next 61 = .ok (.goto (-59), 3) := by decide +kernel
theorem dB_next_64 : decode bB_next 64 = .ok (.aload_n 0, 1) := by decide +kernel
theorem dB_next_65 : decode bB_next 65 = .ok (.getfield 7, 3) := by decide +kernel
theorem dB_next_68 : decode bB_next 68 = .ok (.ireturn, 1) := by decide +kernel
theorem dB_nextBeyond_0 : decode bB_nextBeyond 0 = .ok (.iload_n 2, 1) := by decide +kernel
theorem dB_nextBeyond_1 : decode bB_nextBeyond 1 = .ok (.istore 5, 2) := by decide +kernel
theorem dB_nextBeyond_3 : decode bB_nextBeyond 3 = .ok (.iload 5, 2) := by decide +kernel
theorem dB_nextBeyond_5 : decode bB_nextBeyond 5 = .ok (.aload_n 0, 1) := by decide +kernel
theorem dB_nextBeyond_6 : decode bB_nextBeyond 6 = .ok (.getfield 7, 3) := by decide +kernel
theorem dB_nextBeyond_9 : decode bB_nextBeyond 9 = .ok (.if_icmp .ge 90, 3) := by decide +kernel
theorem dB_nextBeyond_12 : decode bB_nextBeyond 12 = .ok (.iload 5, 2) := by decide +kernel
theorem dB_nextBeyond_14 : decode bB_nextBeyond 14 = .ok (.bipush 6, 2) := by decide +kernel
theorem dB_nextBeyond_16 : decode bB_nextBeyond 16 = .ok (.ishr, 1) := by decide +kernel
theorem dB_nextBeyond_17 : decode bB_nextBeyond 17 = .ok (.istore 6, 2) := by decide +kernel
theorem dB_nextBeyond_19 : decode bB_nextBeyond 19 = .ok (.aload_n 0, 1) := by decide +kernel
theorem dB_nextBeyond_20 : decode bB_nextBeyond 20 = .ok (.getfield 16, 3) := by decide +kernel
theorem dB_nextBeyond_23 : decode bB_nextBeyond 23 = .ok (.iload_n 1, 1) := by decide +kernel
theorem dB_nextBeyond_24 : decode bB_nextBeyond 24 = .ok (.aload_n 0, 1) := by decide +kernel
theorem dB_nextBeyond_25 : decode bB_nextBeyond 25 = .ok (.getfield 13, 3) := by decide +kernel
theorem dB_nextBeyond_28 : decode bB_nextBeyond 28 = .ok (.imul, 1) := by decide +kernel
theorem dB_nextBeyond_29 : decode bB_nextBeyond 29 = .ok (.iload 6, 2) := by decide +kernel
theorem dB_nextBeyond_31 : decode bB_nextBeyond 31 = .ok (.iadd, 1) := by decide +kernel
theorem dB_nextBeyond_32 : decode bB_nextBeyond 32 = .ok (.laload, 1) := by decide +kernel
theorem dB_nextBeyond_33 : decode bB_nextBeyond 33 = .ok (.aload_n 3, 1) := by decide +kernel
theorem dB_nextBeyond_34 : decode bB_nextBeyond 34 = .ok (.getfield 16, 3) := by decide +kernel
theorem dB_nextBeyond_37 : decode bB_nextBeyond 37 = .ok (.iload 4, 2) := by decide +kernel
theorem dB_nextBeyond_39 : decode bB_nextBeyond 39 = .ok (.aload_n 0, 1) := by decide +kernel
theorem dB_nextBeyond_40 : decode bB_nextBeyond 40 = .ok (.getfield 13, 3) := by decide +kernel
theorem dB_nextBeyond_43 : decode bB_nextBeyond 43 = .ok (.imul, 1) := by decide +kernel
theorem dB_nextBeyond_44 : decode bB_nextBeyond 44 = .ok (.iload 6, 2) := by decide +kernel
theorem dB_nextBeyond_46 : decode bB_nextBeyond 46 = .ok (.iadd, 1) := by decide +kernel
theorem dB_nextBeyond_47 : decode bB_nextBeyond 47 = .ok (.laload, 1) := by decide +kernel
theorem dB_nextBeyond_48 : decode bB_nextBeyond 48 = .ok (.ldc2_w 20, 3) := by decide +kernel
theorem dB_nextBeyond_51 : decode bB_nextBeyond 51 = .ok (.lxor, 1) := by decide +kernel
theorem dB_nextBeyond_52 : decode bB_nextBeyond 52 = .ok (.land, 1) := by decide +kernel
theorem dB_nextBeyond_53 : decode bB_nextBeyond 53 = .ok (.lstore 7, 2) := by decide +kernel
theorem dB_nextBeyond_55 : decode bB_nextBeyond 55 = .ok (.lload 7, 2) := by decide +kernel
theorem dB_nextBeyond_57 : decode bB_nextBeyond 57 = .ok (.iload 5, 2) := by decide +kernel
theorem dB_nextBeyond_59 : decode bB_nextBeyond 59 = .ok (.bipush 63, 2) := by decide +kernel
theorem dB_nextBeyond_61 : decode bB_nextBeyond 61 = .ok (.iand, 1) := by decide +kernel
theorem dB_nextBeyond_62 : decode bB_nextBeyond 62 = .ok (.lushr, 1) := by decide +kernel
theorem dB_nextBeyond_63 : decode bB_nextBeyond 63 = .ok (.lstore 7, 2) := by decide +kernel
theorem dB_nextBeyond_65 : decode bB_nextBeyond 65 = .ok (.lload 7, 2) := by decide +kernel
theorem dB_nextBeyond_67 : decode bB_nextBeyond 67 = .ok (.lconst 0, 1) := by decide +kernel
theorem dB_nextBeyond_68 : decode bB_nextBeyond 68 = .ok (.lcmp, 1) := by decide +kernel
theorem dB_nextBeyond_69 : decode bB_nextBeyond 69 = .ok (.ifCond .eq 18, 3) := by decide +kernel
theorem dB_nextBeyond_72 : decode bB_nextBeyond 72 = .ok (.iload 5, 2) := by decide +kernel
theorem dB_nextBeyond_74 : decode bB_nextBeyond 74 = .ok (.lload 7, 2) := by decide +kernel
theorem dB_nextBeyond_76 : decode bB_nextBeyond 76 = .ok (.lload 7, 2) := by decide +kernel
theorem dB_nextBeyond_78 : decode bB_nextBeyond 78 = .ok (.lneg, 1) := by decide +kernel
theorem dB_nextBeyond_79 : decode bB_nextBeyond 79 = .ok (.land, 1) := by decide +kernel
theorem dB_nextBeyond_80 : decode bB_nextBeyond 80 = .ok (.lconst 1, 1) := by decide +kernel
theorem dB_nextBeyond_81 : decode bB_nextBeyond 81 = .ok (.lsub, 1) := by decide +kernel
theorem dB_nextBeyond_82 : decode bB_nextBeyond 82 = .ok (.invokestatic 22, 3) := by decide +kernel
theorem dB_nextBeyond_85 : decode bB_nextBeyond 85 = .ok (.iadd, 1) := by decide +kernel
theorem dB_nextBeyond_86 : decode bB_nextBeyond 86 = .ok (.ireturn, 1) := by decide +kernel
theorem dB_nextBeyond_87 : decode bB_nextBeyond 87 = .ok (.iload 5, 2) := by decide +kernel
theorem dB_nextBeyond_89 : decode bB_nextBeyond 89 = .ok (.bipush 63, 2) := by decide +kernel
theorem dB_nextBeyond_91 : decode bB_nextBeyond 91 = .ok (.ior, 1) := by decide +kernel
theorem dB_nextBeyond_92 : decode bB_nextBeyond 92 = .ok (.iconst 1, 1) := by decide +kernel
theorem dB_nextBeyond_93 : decode bB_nextBeyond 93 = .ok (.iadd, 1) := by decide +kernel
theorem dB_nextBeyond_94 : decode bB_nextBeyond 94 = .ok (.istore 5, 2) := by decide +kernel
theorem dB_nextBeyond_96 : decode bB_nextBeyond 96 = .ok (.goto (-93), 3) := by decide +kernel
theorem dB_nextBeyond_99 : decode bB_nextBeyond 99 = .ok (.aload_n 0, 1) := by decide +kernel
theorem dB_nextBeyond_100 : decode bB_nextBeyond 100 = .ok (.getfield 7, 3) := by decide +kernel
theorem dB_nextBeyond_103 : decode bB_nextBeyond 103 = .ok (.ireturn, 1) := by decide +kernel
theorem dB_clear_0 : decode bB_clear 0 = .ok (.iload_n 1, 1) := by decide +kernel
theorem dB_clear_1 : decode bB_clear 1 = .ok (.aload_n 0, 1) := by decide +kernel
theorem dB_clear_2 : decode bB_clear 2 = .ok (.getfield 13, 3) := by decide +kernel
theorem dB_clear_5 : decode bB_clear 5 = .ok (.imul, 1) := by decide +kernel
theorem dB_clear_6 : decode bB_clear 6 = .ok (.aload_n 0, 1) := by decide +kernel
theorem dB_clear_7 : decode bB_clear 7 = .ok (.getfield 16, 3) := by decide +kernel
theorem dB_clear_10 : decode bB_clear 10 = .ok (.arraylength, 1) := by decide +kernel
theorem dB_clear_11 : decode bB_clear 11 = .ok (.invokestatic 28, 3) := by decide +kernel
theorem dB_clear_14 : decode bB_clear 14 = .ok (.istore_n 2, 1) := by decide +kernel
theorem dB_clear_15 : decode bB_clear 15 = .ok (.iconst 0, 1) := by decide +kernel
theorem dB_clear_16 : decode bB_clear 16 = .ok (.istore_n 3, 1) := by decide +kernel
theorem dB_clear_17 : decode bB_clear 17 = .ok (.iload_n 3, 1) := by decide +kernel
theorem dB_clear_18 : decode bB_clear 18 = .ok (.iload_n 2, 1) := by decide +kernel
theorem dB_clear_19 : decode bB_clear 19 = .ok (.if_icmp .ge 16, 3) := by decide +kernel
theorem dB_clear_22 : decode bB_clear 22 = .ok (.aload_n 0, 1) := by decide +kernel
theorem dB_clear_23 : decode bB_clear 23 = .ok (.getfield 16, 3) := by decide +kernel
theorem dB_clear_26 : decode bB_clear 26 = .ok (.iload_n 3, 1) := by decide +kernel
theorem dB_clear_27 : decode bB_clear 27 = .ok (.lconst 0, 1) := by decide +kernel
theorem dB_clear_28 : decode bB_clear 28 = .ok (.lastore, 1) := by decide +kernel
theorem dB_clear_29 : decode bB_clear 29 = .ok (.iinc 3 1, 3) := by decide +kernel
theorem dB_clear_32 : decode bB_clear 32 = .ok (.goto (-15), 3) := by decide +kernel
theorem dB_clear_35 : decode bB_clear 35 = .ok (.return_, 1) := by decide +kernel
theorem dT_init_0 : decode bT_init 0 = .ok (.aload_n 0, 1) := by decide +kernel
theorem dT_init_1 : decode bT_init 1 = .ok (.invokespecial 3, 3) := by decide +kernel
theorem dT_init_4 : decode bT_init 4 = .ok (.aload_n 0, 1) := by decide +kernel
theorem dT_init_5 : decode bT_init 5 = .ok (.sipush 160, 3) := by decide +kernel
theorem dT_init_8 : decode bT_init 8 = .ok (.newarray .int, 2) := by decide +kernel
theorem dT_init_10 : decode bT_init 10 = .ok (.putfield 9, 3) := by decide +kernel
theorem dT_init_13 : decode bT_init 13 = .ok (.aload_n 0, 1) := by decide +kernel
theorem dT_init_14 : decode bT_init 14 = .ok (.sipush 160, 3) := by decide +kernel
theorem dT_init_17 : decode bT_init 17 = .ok (.newarray .int, 2) := by decide +kernel
theorem dT_init_19 : decode bT_init 19 = .ok (.putfield 15, 3) := by decide +kernel
theorem dT_init_22 : decode bT_init 22 = .ok (.aload_n 0, 1) := by decide +kernel
theorem dT_init_23 : decode bT_init 23 = .ok (.sipush 160, 3) := by decide +kernel
theorem dT_init_26 : decode bT_init 26 = .ok (.newarray .int, 2) := by decide +kernel
theorem dT_init_28 : decode bT_init 28 = .ok (.putfield 18, 3) := by decide +kernel
theorem dT_init_31 : decode bT_init 31 = .ok (.aload_n 0, 1) := by decide +kernel
theorem dT_init_32 : decode bT_init 32 = .ok (.sipush 960, 3) := by decide +kernel
theorem dT_init_35 : decode bT_init 35 = .ok (.newarray .int, 2) := by decide +kernel
theorem dT_init_37 : decode bT_init 37 = .ok (.putfield 21, 3) := by decide +kernel
theorem dT_init_40 : decode bT_init 40 = .ok (.aload_n 0, 1) := by decide +kernel
theorem dT_init_41 : decode bT_init 41 = .ok (.new 24, 3) := by decide +kernel
theorem dT_init_44 : decode bT_init 44 = .ok (.dup, 1) := by decide +kernel
theorem dT_init_45 : decode bT_init 45 = .ok (.sipush 160, 3) := by decide +kernel
theorem dT_init_48 : decode bT_init 48 = .ok (.sipush 160, 3) := by decide +kernel
theorem dT_init_51 : decode bT_init 51 = .ok (.invokespecial 26, 3) := by decide +kernel
theorem dT_init_54 : decode bT_init 54 = .ok (.putfield 29, 3) := by decide +kernel
theorem dT_init_57 : decode bT_init 57 = .ok (.aload_n 0, 1) := by decide +kernel
theorem dT_init_58 : decode bT_init 58 = .ok (.new 24, 3) := by decide +kernel
theorem dT_init_61 : decode bT_init 61 = .ok (.dup, 1) := by decide +kernel
theorem dT_init_62 : decode bT_init 62 = .ok (.bipush 6, 2) := by decide +kernel
theorem dT_init_64 : decode bT_init 64 = .ok (.sipush 160, 3) := by decide +kernel
theorem dT_init_67 : decode bT_init 67 = .ok (.invokespecial 26, 3) := by decide +kernel
theorem dT_init_70 : decode bT_init 70 = .ok (.putfield 33, 3) := by decide +kernel
theorem dT_init_73 : decode bT_init 73 = .ok (.aload_n 0, 1) := by decide +kernel
theorem dT_init_74 : decode bT_init 74 = .ok (.getfield 21, 3) := by decide +kernel
theorem dT_init_77 : decode bT_init 77 = .ok (.iconst (-1), 1) := by decide +kernel
theorem dT_init_78 : decode bT_init 78 = .ok (.invokestatic 36, 3) := by decide +kernel
theorem dT_init_81 : decode bT_init 81 = .ok (.aload_n 0, 1) := by decide +kernel
theorem dT_init_82 : decode bT_init 82 = .ok (.getfield 9, 3) := by decide +kernel
theorem dT_init_85 : decode bT_init 85 = .ok (.iconst 0, 1) := by decide +kernel
theorem dT_init_86 : decode bT_init 86 = .ok (.iconst 0, 1) := by decide +kernel
theorem dT_init_87 : decode bT_init 87 = .ok (.iastore, 1) := by decide +kernel
theorem dT_init_88 : decode bT_init 88 = .ok (.aload_n 0, 1) := by decide +kernel
theorem dT_init_89 : decode bT_init 89 = .ok (.getfield 9, 3) := by decide +kernel
theorem dT_init_92 : decode bT_init 92 = .ok (.iconst 1, 1) := by decide +kernel
theorem dT_init_93 : decode bT_init 93 = .ok (.iconst 0, 1) := by decide +kernel
theorem dT_init_94 : decode bT_init 94 = .ok (.iastore, 1) := by decide +kernel
theorem dT_init_95 : decode bT_init 95 = .ok (.aload_n 0, 1) := by decide +kernel
theorem dT_init_96 : decode bT_init 96 = .ok (.iconst 2, 1) := by decide +kernel
theorem dT_init_97 : decode bT_init 97 = .ok (.putfield 42, 3) := by decide +kernel
theorem dT_init_100 : decode bT_init 100 = .ok (.aload_n 0, 1) := by decide +kernel
theorem dT_init_101 : decode bT_init 101 = .ok (.iconst 0, 1) := by decide +kernel
theorem dT_init_102 : decode bT_init 102 = .ok (.putfield 46, 3) := by decide +kernel
theorem dT_init_105 : decode bT_init 105 = .ok (.return_, 1) := by decide +kernel
theorem dT_size_0 : decode bT_size 0 = .ok (.aload_n 0, 1) := by decide +kernel
theorem dT_size_1 : decode bT_size 1 = .ok (.getfield 42, 3) := by decide +kernel
theorem dT_size_4 : decode bT_size 4 = .ok (.ireturn, 1) := by decide +kernel
theorem dT_names_0 : decode bT_names 0 = .ok (.aload_n 0, 1) := by decide +kernel
theorem dT_names_1 : decode bT_names 1 = .ok (.getfield 46, 3) := by decide +kernel
theorem dT_names_4 : decode bT_names 4 = .ok (.ireturn, 1) := by decide +kernel
theorem dT_kind_0 : decode bT_kind 0 = .ok (.aload_n 0, 1) := by decide +kernel
theorem dT_kind_1 : decode bT_kind 1 = .ok (.getfield 9, 3) := by decide +kernel
theorem dT_kind_4 : decode bT_kind 4 = .ok (.iload_n 1, 1) := by decide +kernel
theorem dT_kind_5 : decode bT_kind 5 = .ok (.iaload, 1) := by decide +kernel
theorem dT_kind_6 : decode bT_kind 6 = .ok (.ireturn, 1) := by decide +kernel
theorem dT_isName_0 : decode bT_isName 0 = .ok (.aload_n 0, 1) := by decide +kernel
theorem dT_isName_1 : decode bT_isName 1 = .ok (.getfield 9, 3) := by decide +kernel
theorem dT_isName_4 : decode bT_isName 4 = .ok (.iload_n 1, 1) := by decide +kernel
theorem dT_isName_5 : decode bT_isName 5 = .ok (.iaload, 1) := by decide +kernel
theorem dT_isName_6 : decode bT_isName 6 = .ok (.iconst 1, 1) := by decide +kernel
theorem dT_isName_7 : decode bT_isName 7 = .ok (.if_icmp .ne 7, 3) := by decide +kernel
theorem dT_isName_10 : decode bT_isName 10 = .ok (.iconst 1, 1) := by decide +kernel
theorem dT_isName_11 : decode bT_isName 11 = .ok (.goto 4, 3) := by decide +kernel
theorem dT_isName_14 : decode bT_isName 14 = .ok (.iconst 0, 1) := by decide +kernel
theorem dT_isName_15 : decode bT_isName 15 = .ok (.ireturn, 1) := by decide +kernel
theorem dT_left_0 : decode bT_left 0 = .ok (.aload_n 0, 1) := by decide +kernel
theorem dT_left_1 : decode bT_left 1 = .ok (.getfield 15, 3) := by decide +kernel
theorem dT_left_4 : decode bT_left 4 = .ok (.iload_n 1, 1) := by decide +kernel
theorem dT_left_5 : decode bT_left 5 = .ok (.iaload, 1) := by decide +kernel
theorem dT_left_6 : decode bT_left 6 = .ok (.ireturn, 1) := by decide +kernel
theorem dT_right_0 : decode bT_right 0 = .ok (.aload_n 0, 1) := by decide +kernel
theorem dT_right_1 : decode bT_right 1 = .ok (.getfield 18, 3) := by decide +kernel
theorem dT_right_4 : decode bT_right 4 = .ok (.iload_n 1, 1) := by decide +kernel
theorem dT_right_5 : decode bT_right 5 = .ok (.iaload, 1) := by decide +kernel
theorem dT_right_6 : decode bT_right 6 = .ok (.ireturn, 1) := by decide +kernel
theorem dT_findSome_0 : decode bT_findSome 0 = .ok (.aload_n 0, 1) := by decide +kernel
theorem dT_findSome_1 : decode bT_findSome 1 = .ok (.getfield 21, 3) := by decide +kernel
theorem dT_findSome_4 : decode bT_findSome 4 = .ok (.iload_n 1, 1) := by decide +kernel
theorem dT_findSome_5 : decode bT_findSome 5 = .ok (.sipush 160, 3) := by decide +kernel
theorem dT_findSome_8 : decode bT_findSome 8 = .ok (.imul, 1) := by decide +kernel
theorem dT_findSome_9 : decode bT_findSome 9 = .ok (.iload_n 2, 1) := by decide +kernel
theorem dT_findSome_10 : decode bT_findSome 10 = .ok (.iadd, 1) := by decide +kernel
theorem dT_findSome_11 : decode bT_findSome 11 = .ok (.iaload, 1) := by decide +kernel
theorem dT_findSome_12 : decode bT_findSome 12 = .ok (.ireturn, 1) := by decide +kernel
theorem dT_findBoth_0 : decode bT_findBoth 0 = .ok (.aload_n 0, 1) := by decide +kernel
theorem dT_findBoth_1 : decode bT_findBoth 1 = .ok (.getfield 29, 3) := by decide +kernel
theorem dT_findBoth_4 : decode bT_findBoth 4 = .ok (.iload_n 1, 1) := by decide +kernel
theorem dT_findBoth_5 : decode bT_findBoth 5 = .ok (.iconst 0, 1) := by decide +kernel
theorem dT_findBoth_6 : decode bT_findBoth 6 = .ok (.invokevirtual 49, 3) := by decide +kernel
theorem dT_findBoth_9 : decode bT_findBoth 9 = .ok (.istore_n 3, 1) := by decide +kernel
theorem dT_findBoth_10 : decode bT_findBoth 10 = .ok (.iload_n 3, 1) := by decide +kernel
theorem dT_findBoth_11 : decode bT_findBoth 11 = .ok (.sipush 160, 3) := by decide +kernel
theorem dT_findBoth_14 : decode bT_findBoth 14 = .ok (.if_icmp .ge 40, 3) := by decide +kernel
theorem dT_findBoth_17 : decode bT_findBoth 17 = .ok (.aload_n 0, 1) := by decide +kernel
theorem dT_findBoth_18 : decode bT_findBoth 18 = .ok (.getfield 15, 3) := by decide +kernel
theorem dT_findBoth_21 : decode bT_findBoth 21 = .ok (.iload_n 3, 1) := by decide +kernel
theorem dT_findBoth_22 : decode bT_findBoth 22 = .ok (.iaload, 1) := by decide +kernel
theorem dT_findBoth_23 : decode bT_findBoth 23 = .ok (.iload_n 1, 1) := by decide +kernel
theorem dT_findBoth_24 : decode bT_findBoth 24 = .ok (.if_icmp .ne 15, 3) := by decide +kernel
theorem dT_findBoth_27 : decode bT_findBoth 27 = .ok (.aload_n 0, 1) := by decide +kernel
theorem dT_findBoth_28 : decode bT_findBoth 28 = .ok (.getfield 18, 3) := by decide +kernel
theorem dT_findBoth_31 : decode bT_findBoth 31 = .ok (.iload_n 3, 1) := by decide +kernel
theorem dT_findBoth_32 : decode bT_findBoth 32 = .ok (.iaload, 1) := by decide +kernel
theorem dT_findBoth_33 : decode bT_findBoth 33 = .ok (.iload_n 2, 1) := by decide +kernel
theorem dT_findBoth_34 : decode bT_findBoth 34 = .ok (.if_icmp .ne 5, 3) := by decide +kernel
theorem dT_findBoth_37 : decode bT_findBoth 37 = .ok (.iload_n 3, 1) := by decide +kernel
theorem dT_findBoth_38 : decode bT_findBoth 38 = .ok (.ireturn, 1) := by decide +kernel
theorem dT_findBoth_39 : decode bT_findBoth 39 = .ok (.aload_n 0, 1) := by decide +kernel
theorem dT_findBoth_40 : decode bT_findBoth 40 = .ok (.getfield 29, 3) := by decide +kernel
theorem dT_findBoth_43 : decode bT_findBoth 43 = .ok (.iload_n 1, 1) := by decide +kernel
theorem dT_findBoth_44 : decode bT_findBoth 44 = .ok (.iload_n 3, 1) := by decide +kernel
theorem dT_findBoth_45 : decode bT_findBoth 45 = .ok (.iconst 1, 1) := by decide +kernel
theorem dT_findBoth_46 : decode bT_findBoth 46 = .ok (.iadd, 1) := by decide +kernel
theorem dT_findBoth_47 : decode bT_findBoth 47 = .ok (.invokevirtual 49, 3) := by decide +kernel
theorem dT_findBoth_50 : decode bT_findBoth 50 = .ok (.istore_n 3, 1) := by decide +kernel
theorem dT_findBoth_51 : decode bT_findBoth 51 = .ok (.goto (-41), 3) := by decide +kernel
theorem dT_findBoth_54 : decode bT_findBoth 54 = .ok (.iconst (-1), 1) := by decide +kernel
theorem dT_findBoth_55 : decode bT_findBoth 55 = .ok (.ireturn, 1) := by decide +kernel
theorem dT_otherPart_0 : decode bT_otherPart 0 = .ok (.aload_n 0, 1) := by decide +kernel
theorem dT_otherPart_1 : decode bT_otherPart 1 = .ok (.getfield 15, 3) := by decide +kernel
theorem dT_otherPart_4 : decode bT_otherPart 4 = .ok (.iload_n 1, 1) := by decide +kernel
theorem dT_otherPart_5 : decode bT_otherPart 5 = .ok (.iaload, 1) := by decide +kernel
theorem dT_otherPart_6 : decode bT_otherPart 6 = .ok (.iload_n 2, 1) := by decide +kernel
theorem dT_otherPart_7 : decode bT_otherPart 7 = .ok (.if_icmp .ne 12, 3) := by decide +kernel
theorem dT_otherPart_10 : decode bT_otherPart 10 = .ok (.aload_n 0, 1) := by decide +kernel
theorem dT_otherPart_11 : decode bT_otherPart 11 = .ok (.getfield 18, 3) := by decide +kernel
theorem dT_otherPart_14 : decode bT_otherPart 14 = .ok (.iload_n 1, 1) := by decide +kernel
theorem dT_otherPart_15 : decode bT_otherPart 15 = .ok (.iaload, 1) := by decide +kernel
theorem dT_otherPart_16 : decode bT_otherPart 16 = .ok (.goto 9, 3) := by decide +kernel
theorem dT_otherPart_19 : decode bT_otherPart 19 = .ok (.aload_n 0, 1) := by decide +kernel
theorem dT_otherPart_20 : decode bT_otherPart 20 = .ok (.getfield 15, 3) := by decide +kernel
theorem dT_otherPart_23 : decode bT_otherPart 23 = .ok (.iload_n 1, 1) := by decide +kernel
theorem dT_otherPart_24 : decode bT_otherPart 24 = .ok (.iaload, 1) := by decide +kernel
theorem dT_otherPart_25 : decode bT_otherPart 25 = .ok (.ireturn, 1) := by decide +kernel
theorem dT_make_0 : decode bT_make 0 = .ok (.aload_n 0, 1) := by decide +kernel
theorem dT_make_1 : decode bT_make 1 = .ok (.getfield 42, 3) := by decide +kernel
theorem dT_make_4 : decode bT_make 4 = .ok (.sipush 160, 3) := by decide +kernel
theorem dT_make_7 : decode bT_make 7 = .ok (.if_icmp .lt 5, 3) := by decide +kernel
theorem dT_make_10 : decode bT_make 10 = .ok (.iconst (-1), 1) := by decide +kernel
theorem dT_make_11 : decode bT_make 11 = .ok (.ireturn, 1) := by decide +kernel
theorem dT_make_12 : decode bT_make 12 = .ok (.aload_n 0, 1) := by decide +kernel
theorem dT_make_13 : decode bT_make 13 = .ok (.getfield 42, 3) := by decide +kernel
theorem dT_make_16 : decode bT_make 16 = .ok (.istore 4, 2) := by decide +kernel
theorem dT_make_18 : decode bT_make 18 = .ok (.aload_n 0, 1) := by decide +kernel
theorem dT_make_19 : decode bT_make 19 = .ok (.dup, 1) := by decide +kernel
theorem dT_make_20 : decode bT_make 20 = .ok (.getfield 42, 3) := by decide +kernel
theorem dT_make_23 : decode bT_make 23 = .ok (.iconst 1, 1) := by decide +kernel
theorem dT_make_24 : decode bT_make 24 = .ok (.iadd, 1) := by decide +kernel
theorem dT_make_25 : decode bT_make 25 = .ok (.putfield 42, 3) := by decide +kernel
theorem dT_make_28 : decode bT_make 28 = .ok (.aload_n 0, 1) := by decide +kernel
theorem dT_make_29 : decode bT_make 29 = .ok (.getfield 9, 3) := by decide +kernel
theorem dT_make_32 : decode bT_make 32 = .ok (.iload 4, 2) := by decide +kernel
theorem dT_make_34 : decode bT_make 34 = .ok (.iload_n 1, 1) := by decide +kernel
theorem dT_make_35 : decode bT_make 35 = .ok (.iastore, 1) := by decide +kernel
theorem dT_make_36 : decode bT_make 36 = .ok (.aload_n 0, 1) := by decide +kernel
theorem dT_make_37 : decode bT_make 37 = .ok (.getfield 15, 3) := by decide +kernel
theorem dT_make_40 : decode bT_make 40 = .ok (.iload 4, 2) := by decide +kernel
theorem dT_make_42 : decode bT_make 42 = .ok (.iload_n 2, 1) := by decide +kernel
theorem dT_make_43 : decode bT_make 43 = .ok (.iastore, 1) := by decide +kernel
theorem dT_make_44 : decode bT_make 44 = .ok (.aload_n 0, 1) := by decide +kernel
theorem dT_make_45 : decode bT_make 45 = .ok (.getfield 18, 3) := by decide +kernel
theorem dT_make_48 : decode bT_make 48 = .ok (.iload 4, 2) := by decide +kernel
theorem dT_make_50 : decode bT_make 50 = .ok (.iload_n 3, 1) := by decide +kernel
theorem dT_make_51 : decode bT_make 51 = .ok (.iastore, 1) := by decide +kernel
theorem dT_make_52 : decode bT_make 52 = .ok (.iload_n 1, 1) := by decide +kernel
theorem dT_make_53 : decode bT_make 53 = .ok (.iconst 1, 1) := by decide +kernel
theorem dT_make_54 : decode bT_make 54 = .ok (.if_icmp .ne 16, 3) := by decide +kernel
theorem dT_make_57 : decode bT_make 57 = .ok (.aload_n 0, 1) := by decide +kernel
theorem dT_make_58 : decode bT_make 58 = .ok (.dup, 1) := by decide +kernel
theorem dT_make_59 : decode bT_make 59 = .ok (.getfield 46, 3) := by decide +kernel
theorem dT_make_62 : decode bT_make 62 = .ok (.iconst 1, 1) := by decide +kernel
theorem dT_make_63 : decode bT_make 63 = .ok (.iadd, 1) := by decide +kernel
theorem dT_make_64 : decode bT_make 64 = .ok (.putfield 46, 3) := by decide +kernel
theorem dT_make_67 : decode bT_make 67 = .ok (.goto 62, 3) := by decide +kernel
theorem dT_make_70 : decode bT_make 70 = .ok (.iload_n 1, 1) := by decide +kernel
theorem dT_make_71 : decode bT_make 71 = .ok (.iconst 2, 1) := by decide +kernel
theorem dT_make_72 : decode bT_make 72 = .ok (.if_icmp .ne 28, 3) := by decide +kernel
theorem dT_make_75 : decode bT_make 75 = .ok (.aload_n 0, 1) := by decide +kernel
theorem dT_make_76 : decode bT_make 76 = .ok (.getfield 29, 3) := by decide +kernel
theorem dT_make_79 : decode bT_make 79 = .ok (.iload_n 2, 1) := by decide +kernel
theorem dT_make_80 : decode bT_make 80 = .ok (.iload 4, 2) := by decide +kernel
theorem dT_make_82 : decode bT_make 82 = .ok (.invokevirtual 53, 3) := by decide +kernel
theorem dT_make_85 : decode bT_make 85 = .ok (.pop, 1) := by decide +kernel
theorem dT_make_86 : decode bT_make 86 = .ok (.aload_n 0, 1) := by decide +kernel
theorem dT_make_87 : decode bT_make 87 = .ok (.getfield 29, 3) := by decide +kernel
theorem dT_make_90 : decode bT_make 90 = .ok (.iload_n 3, 1) := by decide +kernel
theorem dT_make_91 : decode bT_make 91 = .ok (.iload 4, 2) := by decide +kernel
theorem dT_make_93 : decode bT_make 93 = .ok (.invokevirtual 53, 3) := by decide +kernel
theorem dT_make_96 : decode bT_make 96 = .ok (.pop, 1) := by decide +kernel
theorem dT_make_97 : decode bT_make 97 = .ok (.goto 32, 3) := by decide +kernel
theorem dT_make_100 : decode bT_make 100 = .ok (.iload_n 1, 1) := by decide +kernel
theorem dT_make_101 : decode bT_make 101 = .ok (.iconst 3, 1) := by decide +kernel
theorem dT_make_102 : decode bT_make 102 = .ok (.if_icmp .ne 27, 3) := by decide +kernel
theorem dT_make_105 : decode bT_make 105 = .ok (.aload_n 0, 1) := by decide +kernel
theorem dT_make_106 : decode bT_make 106 = .ok (.getfield 21, 3) := by decide +kernel
theorem dT_make_109 : decode bT_make 109 = .ok (.iload_n 2, 1) := by decide +kernel
theorem dT_make_110 : decode bT_make 110 = .ok (.sipush 160, 3) := by decide +kernel
theorem dT_make_113 : decode bT_make 113 = .ok (.imul, 1) := by decide +kernel
theorem dT_make_114 : decode bT_make 114 = .ok (.iload_n 3, 1) := by decide +kernel
theorem dT_make_115 : decode bT_make 115 = .ok (.iadd, 1) := by decide +kernel
theorem dT_make_116 : decode bT_make 116 = .ok (.iload 4, 2) := by decide +kernel
theorem dT_make_118 : decode bT_make 118 = .ok (.iastore, 1) := by decide +kernel
theorem dT_make_119 : decode bT_make 119 = .ok (.aload_n 0, 1) := by decide +kernel
theorem dT_make_120 : decode bT_make 120 = .ok (.getfield 33, 3) := by decide +kernel
theorem dT_make_123 : decode bT_make 123 = .ok (.iload_n 2, 1) := by decide +kernel
theorem dT_make_124 : decode bT_make 124 = .ok (.iload_n 3, 1) := by decide +kernel
theorem dT_make_125 : decode bT_make 125 = .ok (.invokevirtual 53, 3) := by decide +kernel
theorem dT_make_128 : decode bT_make 128 = .ok (.pop, 1) := by decide +kernel
theorem dT_make_129 : decode bT_make 129 = .ok (.iload 4, 2) := by decide +kernel
theorem dT_make_131 : decode bT_make 131 = .ok (.ireturn, 1) := by decide +kernel
theorem dJl_bitCount_0 : decode bJl_bitCount 0 = .ok (.lload_n 0, 1) := by decide +kernel
theorem dJl_bitCount_1 : decode bJl_bitCount 1 = .ok (.lload_n 0, 1) := by decide +kernel
theorem dJl_bitCount_2 : decode bJl_bitCount 2 = .ok (.iconst 1, 1) := by decide +kernel
theorem dJl_bitCount_3 : decode bJl_bitCount 3 = .ok (.lushr, 1) := by decide +kernel
theorem dJl_bitCount_4 : decode bJl_bitCount 4 = .ok (.ldc2_w 314, 3) := by decide +kernel
theorem dJl_bitCount_7 : decode bJl_bitCount 7 = .ok (.land, 1) := by decide +kernel
theorem dJl_bitCount_8 : decode bJl_bitCount 8 = .ok (.lsub, 1) := by decide +kernel
theorem dJl_bitCount_9 : decode bJl_bitCount 9 = .ok (.lstore_n 0, 1) := by decide +kernel
theorem dJl_bitCount_10 : decode bJl_bitCount 10 = .ok (.lload_n 0, 1) := by decide +kernel
theorem dJl_bitCount_11 : decode bJl_bitCount 11 = .ok (.ldc2_w 316, 3) := by decide +kernel
theorem dJl_bitCount_14 : decode bJl_bitCount 14 = .ok (.land, 1) := by decide +kernel
theorem dJl_bitCount_15 : decode bJl_bitCount 15 = .ok (.lload_n 0, 1) := by decide +kernel
theorem dJl_bitCount_16 : decode bJl_bitCount 16 = .ok (.iconst 2, 1) := by decide +kernel
theorem dJl_bitCount_17 : decode bJl_bitCount 17 = .ok (.lushr, 1) := by decide +kernel
theorem dJl_bitCount_18 : decode bJl_bitCount 18 = .ok (.ldc2_w 316, 3) := by decide +kernel
theorem dJl_bitCount_21 : decode bJl_bitCount 21 = .ok (.land, 1) := by decide +kernel
theorem dJl_bitCount_22 : decode bJl_bitCount 22 = .ok (.ladd, 1) := by decide +kernel
theorem dJl_bitCount_23 : decode bJl_bitCount 23 = .ok (.lstore_n 0, 1) := by decide +kernel
theorem dJl_bitCount_24 : decode bJl_bitCount 24 = .ok (.lload_n 0, 1) := by decide +kernel
theorem dJl_bitCount_25 : decode bJl_bitCount 25 = .ok (.lload_n 0, 1) := by decide +kernel
theorem dJl_bitCount_26 : decode bJl_bitCount 26 = .ok (.iconst 4, 1) := by decide +kernel
theorem dJl_bitCount_27 : decode bJl_bitCount 27 = .ok (.lushr, 1) := by decide +kernel
theorem dJl_bitCount_28 : decode bJl_bitCount 28 = .ok (.ladd, 1) := by decide +kernel
theorem dJl_bitCount_29 : decode bJl_bitCount 29 = .ok (.ldc2_w 318, 3) := by decide +kernel
theorem dJl_bitCount_32 : decode bJl_bitCount 32 = .ok (.land, 1) := by decide +kernel
theorem dJl_bitCount_33 : decode bJl_bitCount 33 = .ok (.lstore_n 0, 1) := by decide +kernel
theorem dJl_bitCount_34 : decode bJl_bitCount 34 = .ok (.lload_n 0, 1) := by decide +kernel
theorem dJl_bitCount_35 : decode bJl_bitCount 35 = .ok (.lload_n 0, 1) := by decide +kernel
theorem dJl_bitCount_36 : decode bJl_bitCount 36 = .ok (.bipush 8, 2) := by decide +kernel
theorem dJl_bitCount_38 : decode bJl_bitCount 38 = .ok (.lushr, 1) := by decide +kernel
theorem dJl_bitCount_39 : decode bJl_bitCount 39 = .ok (.ladd, 1) := by decide +kernel
theorem dJl_bitCount_40 : decode bJl_bitCount 40 = .ok (.lstore_n 0, 1) := by decide +kernel
theorem dJl_bitCount_41 : decode bJl_bitCount 41 = .ok (.lload_n 0, 1) := by decide +kernel
theorem dJl_bitCount_42 : decode bJl_bitCount 42 = .ok (.lload_n 0, 1) := by decide +kernel
theorem dJl_bitCount_43 : decode bJl_bitCount 43 = .ok (.bipush 16, 2) := by decide +kernel
theorem dJl_bitCount_45 : decode bJl_bitCount 45 = .ok (.lushr, 1) := by decide +kernel
theorem dJl_bitCount_46 : decode bJl_bitCount 46 = .ok (.ladd, 1) := by decide +kernel
theorem dJl_bitCount_47 : decode bJl_bitCount 47 = .ok (.lstore_n 0, 1) := by decide +kernel
theorem dJl_bitCount_48 : decode bJl_bitCount 48 = .ok (.lload_n 0, 1) := by decide +kernel
theorem dJl_bitCount_49 : decode bJl_bitCount 49 = .ok (.lload_n 0, 1) := by decide +kernel
theorem dJl_bitCount_50 : decode bJl_bitCount 50 = .ok (.bipush 32, 2) := by decide +kernel
theorem dJl_bitCount_52 : decode bJl_bitCount 52 = .ok (.lushr, 1) := by decide +kernel
theorem dJl_bitCount_53 : decode bJl_bitCount 53 = .ok (.ladd, 1) := by decide +kernel
theorem dJl_bitCount_54 : decode bJl_bitCount 54 = .ok (.lstore_n 0, 1) := by decide +kernel
theorem dJl_bitCount_55 : decode bJl_bitCount 55 = .ok (.lload_n 0, 1) := by decide +kernel
theorem dJl_bitCount_56 : decode bJl_bitCount 56 = .ok (.l2i, 1) := by decide +kernel
theorem dJl_bitCount_57 : decode bJl_bitCount 57 = .ok (.bipush 127, 2) := by decide +kernel
theorem dJl_bitCount_59 : decode bJl_bitCount 59 = .ok (.iand, 1) := by decide +kernel
theorem dJl_bitCount_60 : decode bJl_bitCount 60 = .ok (.ireturn, 1) := by decide +kernel
theorem dJm_min_0 : decode bJm_min 0 = .ok (.iload_n 0, 1) := by decide +kernel
theorem dJm_min_1 : decode bJm_min 1 = .ok (.iload_n 1, 1) := by decide +kernel
theorem dJm_min_2 : decode bJm_min 2 = .ok (.if_icmp .gt 7, 3) := by decide +kernel
theorem dJm_min_5 : decode bJm_min 5 = .ok (.iload_n 0, 1) := by decide +kernel
theorem dJm_min_6 : decode bJm_min 6 = .ok (.goto 4, 3) := by decide +kernel
theorem dJm_min_9 : decode bJm_min 9 = .ok (.iload_n 1, 1) := by decide +kernel
theorem dJm_min_10 : decode bJm_min 10 = .ok (.ireturn, 1) := by decide +kernel
theorem dJa_fill_0 : decode bJa_fill 0 = .ok (.iconst 0, 1) := by decide +kernel
theorem dJa_fill_1 : decode bJa_fill 1 = .ok (.istore_n 2, 1) := by decide +kernel
theorem dJa_fill_2 : decode bJa_fill 2 = .ok (.aload_n 0, 1) := by decide +kernel
theorem dJa_fill_3 : decode bJa_fill 3 = .ok (.arraylength, 1) := by decide +kernel
theorem dJa_fill_4 : decode bJa_fill 4 = .ok (.istore_n 3, 1) := by decide +kernel
theorem dJa_fill_5 : decode bJa_fill 5 = .ok (.iload_n 2, 1) := by decide +kernel
theorem dJa_fill_6 : decode bJa_fill 6 = .ok (.iload_n 3, 1) := by decide +kernel
theorem dJa_fill_7 : decode bJa_fill 7 = .ok (.if_icmp .ge 13, 3) := by decide +kernel
theorem dJa_fill_10 : decode bJa_fill 10 = .ok (.aload_n 0, 1) := by decide +kernel
theorem dJa_fill_11 : decode bJa_fill 11 = .ok (.iload_n 2, 1) := by decide +kernel
theorem dJa_fill_12 : decode bJa_fill 12 = .ok (.iload_n 1, 1) := by decide +kernel
theorem dJa_fill_13 : decode bJa_fill 13 = .ok (.iastore, 1) := by decide +kernel
theorem dJa_fill_14 : decode bJa_fill 14 = .ok (.iinc 2 1, 3) := by decide +kernel
theorem dJa_fill_17 : decode bJa_fill 17 = .ok (.goto (-12), 3) := by decide +kernel
theorem dJa_fill_20 : decode bJa_fill 20 = .ok (.return_, 1) := by decide +kernel
