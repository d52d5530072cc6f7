theorem dS_init_0 : decode bS_init 0 = .ok (.aload_n 0, 1) := by decide +kernel
theorem dS_init_1 : decode bS_init 1 = .ok (.invokespecial 1, 3) := by decide +kernel
theorem dS_init_4 : decode bS_init 4 = .ok (.aload_n 0, 1) := by decide +kernel
theorem dS_init_5 : decode bS_init 5 = .ok (.new 7, 3) := by decide +kernel
theorem dS_init_8 : decode bS_init 8 = .ok (.dup, 1) := by decide +kernel
theorem dS_init_9 : decode bS_init 9 = .ok (.invokespecial 9, 3) := by decide +kernel
theorem dS_init_12 : decode bS_init 12 = .ok (.putfield 10, 3) := by decide +kernel
theorem dS_init_15 : decode bS_init 15 = .ok (.aload_n 0, 1) := by decide +kernel
theorem dS_init_16 : decode bS_init 16 = .ok (.new 16, 3) := by decide +kernel
theorem dS_init_19 : decode bS_init 19 = .ok (.dup, 1) := by decide +kernel
theorem dS_init_20 : decode bS_init 20 = .ok (.invokespecial 18, 3) := by decide +kernel
theorem dS_init_23 : decode bS_init 23 = .ok (.putfield 19, 3) := by decide +kernel
theorem dS_init_26 : decode bS_init 26 = .ok (.aload_n 0, 1) := by decide +kernel
theorem dS_init_27 : decode bS_init 27 = .ok (.new 23, 3) := by decide +kernel
theorem dS_init_30 : decode bS_init 30 = .ok (.dup, 1) := by decide +kernel
theorem dS_init_31 : decode bS_init 31 = .ok (.aload_n 0, 1) := by decide +kernel
theorem dS_init_32 : decode bS_init 32 = .ok (.getfield 10, 3) := by decide +kernel
theorem dS_init_35 : decode bS_init 35 = .ok (.aload_n 0, 1) := by decide +kernel
theorem dS_init_36 : decode bS_init 36 = .ok (.getfield 19, 3) := by decide +kernel
theorem dS_init_39 : decode bS_init 39 = .ok (.invokespecial 25, 3) := by decide +kernel
theorem dS_init_42 : decode bS_init 42 = .ok (.putfield 28, 3) := by decide +kernel
theorem dS_init_45 : decode bS_init 45 = .ok (.aload_n 0, 1) := by decide +kernel
theorem dS_init_46 : decode bS_init 46 = .ok (.bipush 100, 2) := by decide +kernel
theorem dS_init_48 : decode bS_init 48 = .ok (.newarray .int, 2) := by decide +kernel
theorem dS_init_50 : decode bS_init 50 = .ok (.putfield 32, 3) := by decide +kernel
theorem dS_init_53 : decode bS_init 53 = .ok (.aload_n 0, 1) := by decide +kernel
theorem dS_init_54 : decode bS_init 54 = .ok (.iconst 0, 1) := by decide +kernel
theorem dS_init_55 : decode bS_init 55 = .ok (.putfield 36, 3) := by decide +kernel
theorem dS_init_58 : decode bS_init 58 = .ok (.return_, 1) := by decide +kernel
theorem dS_name_0 : decode bS_name 0 = .ok (.aload_n 0, 1) := by decide +kernel
theorem dS_name_1 : decode bS_name 1 = .ok (.getfield 10, 3) := by decide +kernel
theorem dS_name_4 : decode bS_name 4 = .ok (.iconst 1, 1) := by decide +kernel
theorem dS_name_5 : decode bS_name 5 = .ok (.iconst (-1), 1) := by decide +kernel
theorem dS_name_6 : decode bS_name 6 = .ok (.iconst (-1), 1) := by decide +kernel
theorem dS_name_7 : decode bS_name 7 = .ok (.invokevirtual 40, 3) := by decide +kernel
theorem dS_name_10 : decode bS_name 10 = .ok (.ireturn, 1) := by decide +kernel
theorem dS_both_0 : decode bS_both 0 = .ok (.aload_n 0, 1) := by decide +kernel
theorem dS_both_1 : decode bS_both 1 = .ok (.iload_n 1, 1) := by decide +kernel
theorem dS_both_2 : decode bS_both 2 = .ok (.invokevirtual 44, 3) := by decide +kernel
theorem dS_both_5 : decode bS_both 5 = .ok (.aload_n 0, 1) := by decide +kernel
theorem dS_both_6 : decode bS_both 6 = .ok (.iload_n 2, 1) := by decide +kernel
theorem dS_both_7 : decode bS_both 7 = .ok (.invokevirtual 44, 3) := by decide +kernel
theorem dS_both_10 : decode bS_both 10 = .ok (.aload_n 0, 1) := by decide +kernel
theorem dS_both_11 : decode bS_both 11 = .ok (.getfield 10, 3) := by decide +kernel
theorem dS_both_14 : decode bS_both 14 = .ok (.iload_n 1, 1) := by decide +kernel
theorem dS_both_15 : decode bS_both 15 = .ok (.iload_n 2, 1) := by decide +kernel
theorem dS_both_16 : decode bS_both 16 = .ok (.invokevirtual 48, 3) := by decide +kernel
theorem dS_both_19 : decode bS_both 19 = .ok (.istore_n 3, 1) := by decide +kernel
theorem dS_both_20 : decode bS_both 20 = .ok (.iload_n 3, 1) := by decide +kernel
theorem dS_both_21 : decode bS_both 21 = .ok (.iconst (-1), 1) := by decide +kernel
theorem dS_both_22 : decode bS_both 22 = .ok (.if_icmp .eq 7, 3) := by decide +kernel
theorem dS_both_25 : decode bS_both 25 = .ok (.iload_n 3, 1) := by decide +kernel
theorem dS_both_26 : decode bS_both 26 = .ok (.goto 13, 3) := by decide +kernel
theorem dS_both_29 : decode bS_both 29 = .ok (.aload_n 0, 1) := by decide +kernel
theorem dS_both_30 : decode bS_both 30 = .ok (.getfield 10, 3) := by decide +kernel
theorem dS_both_33 : decode bS_both 33 = .ok (.iconst 2, 1) := by decide +kernel
theorem dS_both_34 : decode bS_both 34 = .ok (.iload_n 1, 1) := by decide +kernel
theorem dS_both_35 : decode bS_both 35 = .ok (.iload_n 2, 1) := by decide +kernel
theorem dS_both_36 : decode bS_both 36 = .ok (.invokevirtual 40, 3) := by decide +kernel
theorem dS_both_39 : decode bS_both 39 = .ok (.ireturn, 1) := by decide +kernel
theorem dS_some_0 : decode bS_some 0 = .ok (.iload_n 1, 1) := by decide +kernel
theorem dS_some_1 : decode bS_some 1 = .ok (.invokestatic 52, 3) := by decide +kernel
theorem dS_some_4 : decode bS_some 4 = .ok (.aload_n 0, 1) := by decide +kernel
theorem dS_some_5 : decode bS_some 5 = .ok (.iload_n 2, 1) := by decide +kernel
theorem dS_some_6 : decode bS_some 6 = .ok (.invokevirtual 44, 3) := by decide +kernel
theorem dS_some_9 : decode bS_some 9 = .ok (.aload_n 0, 1) := by decide +kernel
theorem dS_some_10 : decode bS_some 10 = .ok (.getfield 10, 3) := by decide +kernel
theorem dS_some_13 : decode bS_some 13 = .ok (.iload_n 1, 1) := by decide +kernel
theorem dS_some_14 : decode bS_some 14 = .ok (.iload_n 2, 1) := by decide +kernel
theorem dS_some_15 : decode bS_some 15 = .ok (.invokevirtual 55, 3) := by decide +kernel
theorem dS_some_18 : decode bS_some 18 = .ok (.istore_n 3, 1) := by decide +kernel
theorem dS_some_19 : decode bS_some 19 = .ok (.iload_n 3, 1) := by decide +kernel
theorem dS_some_20 : decode bS_some 20 = .ok (.iconst (-1), 1) := by decide +kernel
theorem dS_some_21 : decode bS_some 21 = .ok (.if_icmp .eq 7, 3) := by decide +kernel
theorem dS_some_24 : decode bS_some 24 = .ok (.iload_n 3, 1) := by decide +kernel
theorem dS_some_25 : decode bS_some 25 = .ok (.goto 13, 3) := by decide +kernel
theorem dS_some_28 : decode bS_some 28 = .ok (.aload_n 0, 1) := by decide +kernel
theorem dS_some_29 : decode bS_some 29 = .ok (.getfield 10, 3) := by decide +kernel
theorem dS_some_32 : decode bS_some 32 = .ok (.iconst 3, 1) := by decide +kernel
theorem dS_some_33 : decode bS_some 33 = .ok (.iload_n 1, 1) := by decide +kernel
theorem dS_some_34 : decode bS_some 34 = .ok (.iload_n 2, 1) := by decide +kernel
theorem dS_some_35 : decode bS_some 35 = .ok (.invokevirtual 40, 3) := by decide +kernel
theorem dS_some_38 : decode bS_some 38 = .ok (.ireturn, 1) := by decide +kernel
theorem dS_below_0 : decode bS_below 0 = .ok (.aload_n 0, 1) := by decide +kernel
theorem dS_below_1 : decode bS_below 1 = .ok (.iload_n 1, 1) := by decide +kernel
theorem dS_below_2 : decode bS_below 2 = .ok (.invokevirtual 44, 3) := by decide +kernel
theorem dS_below_5 : decode bS_below 5 = .ok (.aload_n 0, 1) := by decide +kernel
theorem dS_below_6 : decode bS_below 6 = .ok (.iload_n 2, 1) := by decide +kernel
theorem dS_below_7 : decode bS_below 7 = .ok (.invokevirtual 44, 3) := by decide +kernel
theorem dS_below_10 : decode bS_below 10 = .ok (.aload_n 0, 1) := by decide +kernel
theorem dS_below_11 : decode bS_below 11 = .ok (.getfield 19, 3) := by decide +kernel
theorem dS_below_14 : decode bS_below 14 = .ok (.iconst 0, 1) := by decide +kernel
theorem dS_below_15 : decode bS_below 15 = .ok (.iload_n 1, 1) := by decide +kernel
theorem dS_below_16 : decode bS_below 16 = .ok (.iload_n 2, 1) := by decide +kernel
theorem dS_below_17 : decode bS_below 17 = .ok (.iconst (-1), 1) := by decide +kernel
theorem dS_below_18 : decode bS_below 18 = .ok (.invokevirtual 58, 3) := by decide +kernel
theorem dS_below_21 : decode bS_below 21 = .ok (.ireturn, 1) := by decide +kernel
theorem dS_equal_0 : decode bS_equal 0 = .ok (.aload_n 0, 1) := by decide +kernel
theorem dS_equal_1 : decode bS_equal 1 = .ok (.iload_n 1, 1) := by decide +kernel
theorem dS_equal_2 : decode bS_equal 2 = .ok (.invokevirtual 44, 3) := by decide +kernel
theorem dS_equal_5 : decode bS_equal 5 = .ok (.aload_n 0, 1) := by decide +kernel
theorem dS_equal_6 : decode bS_equal 6 = .ok (.iload_n 2, 1) := by decide +kernel
theorem dS_equal_7 : decode bS_equal 7 = .ok (.invokevirtual 44, 3) := by decide +kernel
theorem dS_equal_10 : decode bS_equal 10 = .ok (.aload_n 0, 1) := by decide +kernel
theorem dS_equal_11 : decode bS_equal 11 = .ok (.getfield 19, 3) := by decide +kernel
theorem dS_equal_14 : decode bS_equal 14 = .ok (.iconst 1, 1) := by decide +kernel
theorem dS_equal_15 : decode bS_equal 15 = .ok (.iload_n 1, 1) := by decide +kernel
theorem dS_equal_16 : decode bS_equal 16 = .ok (.iload_n 2, 1) := by decide +kernel
theorem dS_equal_17 : decode bS_equal 17 = .ok (.iconst (-1), 1) := by decide +kernel
theorem dS_equal_18 : decode bS_equal 18 = .ok (.invokevirtual 58, 3) := by decide +kernel
theorem dS_equal_21 : decode bS_equal 21 = .ok (.ireturn, 1) := by decide +kernel
theorem dS_roleBelow_0 : decode bS_roleBelow 0 = .ok (.iload_n 1, 1) := by decide +kernel
theorem dS_roleBelow_1 : decode bS_roleBelow 1 = .ok (.invokestatic 52, 3) := by decide +kernel
theorem dS_roleBelow_4 : decode bS_roleBelow 4 = .ok (.iload_n 2, 1) := by decide +kernel
theorem dS_roleBelow_5 : decode bS_roleBelow 5 = .ok (.invokestatic 52, 3) := by decide +kernel
theorem dS_roleBelow_8 : decode bS_roleBelow 8 = .ok (.aload_n 0, 1) := by decide +kernel
theorem dS_roleBelow_9 : decode bS_roleBelow 9 = .ok (.getfield 19, 3) := by decide +kernel
theorem dS_roleBelow_12 : decode bS_roleBelow 12 = .ok (.iconst 2, 1) := by decide +kernel
theorem dS_roleBelow_13 : decode bS_roleBelow 13 = .ok (.iload_n 1, 1) := by decide +kernel
theorem dS_roleBelow_14 : decode bS_roleBelow 14 = .ok (.iload_n 2, 1) := by decide +kernel
theorem dS_roleBelow_15 : decode bS_roleBelow 15 = .ok (.iconst (-1), 1) := by decide +kernel
theorem dS_roleBelow_16 : decode bS_roleBelow 16 = .ok (.invokevirtual 58, 3) := by decide +kernel
theorem dS_roleBelow_19 : decode bS_roleBelow 19 = .ok (.ireturn, 1) := by decide +kernel
theorem dS_chain_0 : decode bS_chain 0 = .ok (.iload_n 1, 1) := by decide +kernel
theorem dS_chain_1 : decode bS_chain 1 = .ok (.invokestatic 52, 3) := by decide +kernel
theorem dS_chain_4 : decode bS_chain 4 = .ok (.iload_n 2, 1) := by decide +kernel
theorem dS_chain_5 : decode bS_chain 5 = .ok (.invokestatic 52, 3) := by decide +kernel
theorem dS_chain_8 : decode bS_chain 8 = .ok (.iload_n 3, 1) := by decide +kernel
theorem dS_chain_9 : decode bS_chain 9 = .ok (.invokestatic 52, 3) := by decide +kernel
theorem dS_chain_12 : decode bS_chain 12 = .ok (.aload_n 0, 1) := by decide +kernel
theorem dS_chain_13 : decode bS_chain 13 = .ok (.getfield 19, 3) := by decide +kernel
theorem dS_chain_16 : decode bS_chain 16 = .ok (.iconst 3, 1) := by decide +kernel
theorem dS_chain_17 : decode bS_chain 17 = .ok (.iload_n 1, 1) := by decide +kernel
theorem dS_chain_18 : decode bS_chain 18 = .ok (.iload_n 2, 1) := by decide +kernel
theorem dS_chain_19 : decode bS_chain 19 = .ok (.iload_n 3, 1) := by decide +kernel
theorem dS_chain_20 : decode bS_chain 20 = .ok (.invokevirtual 58, 3) := by decide +kernel
theorem dS_chain_23 : decode bS_chain 23 = .ok (.ireturn, 1) := by decide +kernel
theorem dS_retract_0 : decode bS_retract 0 = .ok (.aload_n 0, 1) := by decide +kernel
theorem dS_retract_1 : decode bS_retract 1 = .ok (.getfield 19, 3) := by decide +kernel
theorem dS_retract_4 : decode bS_retract 4 = .ok (.iload_n 1, 1) := by decide +kernel
theorem dS_retract_5 : decode bS_retract 5 = .ok (.invokevirtual 62, 3) := by decide +kernel
theorem dS_retract_8 : decode bS_retract 8 = .ok (.ifCond .ne 5, 3) := by decide +kernel
theorem dS_retract_11 : decode bS_retract 11 = .ok (.iconst 0, 1) := by decide +kernel
theorem dS_retract_12 : decode bS_retract 12 = .ok (.ireturn, 1) := by decide +kernel
theorem dS_retract_13 : decode bS_retract 13 = .ok (.aload_n 0, 1) := by decide +kernel
theorem dS_retract_14 : decode bS_retract 14 = .ok (.getfield 19, 3) := by decide +kernel
theorem dS_retract_17 : decode bS_retract 17 = .ok (.iload_n 1, 1) := by decide +kernel
theorem dS_retract_18 : decode bS_retract 18 = .ok (.invokevirtual 66, 3) := by decide +kernel
theorem dS_retract_21 : decode bS_retract 21 = .ok (.aload_n 0, 1) := by decide +kernel
theorem dS_retract_22 : decode bS_retract 22 = .ok (.getfield 28, 3) := by decide +kernel
theorem dS_retract_25 : decode bS_retract 25 = .ok (.invokevirtual 69, 3) := by decide +kernel
theorem dS_retract_28 : decode bS_retract 28 = .ok (.iconst 1, 1) := by decide +kernel
theorem dS_retract_29 : decode bS_retract 29 = .ok (.ireturn, 1) := by decide +kernel
theorem dS_isBelow_0 : decode bS_isBelow 0 = .ok (.aload_n 0, 1) := by decide +kernel
theorem dS_isBelow_1 : decode bS_isBelow 1 = .ok (.iload_n 1, 1) := by decide +kernel
theorem dS_isBelow_2 : decode bS_isBelow 2 = .ok (.invokevirtual 44, 3) := by decide +kernel
theorem dS_isBelow_5 : decode bS_isBelow 5 = .ok (.aload_n 0, 1) := by decide +kernel
theorem dS_isBelow_6 : decode bS_isBelow 6 = .ok (.iload_n 2, 1) := by decide +kernel
theorem dS_isBelow_7 : decode bS_isBelow 7 = .ok (.invokevirtual 44, 3) := by decide +kernel
theorem dS_isBelow_10 : decode bS_isBelow 10 = .ok (.aload_n 0, 1) := by decide +kernel
theorem dS_isBelow_11 : decode bS_isBelow 11 = .ok (.getfield 28, 3) := by decide +kernel
theorem dS_isBelow_14 : decode bS_isBelow 14 = .ok (.iload_n 1, 1) := by decide +kernel
theorem dS_isBelow_15 : decode bS_isBelow 15 = .ok (.invokevirtual 72, 3) := by decide +kernel
theorem dS_isBelow_18 : decode bS_isBelow 18 = .ok (.aload_n 0, 1) := by decide +kernel
theorem dS_isBelow_19 : decode bS_isBelow 19 = .ok (.getfield 28, 3) := by decide +kernel
theorem dS_isBelow_22 : decode bS_isBelow 22 = .ok (.iload_n 1, 1) := by decide +kernel
theorem dS_isBelow_23 : decode bS_isBelow 23 = .ok (.iload_n 2, 1) := by decide +kernel
theorem dS_isBelow_24 : decode bS_isBelow 24 = .ok (.invokevirtual 75, 3) := by decide +kernel
theorem dS_isBelow_27 : decode bS_isBelow 27 = .ok (.ireturn, 1) := by decide +kernel
theorem dS_supers_0 : decode bS_supers 0 = .ok (.aload_n 0, 1) := by decide +kernel
theorem dS_supers_1 : decode bS_supers 1 = .ok (.iload_n 1, 1) := by decide +kernel
theorem dS_supers_2 : decode bS_supers 2 = .ok (.invokevirtual 44, 3) := by decide +kernel
theorem dS_supers_5 : decode bS_supers 5 = .ok (.aload_n 0, 1) := by decide +kernel
theorem dS_supers_6 : decode bS_supers 6 = .ok (.getfield 28, 3) := by decide +kernel
theorem dS_supers_9 : decode bS_supers 9 = .ok (.iload_n 1, 1) := by decide +kernel
theorem dS_supers_10 : decode bS_supers 10 = .ok (.invokevirtual 72, 3) := by decide +kernel
theorem dS_supers_13 : decode bS_supers 13 = .ok (.iconst 0, 1) := by decide +kernel
theorem dS_supers_14 : decode bS_supers 14 = .ok (.istore_n 2, 1) := by decide +kernel
theorem dS_supers_15 : decode bS_supers 15 = .ok (.iconst 0, 1) := by decide +kernel
theorem dS_supers_16 : decode bS_supers 16 = .ok (.istore_n 3, 1) := by decide +kernel
theorem dS_supers_17 : decode bS_supers 17 = .ok (.iload_n 3, 1) := by decide +kernel
theorem dS_supers_18 : decode bS_supers 18 = .ok (.aload_n 0, 1) := by decide +kernel
theorem dS_supers_19 : decode bS_supers 19 = .ok (.getfield 10, 3) := by decide +kernel
theorem dS_supers_22 : decode bS_supers 22 = .ok (.invokevirtual 79, 3) := by decide +kernel
theorem dS_supers_25 : decode bS_supers 25 = .ok (.if_icmp .ge 21, 3) := by decide +kernel
theorem dS_supers_28 : decode bS_supers 28 = .ok (.aload_n 0, 1) := by decide +kernel
theorem dS_supers_29 : decode bS_supers 29 = .ok (.iload_n 1, 1) := by decide +kernel
theorem dS_supers_30 : decode bS_supers 30 = .ok (.iload_n 3, 1) := by decide +kernel
theorem dS_supers_31 : decode bS_supers 31 = .ok (.invokevirtual 83, 3) := by decide +kernel
theorem dS_supers_34 : decode bS_supers 34 = .ok (.ifCond .eq 6, 3) := by decide +kernel
theorem dS_supers_37 : decode bS_supers 37 = .ok (.iinc 2 1, 3) := by decide +kernel
theorem dS_supers_40 : decode bS_supers 40 = .ok (.iinc 3 1, 3) := by decide +kernel
theorem dS_supers_43 : decode bS_supers 43 = .ok (.goto (-26), 3) := by decide +kernel
theorem dS_supers_46 : decode bS_supers 46 = .ok (.iload_n 2, 1) := by decide +kernel
theorem dS_supers_47 : decode bS_supers 47 = .ok (.ireturn, 1) := by decide +kernel
theorem dS_sup_0 : decode bS_sup 0 = .ok (.aload_n 0, 1) := by decide +kernel
theorem dS_sup_1 : decode bS_sup 1 = .ok (.iload_n 1, 1) := by decide +kernel
theorem dS_sup_2 : decode bS_sup 2 = .ok (.invokevirtual 44, 3) := by decide +kernel
theorem dS_sup_5 : decode bS_sup 5 = .ok (.aload_n 0, 1) := by decide +kernel
theorem dS_sup_6 : decode bS_sup 6 = .ok (.getfield 28, 3) := by decide +kernel
theorem dS_sup_9 : decode bS_sup 9 = .ok (.iload_n 1, 1) := by decide +kernel
theorem dS_sup_10 : decode bS_sup 10 = .ok (.invokevirtual 72, 3) := by decide +kernel
theorem dS_sup_13 : decode bS_sup 13 = .ok (.iconst 0, 1) := by decide +kernel
theorem dS_sup_14 : decode bS_sup 14 = .ok (.istore_n 3, 1) := by decide +kernel
theorem dS_sup_15 : decode bS_sup 15 = .ok (.iconst 0, 1) := by decide +kernel
theorem dS_sup_16 : decode bS_sup 16 = .ok (.istore 4, 2) := by decide +kernel
theorem dS_sup_18 : decode bS_sup 18 = .ok (.iload 4, 2) := by decide +kernel
theorem dS_sup_20 : decode bS_sup 20 = .ok (.aload_n 0, 1) := by decide +kernel
theorem dS_sup_21 : decode bS_sup 21 = .ok (.getfield 10, 3) := by decide +kernel
theorem dS_sup_24 : decode bS_sup 24 = .ok (.invokevirtual 79, 3) := by decide +kernel
theorem dS_sup_27 : decode bS_sup 27 = .ok (.if_icmp .ge 30, 3) := by decide +kernel
theorem dS_sup_30 : decode bS_sup 30 = .ok (.aload_n 0, 1) := by decide +kernel
theorem dS_sup_31 : decode bS_sup 31 = .ok (.iload_n 1, 1) := by decide +kernel
theorem dS_sup_32 : decode bS_sup 32 = .ok (.iload 4, 2) := by decide +kernel
theorem dS_sup_34 : decode bS_sup 34 = .ok (.invokevirtual 83, 3) := by decide +kernel
theorem dS_sup_37 : decode bS_sup 37 = .ok (.ifCond .eq 14, 3) := by decide +kernel
theorem dS_sup_40 : decode bS_sup 40 = .ok (.iload_n 3, 1) := by decide +kernel
theorem dS_sup_41 : decode bS_sup 41 = .ok (.iload_n 2, 1) := by decide +kernel
theorem dS_sup_42 : decode bS_sup 42 = .ok (.if_icmp .ne 6, 3) := by decide +kernel
theorem dS_sup_45 : decode bS_sup 45 = .ok (.iload 4, 2) := by decide +kernel
theorem dS_sup_47 : decode bS_sup 47 = .ok (.ireturn, 1) := by decide +kernel
theorem dS_sup_48 : decode bS_sup 48 = .ok (.iinc 3 1, 3) := by decide +kernel
theorem dS_sup_51 : decode bS_sup 51 = .ok (.iinc 4 1, 3) := by decide +kernel
theorem dS_sup_54 : decode bS_sup 54 = .ok (.goto (-36), 3) := by decide +kernel
theorem dS_sup_57 : decode bS_sup 57 = .ok (.iconst (-1), 1) := by decide +kernel
theorem dS_sup_58 : decode bS_sup 58 = .ok (.ireturn, 1) := by decide +kernel
theorem dS_direct_0 : decode bS_direct 0 = .ok (.aload_n 0, 1) := by decide +kernel
theorem dS_direct_1 : decode bS_direct 1 = .ok (.iload_n 1, 1) := by decide +kernel
theorem dS_direct_2 : decode bS_direct 2 = .ok (.invokevirtual 44, 3) := by decide +kernel
theorem dS_direct_5 : decode bS_direct 5 = .ok (.aload_n 0, 1) := by decide +kernel
theorem dS_direct_6 : decode bS_direct 6 = .ok (.iload_n 2, 1) := by decide +kernel
theorem dS_direct_7 : decode bS_direct 7 = .ok (.invokevirtual 44, 3) := by decide +kernel
theorem dS_direct_10 : decode bS_direct 10 = .ok (.aload_n 0, 1) := by decide +kernel
theorem dS_direct_11 : decode bS_direct 11 = .ok (.getfield 28, 3) := by decide +kernel
theorem dS_direct_14 : decode bS_direct 14 = .ok (.iload_n 1, 1) := by decide +kernel
theorem dS_direct_15 : decode bS_direct 15 = .ok (.invokevirtual 86, 3) := by decide +kernel
theorem dS_direct_18 : decode bS_direct 18 = .ok (.aload_n 0, 1) := by decide +kernel
theorem dS_direct_19 : decode bS_direct 19 = .ok (.iload_n 1, 1) := by decide +kernel
theorem dS_direct_20 : decode bS_direct 20 = .ok (.iload_n 2, 1) := by decide +kernel
theorem dS_direct_21 : decode bS_direct 21 = .ok (.invokevirtual 89, 3) := by decide +kernel
theorem dS_direct_24 : decode bS_direct 24 = .ok (.ifCond .ne 5, 3) := by decide +kernel
theorem dS_direct_27 : decode bS_direct 27 = .ok (.iconst 0, 1) := by decide +kernel
theorem dS_direct_28 : decode bS_direct 28 = .ok (.ireturn, 1) := by decide +kernel
theorem dS_direct_29 : decode bS_direct 29 = .ok (.iconst 0, 1) := by decide +kernel
theorem dS_direct_30 : decode bS_direct 30 = .ok (.istore_n 3, 1) := by decide +kernel
theorem dS_direct_31 : decode bS_direct 31 = .ok (.iload_n 3, 1) := by decide +kernel
theorem dS_direct_32 : decode bS_direct 32 = .ok (.aload_n 0, 1) := by decide +kernel
theorem dS_direct_33 : decode bS_direct 33 = .ok (.getfield 10, 3) := by decide +kernel
theorem dS_direct_36 : decode bS_direct 36 = .ok (.invokevirtual 79, 3) := by decide +kernel
theorem dS_direct_39 : decode bS_direct 39 = .ok (.if_icmp .ge 29, 3) := by decide +kernel
theorem dS_direct_42 : decode bS_direct 42 = .ok (.aload_n 0, 1) := by decide +kernel
theorem dS_direct_43 : decode bS_direct 43 = .ok (.iload_n 1, 1) := by decide +kernel
theorem dS_direct_44 : decode bS_direct 44 = .ok (.iload_n 3, 1) := by decide +kernel
theorem dS_direct_45 : decode bS_direct 45 = .ok (.invokevirtual 89, 3) := by decide +kernel
theorem dS_direct_48 : decode bS_direct 48 = .ok (.ifCond .eq 14, 3) := by decide +kernel
theorem dS_direct_51 : decode bS_direct 51 = .ok (.aload_n 0, 1) := by decide +kernel
theorem dS_direct_52 : decode bS_direct 52 = .ok (.iload_n 3, 1) := by decide +kernel
theorem dS_direct_53 : decode bS_direct 53 = .ok (.iload_n 2, 1) := by decide +kernel
theorem dS_direct_54 : decode bS_direct 54 = .ok (.invokevirtual 89, 3) := by decide +kernel
theorem dS_direct_57 : decode bS_direct 57 = .ok (.ifCond .eq 5, 3) := by decide +kernel
theorem dS_direct_60 : decode bS_direct 60 = .ok (.iconst 0, 1) := by decide +kernel
theorem dS_direct_61 : decode bS_direct 61 = .ok (.ireturn, 1) := by decide +kernel
theorem dS_direct_62 : decode bS_direct 62 = .ok (.iinc 3 1, 3) := by decide +kernel
theorem dS_direct_65 : decode bS_direct 65 = .ok (.goto (-34), 3) := by decide +kernel
theorem dS_direct_68 : decode bS_direct 68 = .ok (.iconst 1, 1) := by decide +kernel
theorem dS_direct_69 : decode bS_direct 69 = .ok (.ireturn, 1) := by decide +kernel
theorem dS_twin_0 : decode bS_twin 0 = .ok (.aload_n 0, 1) := by decide +kernel
theorem dS_twin_1 : decode bS_twin 1 = .ok (.iload_n 1, 1) := by decide +kernel
theorem dS_twin_2 : decode bS_twin 2 = .ok (.invokevirtual 44, 3) := by decide +kernel
theorem dS_twin_5 : decode bS_twin 5 = .ok (.aload_n 0, 1) := by decide +kernel
theorem dS_twin_6 : decode bS_twin 6 = .ok (.getfield 28, 3) := by decide +kernel
theorem dS_twin_9 : decode bS_twin 9 = .ok (.iload_n 1, 1) := by decide +kernel
theorem dS_twin_10 : decode bS_twin 10 = .ok (.invokevirtual 86, 3) := by decide +kernel
theorem dS_twin_13 : decode bS_twin 13 = .ok (.aload_n 0, 1) := by decide +kernel
theorem dS_twin_14 : decode bS_twin 14 = .ok (.iload_n 1, 1) := by decide +kernel
theorem dS_twin_15 : decode bS_twin 15 = .ok (.invokevirtual 92, 3) := by decide +kernel
theorem dS_twin_18 : decode bS_twin 18 = .ok (.ireturn, 1) := by decide +kernel
theorem dS_common_0 : decode bS_common 0 = .ok (.aload_n 0, 1) := by decide +kernel
theorem dS_common_1 : decode bS_common 1 = .ok (.iload_n 1, 1) := by decide +kernel
theorem dS_common_2 : decode bS_common 2 = .ok (.invokevirtual 44, 3) := by decide +kernel
theorem dS_common_5 : decode bS_common 5 = .ok (.aload_n 0, 1) := by decide +kernel
theorem dS_common_6 : decode bS_common 6 = .ok (.iload_n 2, 1) := by decide +kernel
theorem dS_common_7 : decode bS_common 7 = .ok (.invokevirtual 44, 3) := by decide +kernel
theorem dS_common_10 : decode bS_common 10 = .ok (.aload_n 0, 1) := by decide +kernel
theorem dS_common_11 : decode bS_common 11 = .ok (.getfield 28, 3) := by decide +kernel
theorem dS_common_14 : decode bS_common 14 = .ok (.iload_n 1, 1) := by decide +kernel
theorem dS_common_15 : decode bS_common 15 = .ok (.invokevirtual 86, 3) := by decide +kernel
theorem dS_common_18 : decode bS_common 18 = .ok (.aload_n 0, 1) := by decide +kernel
theorem dS_common_19 : decode bS_common 19 = .ok (.getfield 28, 3) := by decide +kernel
theorem dS_common_22 : decode bS_common 22 = .ok (.iload_n 2, 1) := by decide +kernel
theorem dS_common_23 : decode bS_common 23 = .ok (.invokevirtual 72, 3) := by decide +kernel
theorem dS_common_26 : decode bS_common 26 = .ok (.iconst 0, 1) := by decide +kernel
theorem dS_common_27 : decode bS_common 27 = .ok (.istore 4, 2) := by decide +kernel
theorem dS_common_29 : decode bS_common 29 = .ok (.iconst 0, 1) := by decide +kernel
theorem dS_common_30 : decode bS_common 30 = .ok (.istore 5, 2) := by decide +kernel
theorem dS_common_32 : decode bS_common 32 = .ok (.iload 5, 2) := by decide +kernel
theorem dS_common_34 : decode bS_common 34 = .ok (.aload_n 0, 1) := by decide +kernel
theorem dS_common_35 : decode bS_common 35 = .ok (.getfield 10, 3) := by decide +kernel
theorem dS_common_38 : decode bS_common 38 = .ok (.invokevirtual 79, 3) := by decide +kernel
theorem dS_common_41 : decode bS_common 41 = .ok (.if_icmp .ge 43, 3) := by decide +kernel
theorem dS_common_44 : decode bS_common 44 = .ok (.aload_n 0, 1) := by decide +kernel
theorem dS_common_45 : decode bS_common 45 = .ok (.iload_n 1, 1) := by decide +kernel
theorem dS_common_46 : decode bS_common 46 = .ok (.iload_n 2, 1) := by decide +kernel
theorem dS_common_47 : decode bS_common 47 = .ok (.iload 5, 2) := by decide +kernel
theorem dS_common_49 : decode bS_common 49 = .ok (.invokevirtual 96, 3) := by decide +kernel
theorem dS_common_52 : decode bS_common 52 = .ok (.ifCond .eq 26, 3) := by decide +kernel
theorem dS_common_55 : decode bS_common 55 = .ok (.aload_n 0, 1) := by decide +kernel
theorem dS_common_56 : decode bS_common 56 = .ok (.iload_n 1, 1) := by decide +kernel
theorem dS_common_57 : decode bS_common 57 = .ok (.iload_n 2, 1) := by decide +kernel
theorem dS_common_58 : decode bS_common 58 = .ok (.iload 5, 2) := by decide +kernel
theorem dS_common_60 : decode bS_common 60 = .ok (.invokevirtual 100, 3) := by decide +kernel
theorem dS_common_63 : decode bS_common 63 = .ok (.ifCond .eq 15, 3) := by decide +kernel
theorem dS_common_66 : decode bS_common 66 = .ok (.iload 4, 2) := by decide +kernel
theorem dS_common_68 : decode bS_common 68 = .ok (.iload_n 3, 1) := by decide +kernel
theorem dS_common_69 : decode bS_common 69 = .ok (.if_icmp .ne 6, 3) := by decide +kernel
theorem dS_common_72 : decode bS_common 72 = .ok (.iload 5, 2) := by decide +kernel
theorem dS_common_74 : decode bS_common 74 = .ok (.ireturn, 1) := by decide +kernel
theorem dS_common_75 : decode bS_common 75 = .ok (.iinc 4 1, 3) := by decide +kernel
theorem dS_common_78 : decode bS_common 78 = .ok (.iinc 5 1, 3) := by decide +kernel
theorem dS_common_81 : decode bS_common 81 = .ok (.goto (-49), 3) := by decide +kernel
theorem dS_common_84 : decode bS_common 84 = .ok (.iconst (-1), 1) := by decide +kernel
theorem dS_common_85 : decode bS_common 85 = .ok (.ireturn, 1) := by decide +kernel
theorem dS_why_0 : decode bS_why 0 = .ok (.aload_n 0, 1) := by decide +kernel
theorem dS_why_1 : decode bS_why 1 = .ok (.iload_n 1, 1) := by decide +kernel
theorem dS_why_2 : decode bS_why 2 = .ok (.invokevirtual 44, 3) := by decide +kernel
theorem dS_why_5 : decode bS_why 5 = .ok (.aload_n 0, 1) := by decide +kernel
theorem dS_why_6 : decode bS_why 6 = .ok (.iload_n 2, 1) := by decide +kernel
theorem dS_why_7 : decode bS_why 7 = .ok (.invokevirtual 44, 3) := by decide +kernel
theorem dS_why_10 : decode bS_why 10 = .ok (.aload_n 0, 1) := by decide +kernel
theorem dS_why_11 : decode bS_why 11 = .ok (.iconst 0, 1) := by decide +kernel
theorem dS_why_12 : decode bS_why 12 = .ok (.putfield 36, 3) := by decide +kernel
theorem dS_why_15 : decode bS_why 15 = .ok (.aload_n 0, 1) := by decide +kernel
theorem dS_why_16 : decode bS_why 16 = .ok (.getfield 28, 3) := by decide +kernel
theorem dS_why_19 : decode bS_why 19 = .ok (.iload_n 1, 1) := by decide +kernel
theorem dS_why_20 : decode bS_why 20 = .ok (.invokevirtual 72, 3) := by decide +kernel
theorem dS_why_23 : decode bS_why 23 = .ok (.aload_n 0, 1) := by decide +kernel
theorem dS_why_24 : decode bS_why 24 = .ok (.getfield 28, 3) := by decide +kernel
theorem dS_why_27 : decode bS_why 27 = .ok (.iload_n 1, 1) := by decide +kernel
theorem dS_why_28 : decode bS_why 28 = .ok (.iload_n 2, 1) := by decide +kernel
theorem dS_why_29 : decode bS_why 29 = .ok (.invokevirtual 75, 3) := by decide +kernel
theorem dS_why_32 : decode bS_why 32 = .ok (.ifCond .ne 5, 3) := by decide +kernel
theorem dS_why_35 : decode bS_why 35 = .ok (.iconst (-1), 1) := by decide +kernel
theorem dS_why_36 : decode bS_why 36 = .ok (.ireturn, 1) := by decide +kernel
theorem dS_why_37 : decode bS_why 37 = .ok (.aload_n 0, 1) := by decide +kernel
theorem dS_why_38 : decode bS_why 38 = .ok (.getfield 19, 3) := by decide +kernel
theorem dS_why_41 : decode bS_why 41 = .ok (.invokevirtual 103, 3) := by decide +kernel
theorem dS_why_44 : decode bS_why 44 = .ok (.iconst 1, 1) := by decide +kernel
theorem dS_why_45 : decode bS_why 45 = .ok (.iadd, 1) := by decide +kernel
theorem dS_why_46 : decode bS_why 46 = .ok (.istore_n 3, 1) := by decide +kernel
theorem dS_why_47 : decode bS_why 47 = .ok (.iconst 0, 1) := by decide +kernel
theorem dS_why_48 : decode bS_why 48 = .ok (.istore 4, 2) := by decide +kernel
theorem dS_why_50 : decode bS_why 50 = .ok (.iload 4, 2) := by decide +kernel
theorem dS_why_52 : decode bS_why 52 = .ok (.bipush 100, 2) := by decide +kernel
theorem dS_why_54 : decode bS_why 54 = .ok (.if_icmp .ge 47, 3) := by decide +kernel
theorem dS_why_57 : decode bS_why 57 = .ok (.iload_n 3, 1) := by decide +kernel
theorem dS_why_58 : decode bS_why 58 = .ok (.iconst (-1), 1) := by decide +kernel
theorem dS_why_59 : decode bS_why 59 = .ok (.if_icmp .eq 42, 3) := by decide +kernel
theorem dS_why_62 : decode bS_why 62 = .ok (.aload_n 0, 1) := by decide +kernel
theorem dS_why_63 : decode bS_why 63 = .ok (.iload_n 3, 1) := by decide +kernel
theorem dS_why_64 : decode bS_why 64 = .ok (.iload_n 1, 1) := by decide +kernel
theorem dS_why_65 : decode bS_why 65 = .ok (.iload_n 2, 1) := by decide +kernel
theorem dS_why_66 : decode bS_why 66 = .ok (.invokevirtual 106, 3) := by decide +kernel
theorem dS_why_69 : decode bS_why 69 = .ok (.istore_n 3, 1) := by decide +kernel
theorem dS_why_70 : decode bS_why 70 = .ok (.iload_n 3, 1) := by decide +kernel
theorem dS_why_71 : decode bS_why 71 = .ok (.iconst (-1), 1) := by decide +kernel
theorem dS_why_72 : decode bS_why 72 = .ok (.if_icmp .eq 23, 3) := by decide +kernel
theorem dS_why_75 : decode bS_why 75 = .ok (.aload_n 0, 1) := by decide +kernel
theorem dS_why_76 : decode bS_why 76 = .ok (.getfield 32, 3) := by decide +kernel
theorem dS_why_79 : decode bS_why 79 = .ok (.aload_n 0, 1) := by decide +kernel
theorem dS_why_80 : decode bS_why 80 = .ok (.getfield 36, 3) := by decide +kernel
theorem dS_why_83 : decode bS_why 83 = .ok (.iload_n 3, 1) := by decide +kernel
theorem dS_why_84 : decode bS_why 84 = .ok (.iastore, 1) := by decide +kernel
theorem dS_why_85 : decode bS_why 85 = .ok (.aload_n 0, 1) := by decide +kernel
theorem dS_why_86 : decode bS_why 86 = .ok (.dup, 1) := by decide +kernel
theorem dS_why_87 : decode bS_why 87 = .ok (.getfield 36, 3) := by decide +kernel
theorem dS_why_90 : decode bS_why 90 = .ok (.iconst 1, 1) := by decide +kernel
theorem dS_why_91 : decode bS_why 91 = .ok (.iadd, 1) := by decide +kernel
theorem dS_why_92 : decode bS_why 92 = .ok (.putfield 36, 3) := by decide +kernel
theorem dS_why_95 : decode bS_why 95 = .ok (.iinc 4 1, 3) := by decide +kernel
theorem dS_why_98 : decode bS_why 98 = .ok (.goto (-48), 3) := by decide +kernel
theorem dS_why_101 : decode bS_why 101 = .ok (.aload_n 0, 1) := by decide +kernel
theorem dS_why_102 : decode bS_why 102 = .ok (.getfield 36, 3) := by decide +kernel
theorem dS_why_105 : decode bS_why 105 = .ok (.ireturn, 1) := by decide +kernel
theorem dS_reason_0 : decode bS_reason 0 = .ok (.iload_n 1, 1) := by decide +kernel
theorem dS_reason_1 : decode bS_reason 1 = .ok (.ifCond .lt 27, 3) := by decide +kernel
theorem dS_reason_4 : decode bS_reason 4 = .ok (.iload_n 1, 1) := by decide +kernel
theorem dS_reason_5 : decode bS_reason 5 = .ok (.aload_n 0, 1) := by decide +kernel
theorem dS_reason_6 : decode bS_reason 6 = .ok (.getfield 36, 3) := by decide +kernel
theorem dS_reason_9 : decode bS_reason 9 = .ok (.if_icmp .ge 19, 3) := by decide +kernel
theorem dS_reason_12 : decode bS_reason 12 = .ok (.aload_n 0, 1) := by decide +kernel
theorem dS_reason_13 : decode bS_reason 13 = .ok (.getfield 32, 3) := by decide +kernel
theorem dS_reason_16 : decode bS_reason 16 = .ok (.aload_n 0, 1) := by decide +kernel
theorem dS_reason_17 : decode bS_reason 17 = .ok (.getfield 36, 3) := by decide +kernel
theorem dS_reason_20 : decode bS_reason 20 = .ok (.iconst 1, 1) := by decide +kernel
theorem dS_reason_21 : decode bS_reason 21 = .ok (.isub, 1) := by decide +kernel
theorem dS_reason_22 : decode bS_reason 22 = .ok (.iload_n 1, 1) := by decide +kernel
theorem dS_reason_23 : decode bS_reason 23 = .ok (.isub, 1) := by decide +kernel
theorem dS_reason_24 : decode bS_reason 24 = .ok (.iaload, 1) := by decide +kernel
theorem dS_reason_25 : decode bS_reason 25 = .ok (.goto 4, 3) := by decide +kernel
theorem dS_reason_28 : decode bS_reason 28 = .ok (.iconst (-1), 1) := by decide +kernel
theorem dS_reason_29 : decode bS_reason 29 = .ok (.ireturn, 1) := by decide +kernel
theorem dS_has_0 : decode bS_has 0 = .ok (.aload_n 0, 1) := by decide +kernel
theorem dS_has_1 : decode bS_has 1 = .ok (.iload_n 1, 1) := by decide +kernel
theorem dS_has_2 : decode bS_has 2 = .ok (.invokevirtual 44, 3) := by decide +kernel
theorem dS_has_5 : decode bS_has 5 = .ok (.iload_n 2, 1) := by decide +kernel
theorem dS_has_6 : decode bS_has 6 = .ok (.invokestatic 52, 3) := by decide +kernel
theorem dS_has_9 : decode bS_has 9 = .ok (.aload_n 0, 1) := by decide +kernel
theorem dS_has_10 : decode bS_has 10 = .ok (.iload_n 3, 1) := by decide +kernel
theorem dS_has_11 : decode bS_has 11 = .ok (.invokevirtual 44, 3) := by decide +kernel
theorem dS_has_14 : decode bS_has 14 = .ok (.aload_n 0, 1) := by decide +kernel
theorem dS_has_15 : decode bS_has 15 = .ok (.getfield 28, 3) := by decide +kernel
theorem dS_has_18 : decode bS_has 18 = .ok (.iload_n 1, 1) := by decide +kernel
theorem dS_has_19 : decode bS_has 19 = .ok (.invokevirtual 72, 3) := by decide +kernel
theorem dS_has_22 : decode bS_has 22 = .ok (.aload_n 0, 1) := by decide +kernel
theorem dS_has_23 : decode bS_has 23 = .ok (.getfield 28, 3) := by decide +kernel
theorem dS_has_26 : decode bS_has 26 = .ok (.iload_n 1, 1) := by decide +kernel
theorem dS_has_27 : decode bS_has 27 = .ok (.iload_n 2, 1) := by decide +kernel
theorem dS_has_28 : decode bS_has 28 = .ok (.iload_n 3, 1) := by decide +kernel
theorem dS_has_29 : decode bS_has 29 = .ok (.invokevirtual 109, 3) := by decide +kernel
theorem dS_has_32 : decode bS_has 32 = .ok (.ireturn, 1) := by decide +kernel
theorem dS_count_0 : decode bS_count 0 = .ok (.iload_n 1, 1) := by decide +kernel
theorem dS_count_1 : decode bS_count 1 = .ok (.iconst 4, 1) := by decide +kernel
theorem dS_count_2 : decode bS_count 2 = .ok (.if_icmp .lt 16, 3) := by decide +kernel
theorem dS_count_5 : decode bS_count 5 = .ok (.iload_n 1, 1) := by decide +kernel
theorem dS_count_6 : decode bS_count 6 = .ok (.bipush 6, 2) := by decide +kernel
theorem dS_count_8 : decode bS_count 8 = .ok (.if_icmp .gt 10, 3) := by decide +kernel
theorem dS_count_11 : decode bS_count 11 = .ok (.aload_n 0, 1) := by decide +kernel
theorem dS_count_12 : decode bS_count 12 = .ok (.getfield 28, 3) := by decide +kernel
theorem dS_count_15 : decode bS_count 15 = .ok (.invokevirtual 112, 3) := by decide +kernel
theorem dS_count_18 : decode bS_count 18 = .ok (.iload_n 1, 1) := by decide +kernel
theorem dS_count_19 : decode bS_count 19 = .ok (.tableswitch 88 0 6 #[41, 49, 57, 65, 73, 78, 83], 41) := by decide +kernel
theorem dS_count_60 : decode bS_count 60 = .ok (.aload_n 0, 1) := by decide +kernel
theorem dS_count_61 : decode bS_count 61 = .ok (.getfield 10, 3) := by decide +kernel
theorem dS_count_64 : decode bS_count 64 = .ok (.invokevirtual 79, 3) := by decide +kernel
theorem dS_count_67 : decode bS_count 67 = .ok (.ireturn, 1) := by decide +kernel
theorem dS_count_68 : decode bS_count 68 = .ok (.aload_n 0, 1) := by decide +kernel
theorem dS_count_69 : decode bS_count 69 = .ok (.getfield 10, 3) := by decide +kernel
theorem dS_count_72 : decode bS_count 72 = .ok (.invokevirtual 115, 3) := by decide +kernel
theorem dS_count_75 : decode bS_count 75 = .ok (.ireturn, 1) := by decide +kernel
theorem dS_count_76 : decode bS_count 76 = .ok (.aload_n 0, 1) := by decide +kernel
theorem dS_count_77 : decode bS_count 77 = .ok (.getfield 19, 3) := by decide +kernel
theorem dS_count_80 : decode bS_count 80 = .ok (.invokevirtual 103, 3) := by decide +kernel
theorem dS_count_83 : decode bS_count 83 = .ok (.ireturn, 1) := by decide +kernel
theorem dS_count_84 : decode bS_count 84 = .ok (.aload_n 0, 1) := by decide +kernel
theorem dS_count_85 : decode bS_count 85 = .ok (.getfield 19, 3) := by decide +kernel
theorem dS_count_88 : decode bS_count 88 = .ok (.invokevirtual 118, 3) := by decide +kernel
theorem dS_count_91 : decode bS_count 91 = .ok (.ireturn, 1) := by decide +kernel
theorem dS_count_92 : decode bS_count 92 = .ok (.aload_n 0, 1) := by decide +kernel
theorem dS_count_93 : decode bS_count 93 = .ok (.invokevirtual 121, 3) := by decide +kernel
theorem dS_count_96 : decode bS_count 96 = .ok (.ireturn, 1) := by decide +kernel
theorem dS_count_97 : decode bS_count 97 = .ok (.aload_n 0, 1) := by decide +kernel
theorem dS_count_98 : decode bS_count 98 = .ok (.invokevirtual 124, 3) := by decide +kernel
theorem dS_count_101 : decode bS_count 101 = .ok (.ireturn, 1) := by decide +kernel
theorem dS_count_102 : decode bS_count 102 = .ok (.aload_n 0, 1) := by decide +kernel
theorem dS_count_103 : decode bS_count 103 = .ok (.invokevirtual 127, 3) := by decide +kernel
theorem dS_count_106 : decode bS_count 106 = .ok (.ireturn, 1) := by decide +kernel
theorem dS_count_107 : decode bS_count 107 = .ok (.iconst (-1), 1) := by decide +kernel
theorem dS_count_108 : decode bS_count 108 = .ok (.ireturn, 1) := by decide +kernel
theorem dS_checkTerm_0 : decode bS_checkTerm 0 = .ok (.iload_n 1, 1) := by decide +kernel
theorem dS_checkTerm_1 : decode bS_checkTerm 1 = .ok (.ifCond .lt 14, 3) := by decide +kernel
theorem dS_checkTerm_4 : decode bS_checkTerm 4 = .ok (.iload_n 1, 1) := by decide +kernel
theorem dS_checkTerm_5 : decode bS_checkTerm 5 = .ok (.aload_n 0, 1) := by decide +kernel
theorem dS_checkTerm_6 : decode bS_checkTerm 6 = .ok (.getfield 10, 3) := by decide +kernel
theorem dS_checkTerm_9 : decode bS_checkTerm 9 = .ok (.invokevirtual 79, 3) := by decide +kernel
theorem dS_checkTerm_12 : decode bS_checkTerm 12 = .ok (.if_icmp .lt 13, 3) := by decide +kernel
theorem dS_checkTerm_15 : decode bS_checkTerm 15 = .ok (.new 130, 3) := by decide +kernel
theorem dS_checkTerm_18 : decode bS_checkTerm 18 = .ok (.dup, 1) := by decide +kernel
theorem dS_checkTerm_19 : decode bS_checkTerm 19 = .ok (.ldc 132, 2) := by decide +kernel
theorem dS_checkTerm_21 : decode bS_checkTerm 21 = .ok (.invokespecial 134, 3) := by decide +kernel
theorem dS_checkTerm_24 : decode bS_checkTerm 24 = .ok (.athrow, 1) := by decide +kernel
theorem dS_checkTerm_25 : decode bS_checkTerm 25 = .ok (.return_, 1) := by decide +kernel
theorem dS_checkRole_0 : decode bS_checkRole 0 = .ok (.iload_n 0, 1) := by decide +kernel
theorem dS_checkRole_1 : decode bS_checkRole 1 = .ok (.ifCond .lt 9, 3) := by decide +kernel
theorem dS_checkRole_4 : decode bS_checkRole 4 = .ok (.iload_n 0, 1) := by decide +kernel
theorem dS_checkRole_5 : decode bS_checkRole 5 = .ok (.bipush 6, 2) := by decide +kernel
theorem dS_checkRole_7 : decode bS_checkRole 7 = .ok (.if_icmp .lt 13, 3) := by decide +kernel
theorem dS_checkRole_10 : decode bS_checkRole 10 = .ok (.new 130, 3) := by decide +kernel
theorem dS_checkRole_13 : decode bS_checkRole 13 = .ok (.dup, 1) := by decide +kernel
theorem dS_checkRole_14 : decode bS_checkRole 14 = .ok (.ldc 137, 2) := by decide +kernel
theorem dS_checkRole_16 : decode bS_checkRole 16 = .ok (.invokespecial 134, 3) := by decide +kernel
theorem dS_checkRole_19 : decode bS_checkRole 19 = .ok (.athrow, 1) := by decide +kernel
theorem dS_checkRole_20 : decode bS_checkRole 20 = .ok (.return_, 1) := by decide +kernel
theorem dS_isNameAbove_0 : decode bS_isNameAbove 0 = .ok (.aload_n 0, 1) := by decide +kernel
theorem dS_isNameAbove_1 : decode bS_isNameAbove 1 = .ok (.getfield 10, 3) := by decide +kernel
theorem dS_isNameAbove_4 : decode bS_isNameAbove 4 = .ok (.iload_n 2, 1) := by decide +kernel
theorem dS_isNameAbove_5 : decode bS_isNameAbove 5 = .ok (.invokevirtual 139, 3) := by decide +kernel
theorem dS_isNameAbove_8 : decode bS_isNameAbove 8 = .ok (.ifCond .eq 19, 3) := by decide +kernel
theorem dS_isNameAbove_11 : decode bS_isNameAbove 11 = .ok (.aload_n 0, 1) := by decide +kernel
theorem dS_isNameAbove_12 : decode bS_isNameAbove 12 = .ok (.getfield 28, 3) := by decide +kernel
theorem dS_isNameAbove_15 : decode bS_isNameAbove 15 = .ok (.iload_n 1, 1) := by decide +kernel
theorem dS_isNameAbove_16 : decode bS_isNameAbove 16 = .ok (.iload_n 2, 1) := by decide +kernel
theorem dS_isNameAbove_17 : decode bS_isNameAbove 17 = .ok (.invokevirtual 75, 3) := by decide +kernel
theorem dS_isNameAbove_20 : decode bS_isNameAbove 20 = .ok (.ifCond .eq 7, 3) := by decide +kernel
theorem dS_isNameAbove_23 : decode bS_isNameAbove 23 = .ok (.iconst 1, 1) := by decide +kernel
theorem dS_isNameAbove_24 : decode bS_isNameAbove 24 = .ok (.goto 4, 3) := by decide +kernel
theorem dS_isNameAbove_27 : decode bS_isNameAbove 27 = .ok (.iconst 0, 1) := by decide +kernel
theorem dS_isNameAbove_28 : decode bS_isNameAbove 28 = .ok (.ireturn, 1) := by decide +kernel
theorem dS_isNameAboveBoth_0 : decode bS_isNameAboveBoth 0 = .ok (.aload_n 0, 1) := by decide +kernel
theorem dS_isNameAboveBoth_1 : decode bS_isNameAboveBoth 1 = .ok (.iload_n 1, 1) := by decide +kernel
theorem dS_isNameAboveBoth_2 : decode bS_isNameAboveBoth 2 = .ok (.iload_n 3, 1) := by decide +kernel
theorem dS_isNameAboveBoth_3 : decode bS_isNameAboveBoth 3 = .ok (.invokevirtual 83, 3) := by decide +kernel
theorem dS_isNameAboveBoth_6 : decode bS_isNameAboveBoth 6 = .ok (.ifCond .eq 19, 3) := by decide +kernel
theorem dS_isNameAboveBoth_9 : decode bS_isNameAboveBoth 9 = .ok (.aload_n 0, 1) := by decide +kernel
theorem dS_isNameAboveBoth_10 : decode bS_isNameAboveBoth 10 = .ok (.getfield 28, 3) := by decide +kernel
theorem dS_isNameAboveBoth_13 : decode bS_isNameAboveBoth 13 = .ok (.iload_n 2, 1) := by decide +kernel
theorem dS_isNameAboveBoth_14 : decode bS_isNameAboveBoth 14 = .ok (.iload_n 3, 1) := by decide +kernel
theorem dS_isNameAboveBoth_15 : decode bS_isNameAboveBoth 15 = .ok (.invokevirtual 75, 3) := by decide +kernel
theorem dS_isNameAboveBoth_18 : decode bS_isNameAboveBoth 18 = .ok (.ifCond .eq 7, 3) := by decide +kernel
theorem dS_isNameAboveBoth_21 : decode bS_isNameAboveBoth 21 = .ok (.iconst 1, 1) := by decide +kernel
theorem dS_isNameAboveBoth_22 : decode bS_isNameAboveBoth 22 = .ok (.goto 4, 3) := by decide +kernel
theorem dS_isNameAboveBoth_25 : decode bS_isNameAboveBoth 25 = .ok (.iconst 0, 1) := by decide +kernel
theorem dS_isNameAboveBoth_26 : decode bS_isNameAboveBoth 26 = .ok (.ireturn, 1) := by decide +kernel
theorem dS_isStrictlyBelow_0 : decode bS_isStrictlyBelow 0 = .ok (.aload_n 0, 1) := by decide +kernel
theorem dS_isStrictlyBelow_1 : decode bS_isStrictlyBelow 1 = .ok (.getfield 28, 3) := by decide +kernel
theorem dS_isStrictlyBelow_4 : decode bS_isStrictlyBelow 4 = .ok (.iload_n 1, 1) := by decide +kernel
theorem dS_isStrictlyBelow_5 : decode bS_isStrictlyBelow 5 = .ok (.iload_n 2, 1) := by decide +kernel
theorem dS_isStrictlyBelow_6 : decode bS_isStrictlyBelow 6 = .ok (.invokevirtual 75, 3) := by decide +kernel
theorem dS_isStrictlyBelow_9 : decode bS_isStrictlyBelow 9 = .ok (.ifCond .eq 19, 3) := by decide +kernel
theorem dS_isStrictlyBelow_12 : decode bS_isStrictlyBelow 12 = .ok (.aload_n 0, 1) := by decide +kernel
theorem dS_isStrictlyBelow_13 : decode bS_isStrictlyBelow 13 = .ok (.getfield 28, 3) := by decide +kernel
theorem dS_isStrictlyBelow_16 : decode bS_isStrictlyBelow 16 = .ok (.iload_n 2, 1) := by decide +kernel
theorem dS_isStrictlyBelow_17 : decode bS_isStrictlyBelow 17 = .ok (.iload_n 1, 1) := by decide +kernel
theorem dS_isStrictlyBelow_18 : decode bS_isStrictlyBelow 18 = .ok (.invokevirtual 75, 3) := by decide +kernel
theorem dS_isStrictlyBelow_21 : decode bS_isStrictlyBelow 21 = .ok (.ifCond .ne 7, 3) := by decide +kernel
theorem dS_isStrictlyBelow_24 : decode bS_isStrictlyBelow 24 = .ok (.iconst 1, 1) := by decide +kernel
theorem dS_isStrictlyBelow_25 : decode bS_isStrictlyBelow 25 = .ok (.goto 4, 3) := by decide +kernel
theorem dS_isStrictlyBelow_28 : decode bS_isStrictlyBelow 28 = .ok (.iconst 0, 1) := by decide +kernel
theorem dS_isStrictlyBelow_29 : decode bS_isStrictlyBelow 29 = .ok (.ireturn, 1) := by decide +kernel
theorem dS_isLowestAboveBoth_0 : decode bS_isLowestAboveBoth 0 = .ok (.iconst 0, 1) := by decide +kernel
theorem dS_isLowestAboveBoth_1 : decode bS_isLowestAboveBoth 1 = .ok (.istore 4, 2) := by decide +kernel
theorem dS_isLowestAboveBoth_3 : decode bS_isLowestAboveBoth 3 = .ok (.iload 4, 2) := by decide +kernel
theorem dS_isLowestAboveBoth_5 : decode bS_isLowestAboveBoth 5 = .ok (.aload_n 0, 1) := by decide +kernel
theorem dS_isLowestAboveBoth_6 : decode bS_isLowestAboveBoth 6 = .ok (.getfield 10, 3) := by decide +kernel
theorem dS_isLowestAboveBoth_9 : decode bS_isLowestAboveBoth 9 = .ok (.invokevirtual 79, 3) := by decide +kernel
theorem dS_isLowestAboveBoth_12 : decode bS_isLowestAboveBoth 12 = .ok (.if_icmp .ge 54, 3) := by decide +kernel
theorem dS_isLowestAboveBoth_15 : decode bS_isLowestAboveBoth 15 = .ok (.aload_n 0, 1) := by decide +kernel
theorem dS_isLowestAboveBoth_16 : decode bS_isLowestAboveBoth 16 = .ok (.iload_n 1, 1) := by decide +kernel
theorem dS_isLowestAboveBoth_17 : decode bS_isLowestAboveBoth 17 = .ok (.iload_n 2, 1) := by decide +kernel
theorem dS_isLowestAboveBoth_18 : decode bS_isLowestAboveBoth 18 = .ok (.iload 4, 2) := by decide +kernel
theorem dS_isLowestAboveBoth_20 : decode bS_isLowestAboveBoth 20 = .ok (.invokevirtual 96, 3) := by decide +kernel
theorem dS_isLowestAboveBoth_23 : decode bS_isLowestAboveBoth 23 = .ok (.ifCond .eq 37, 3) := by decide +kernel
theorem dS_isLowestAboveBoth_26 : decode bS_isLowestAboveBoth 26 = .ok (.aload_n 0, 1) := by decide +kernel
theorem dS_isLowestAboveBoth_27 : decode bS_isLowestAboveBoth 27 = .ok (.getfield 28, 3) := by decide +kernel
theorem dS_isLowestAboveBoth_30 : decode bS_isLowestAboveBoth 30 = .ok (.iload 4, 2) := by decide +kernel
theorem dS_isLowestAboveBoth_32 : decode bS_isLowestAboveBoth 32 = .ok (.iload_n 3, 1) := by decide +kernel
theorem dS_isLowestAboveBoth_33 : decode bS_isLowestAboveBoth 33 = .ok (.invokevirtual 75, 3) := by decide +kernel
theorem dS_isLowestAboveBoth_36 : decode bS_isLowestAboveBoth 36 = .ok (.ifCond .eq 24, 3) := by decide +kernel
theorem dS_isLowestAboveBoth_39 : decode bS_isLowestAboveBoth 39 = .ok (.iload 4, 2) := by decide +kernel
theorem dS_isLowestAboveBoth_41 : decode bS_isLowestAboveBoth 41 = .ok (.iload_n 3, 1) := by decide +kernel
theorem dS_isLowestAboveBoth_42 : decode bS_isLowestAboveBoth 42 = .ok (.if_icmp .lt 16, 3) := by decide +kernel
theorem dS_isLowestAboveBoth_45 : decode bS_isLowestAboveBoth 45 = .ok (.aload_n 0, 1) := by decide +kernel
theorem dS_isLowestAboveBoth_46 : decode bS_isLowestAboveBoth 46 = .ok (.getfield 28, 3) := by decide +kernel
theorem dS_isLowestAboveBoth_49 : decode bS_isLowestAboveBoth 49 = .ok (.iload_n 3, 1) := by decide +kernel
theorem dS_isLowestAboveBoth_50 : decode bS_isLowestAboveBoth 50 = .ok (.iload 4, 2) := by decide +kernel
theorem dS_isLowestAboveBoth_52 : decode bS_isLowestAboveBoth 52 = .ok (.invokevirtual 75, 3) := by decide +kernel
theorem dS_isLowestAboveBoth_55 : decode bS_isLowestAboveBoth 55 = .ok (.ifCond .ne 5, 3) := by decide +kernel
theorem dS_isLowestAboveBoth_58 : decode bS_isLowestAboveBoth 58 = .ok (.iconst 0, 1) := by decide +kernel
theorem dS_isLowestAboveBoth_59 : decode bS_isLowestAboveBoth 59 = .ok (.ireturn, 1) := by decide +kernel
theorem dS_isLowestAboveBoth_60 : decode bS_isLowestAboveBoth 60 = .ok (.iinc 4 1, 3) := by decide +kernel
theorem dS_isLowestAboveBoth_63 : decode bS_isLowestAboveBoth 63 = .ok (.goto (-60), 3) := by decide +kernel
theorem dS_isLowestAboveBoth_66 : decode bS_isLowestAboveBoth 66 = .ok (.iconst 1, 1) := by decide +kernel
theorem dS_isLowestAboveBoth_67 : decode bS_isLowestAboveBoth 67 = .ok (.ireturn, 1) := by decide +kernel
theorem dS_leastEqual_0 : decode bS_leastEqual 0 = .ok (.iconst 0, 1) := by decide +kernel
theorem dS_leastEqual_1 : decode bS_leastEqual 1 = .ok (.istore_n 2, 1) := by decide +kernel
theorem dS_leastEqual_2 : decode bS_leastEqual 2 = .ok (.iload_n 2, 1) := by decide +kernel
theorem dS_leastEqual_3 : decode bS_leastEqual 3 = .ok (.iload_n 1, 1) := by decide +kernel
theorem dS_leastEqual_4 : decode bS_leastEqual 4 = .ok (.if_icmp .ge 35, 3) := by decide +kernel
theorem dS_leastEqual_7 : decode bS_leastEqual 7 = .ok (.aload_n 0, 1) := by decide +kernel
theorem dS_leastEqual_8 : decode bS_leastEqual 8 = .ok (.getfield 28, 3) := by decide +kernel
theorem dS_leastEqual_11 : decode bS_leastEqual 11 = .ok (.iload_n 1, 1) := by decide +kernel
theorem dS_leastEqual_12 : decode bS_leastEqual 12 = .ok (.iload_n 2, 1) := by decide +kernel
theorem dS_leastEqual_13 : decode bS_leastEqual 13 = .ok (.invokevirtual 75, 3) := by decide +kernel
theorem dS_leastEqual_16 : decode bS_leastEqual 16 = .ok (.ifCond .eq 17, 3) := by decide +kernel
theorem dS_leastEqual_19 : decode bS_leastEqual 19 = .ok (.aload_n 0, 1) := by decide +kernel
theorem dS_leastEqual_20 : decode bS_leastEqual 20 = .ok (.getfield 28, 3) := by decide +kernel
theorem dS_leastEqual_23 : decode bS_leastEqual 23 = .ok (.iload_n 2, 1) := by decide +kernel
theorem dS_leastEqual_24 : decode bS_leastEqual 24 = .ok (.iload_n 1, 1) := by decide +kernel
theorem dS_leastEqual_25 : decode bS_leastEqual 25 = .ok (.invokevirtual 75, 3) := by decide +kernel
theorem dS_leastEqual_28 : decode bS_leastEqual 28 = .ok (.ifCond .eq 5, 3) := by decide +kernel
theorem dS_leastEqual_31 : decode bS_leastEqual 31 = .ok (.iload_n 2, 1) := by decide +kernel
theorem dS_leastEqual_32 : decode bS_leastEqual 32 = .ok (.ireturn, 1) := by decide +kernel
theorem dS_leastEqual_33 : decode bS_leastEqual 33 = .ok (.iinc 2 1, 3) := by decide +kernel
theorem dS_leastEqual_36 : decode bS_leastEqual 36 = .ok (.goto (-34), 3) := by decide +kernel
theorem dS_leastEqual_39 : decode bS_leastEqual 39 = .ok (.iload_n 1, 1) := by decide +kernel
theorem dS_leastEqual_40 : decode bS_leastEqual 40 = .ok (.ireturn, 1) := by decide +kernel
theorem dS_reasonBefore_0 : decode bS_reasonBefore 0 = .ok (.aload_n 0, 1) := by decide +kernel
theorem dS_reasonBefore_1 : decode bS_reasonBefore 1 = .ok (.getfield 28, 3) := by decide +kernel
theorem dS_reasonBefore_4 : decode bS_reasonBefore 4 = .ok (.invokevirtual 142, 3) := by decide +kernel
theorem dS_reasonBefore_7 : decode bS_reasonBefore 7 = .ok (.aload_n 0, 1) := by decide +kernel
theorem dS_reasonBefore_8 : decode bS_reasonBefore 8 = .ok (.getfield 28, 3) := by decide +kernel
theorem dS_reasonBefore_11 : decode bS_reasonBefore 11 = .ok (.iload_n 2, 1) := by decide +kernel
theorem dS_reasonBefore_12 : decode bS_reasonBefore 12 = .ok (.invokevirtual 145, 3) := by decide +kernel
theorem dS_reasonBefore_15 : decode bS_reasonBefore 15 = .ok (.iconst 0, 1) := by decide +kernel
theorem dS_reasonBefore_16 : decode bS_reasonBefore 16 = .ok (.istore 4, 2) := by decide +kernel
theorem dS_reasonBefore_18 : decode bS_reasonBefore 18 = .ok (.iload 4, 2) := by decide +kernel
theorem dS_reasonBefore_20 : decode bS_reasonBefore 20 = .ok (.aload_n 0, 1) := by decide +kernel
theorem dS_reasonBefore_21 : decode bS_reasonBefore 21 = .ok (.getfield 36, 3) := by decide +kernel
theorem dS_reasonBefore_24 : decode bS_reasonBefore 24 = .ok (.if_icmp .ge 23, 3) := by decide +kernel
theorem dS_reasonBefore_27 : decode bS_reasonBefore 27 = .ok (.aload_n 0, 1) := by decide +kernel
theorem dS_reasonBefore_28 : decode bS_reasonBefore 28 = .ok (.getfield 28, 3) := by decide +kernel
theorem dS_reasonBefore_31 : decode bS_reasonBefore 31 = .ok (.aload_n 0, 1) := by decide +kernel
theorem dS_reasonBefore_32 : decode bS_reasonBefore 32 = .ok (.getfield 32, 3) := by decide +kernel
theorem dS_reasonBefore_35 : decode bS_reasonBefore 35 = .ok (.iload 4, 2) := by decide +kernel
theorem dS_reasonBefore_37 : decode bS_reasonBefore 37 = .ok (.iaload, 1) := by decide +kernel
theorem dS_reasonBefore_38 : decode bS_reasonBefore 38 = .ok (.invokevirtual 148, 3) := by decide +kernel
theorem dS_reasonBefore_41 : decode bS_reasonBefore 41 = .ok (.iinc 4 1, 3) := by decide +kernel
theorem dS_reasonBefore_44 : decode bS_reasonBefore 44 = .ok (.goto (-26), 3) := by decide +kernel
theorem dS_reasonBefore_47 : decode bS_reasonBefore 47 = .ok (.aload_n 0, 1) := by decide +kernel
theorem dS_reasonBefore_48 : decode bS_reasonBefore 48 = .ok (.getfield 28, 3) := by decide +kernel
theorem dS_reasonBefore_51 : decode bS_reasonBefore 51 = .ok (.invokevirtual 151, 3) := by decide +kernel
theorem dS_reasonBefore_54 : decode bS_reasonBefore 54 = .ok (.aload_n 0, 1) := by decide +kernel
theorem dS_reasonBefore_55 : decode bS_reasonBefore 55 = .ok (.getfield 28, 3) := by decide +kernel
theorem dS_reasonBefore_58 : decode bS_reasonBefore 58 = .ok (.iload_n 2, 1) := by decide +kernel
theorem dS_reasonBefore_59 : decode bS_reasonBefore 59 = .ok (.iload_n 3, 1) := by decide +kernel
theorem dS_reasonBefore_60 : decode bS_reasonBefore 60 = .ok (.invokevirtual 75, 3) := by decide +kernel
theorem dS_reasonBefore_63 : decode bS_reasonBefore 63 = .ok (.ifCond .eq 5, 3) := by decide +kernel
theorem dS_reasonBefore_66 : decode bS_reasonBefore 66 = .ok (.iconst (-1), 1) := by decide +kernel
theorem dS_reasonBefore_67 : decode bS_reasonBefore 67 = .ok (.ireturn, 1) := by decide +kernel
theorem dS_reasonBefore_68 : decode bS_reasonBefore 68 = .ok (.iconst 1, 1) := by decide +kernel
theorem dS_reasonBefore_69 : decode bS_reasonBefore 69 = .ok (.istore 4, 2) := by decide +kernel
theorem dS_reasonBefore_71 : decode bS_reasonBefore 71 = .ok (.iload 4, 2) := by decide +kernel
theorem dS_reasonBefore_73 : decode bS_reasonBefore 73 = .ok (.iload_n 1, 1) := by decide +kernel
theorem dS_reasonBefore_74 : decode bS_reasonBefore 74 = .ok (.if_icmp .ge 52, 3) := by decide +kernel
theorem dS_reasonBefore_77 : decode bS_reasonBefore 77 = .ok (.aload_n 0, 1) := by decide +kernel
theorem dS_reasonBefore_78 : decode bS_reasonBefore 78 = .ok (.getfield 19, 3) := by decide +kernel
theorem dS_reasonBefore_81 : decode bS_reasonBefore 81 = .ok (.iload 4, 2) := by decide +kernel
theorem dS_reasonBefore_83 : decode bS_reasonBefore 83 = .ok (.invokevirtual 62, 3) := by decide +kernel
theorem dS_reasonBefore_86 : decode bS_reasonBefore 86 = .ok (.ifCond .eq 34, 3) := by decide +kernel
theorem dS_reasonBefore_89 : decode bS_reasonBefore 89 = .ok (.aload_n 0, 1) := by decide +kernel
theorem dS_reasonBefore_90 : decode bS_reasonBefore 90 = .ok (.getfield 28, 3) := by decide +kernel
theorem dS_reasonBefore_93 : decode bS_reasonBefore 93 = .ok (.iload 4, 2) := by decide +kernel
theorem dS_reasonBefore_95 : decode bS_reasonBefore 95 = .ok (.invokevirtual 148, 3) := by decide +kernel
theorem dS_reasonBefore_98 : decode bS_reasonBefore 98 = .ok (.aload_n 0, 1) := by decide +kernel
theorem dS_reasonBefore_99 : decode bS_reasonBefore 99 = .ok (.getfield 28, 3) := by decide +kernel
theorem dS_reasonBefore_102 : decode bS_reasonBefore 102 = .ok (.invokevirtual 151, 3) := by decide +kernel
theorem dS_reasonBefore_105 : decode bS_reasonBefore 105 = .ok (.aload_n 0, 1) := by decide +kernel
theorem dS_reasonBefore_106 : decode bS_reasonBefore 106 = .ok (.getfield 28, 3) := by decide +kernel
theorem dS_reasonBefore_109 : decode bS_reasonBefore 109 = .ok (.iload_n 2, 1) := by decide +kernel
theorem dS_reasonBefore_110 : decode bS_reasonBefore 110 = .ok (.iload_n 3, 1) := by decide +kernel
theorem dS_reasonBefore_111 : decode bS_reasonBefore 111 = .ok (.invokevirtual 75, 3) := by decide +kernel
theorem dS_reasonBefore_114 : decode bS_reasonBefore 114 = .ok (.ifCond .eq 6, 3) := by decide +kernel
theorem dS_reasonBefore_117 : decode bS_reasonBefore 117 = .ok (.iload 4, 2) := by decide +kernel
theorem dS_reasonBefore_119 : decode bS_reasonBefore 119 = .ok (.ireturn, 1) := by decide +kernel
theorem dS_reasonBefore_120 : decode bS_reasonBefore 120 = .ok (.iinc 4 1, 3) := by decide +kernel
theorem dS_reasonBefore_123 : decode bS_reasonBefore 123 = .ok (.goto (-52), 3) := by decide +kernel
theorem dS_reasonBefore_126 : decode bS_reasonBefore 126 = .ok (.iconst (-1), 1) := by decide +kernel
theorem dS_reasonBefore_127 : decode bS_reasonBefore 127 = .ok (.ireturn, 1) := by decide +kernel
theorem dS_countPairs_0 : decode bS_countPairs 0 = .ok (.iconst 0, 1) := by decide +kernel
theorem dS_countPairs_1 : decode bS_countPairs 1 = .ok (.istore_n 1, 1) := by decide +kernel
theorem dS_countPairs_2 : decode bS_countPairs 2 = .ok (.iconst 0, 1) := by decide +kernel
theorem dS_countPairs_3 : decode bS_countPairs 3 = .ok (.istore_n 2, 1) := by decide +kernel
theorem dS_countPairs_4 : decode bS_countPairs 4 = .ok (.iload_n 2, 1) := by decide +kernel
theorem dS_countPairs_5 : decode bS_countPairs 5 = .ok (.aload_n 0, 1) := by decide +kernel
theorem dS_countPairs_6 : decode bS_countPairs 6 = .ok (.getfield 10, 3) := by decide +kernel
theorem dS_countPairs_9 : decode bS_countPairs 9 = .ok (.invokevirtual 79, 3) := by decide +kernel
theorem dS_countPairs_12 : decode bS_countPairs 12 = .ok (.if_icmp .ge 48, 3) := by decide +kernel
theorem dS_countPairs_15 : decode bS_countPairs 15 = .ok (.iconst 0, 1) := by decide +kernel
theorem dS_countPairs_16 : decode bS_countPairs 16 = .ok (.istore_n 3, 1) := by decide +kernel
theorem dS_countPairs_17 : decode bS_countPairs 17 = .ok (.iload_n 3, 1) := by decide +kernel
theorem dS_countPairs_18 : decode bS_countPairs 18 = .ok (.aload_n 0, 1) := by decide +kernel
theorem dS_countPairs_19 : decode bS_countPairs 19 = .ok (.getfield 10, 3) := by decide +kernel
theorem dS_countPairs_22 : decode bS_countPairs 22 = .ok (.invokevirtual 79, 3) := by decide +kernel
theorem dS_countPairs_25 : decode bS_countPairs 25 = .ok (.if_icmp .ge 29, 3) := by decide +kernel
theorem dS_countPairs_28 : decode bS_countPairs 28 = .ok (.iload_n 2, 1) := by decide +kernel
theorem dS_countPairs_29 : decode bS_countPairs 29 = .ok (.iload_n 3, 1) := by decide +kernel
theorem dS_countPairs_30 : decode bS_countPairs 30 = .ok (.if_icmp .eq 18, 3) := by decide +kernel
theorem dS_countPairs_33 : decode bS_countPairs 33 = .ok (.aload_n 0, 1) := by decide +kernel
theorem dS_countPairs_34 : decode bS_countPairs 34 = .ok (.getfield 28, 3) := by decide +kernel
theorem dS_countPairs_37 : decode bS_countPairs 37 = .ok (.iload_n 2, 1) := by decide +kernel
theorem dS_countPairs_38 : decode bS_countPairs 38 = .ok (.iload_n 3, 1) := by decide +kernel
theorem dS_countPairs_39 : decode bS_countPairs 39 = .ok (.invokevirtual 75, 3) := by decide +kernel
theorem dS_countPairs_42 : decode bS_countPairs 42 = .ok (.ifCond .eq 6, 3) := by decide +kernel
theorem dS_countPairs_45 : decode bS_countPairs 45 = .ok (.iinc 1 1, 3) := by decide +kernel
theorem dS_countPairs_48 : decode bS_countPairs 48 = .ok (.iinc 3 1, 3) := by decide +kernel
theorem dS_countPairs_51 : decode bS_countPairs 51 = .ok (.goto (-34), 3) := by decide +kernel
theorem dS_countPairs_54 : decode bS_countPairs 54 = .ok (.iinc 2 1, 3) := by decide +kernel
theorem dS_countPairs_57 : decode bS_countPairs 57 = .ok (.goto (-53), 3) := by decide +kernel
theorem dS_countPairs_60 : decode bS_countPairs 60 = .ok (.iload_n 1, 1) := by decide +kernel
theorem dS_countPairs_61 : decode bS_countPairs 61 = .ok (.ireturn, 1) := by decide +kernel
theorem dS_countEmpty_0 : decode bS_countEmpty 0 = .ok (.iconst 0, 1) := by decide +kernel
theorem dS_countEmpty_1 : decode bS_countEmpty 1 = .ok (.istore_n 1, 1) := by decide +kernel
theorem dS_countEmpty_2 : decode bS_countEmpty 2 = .ok (.iconst 0, 1) := by decide +kernel
theorem dS_countEmpty_3 : decode bS_countEmpty 3 = .ok (.istore_n 2, 1) := by decide +kernel
theorem dS_countEmpty_4 : decode bS_countEmpty 4 = .ok (.iload_n 2, 1) := by decide +kernel
theorem dS_countEmpty_5 : decode bS_countEmpty 5 = .ok (.aload_n 0, 1) := by decide +kernel
theorem dS_countEmpty_6 : decode bS_countEmpty 6 = .ok (.getfield 10, 3) := by decide +kernel
theorem dS_countEmpty_9 : decode bS_countEmpty 9 = .ok (.invokevirtual 79, 3) := by decide +kernel
theorem dS_countEmpty_12 : decode bS_countEmpty 12 = .ok (.if_icmp .ge 23, 3) := by decide +kernel
theorem dS_countEmpty_15 : decode bS_countEmpty 15 = .ok (.aload_n 0, 1) := by decide +kernel
theorem dS_countEmpty_16 : decode bS_countEmpty 16 = .ok (.getfield 28, 3) := by decide +kernel
theorem dS_countEmpty_19 : decode bS_countEmpty 19 = .ok (.iload_n 2, 1) := by decide +kernel
theorem dS_countEmpty_20 : decode bS_countEmpty 20 = .ok (.invokevirtual 154, 3) := by decide +kernel
theorem dS_countEmpty_23 : decode bS_countEmpty 23 = .ok (.ifCond .eq 6, 3) := by decide +kernel
theorem dS_countEmpty_26 : decode bS_countEmpty 26 = .ok (.iinc 1 1, 3) := by decide +kernel
theorem dS_countEmpty_29 : decode bS_countEmpty 29 = .ok (.iinc 2 1, 3) := by decide +kernel
theorem dS_countEmpty_32 : decode bS_countEmpty 32 = .ok (.goto (-28), 3) := by decide +kernel
theorem dS_countEmpty_35 : decode bS_countEmpty 35 = .ok (.iload_n 1, 1) := by decide +kernel
theorem dS_countEmpty_36 : decode bS_countEmpty 36 = .ok (.ireturn, 1) := by decide +kernel
theorem dS_countClasses_0 : decode bS_countClasses 0 = .ok (.iconst 0, 1) := by decide +kernel
theorem dS_countClasses_1 : decode bS_countClasses 1 = .ok (.istore_n 1, 1) := by decide +kernel
theorem dS_countClasses_2 : decode bS_countClasses 2 = .ok (.iconst 0, 1) := by decide +kernel
theorem dS_countClasses_3 : decode bS_countClasses 3 = .ok (.istore_n 2, 1) := by decide +kernel
theorem dS_countClasses_4 : decode bS_countClasses 4 = .ok (.iload_n 2, 1) := by decide +kernel
theorem dS_countClasses_5 : decode bS_countClasses 5 = .ok (.aload_n 0, 1) := by decide +kernel
theorem dS_countClasses_6 : decode bS_countClasses 6 = .ok (.getfield 10, 3) := by decide +kernel
theorem dS_countClasses_9 : decode bS_countClasses 9 = .ok (.invokevirtual 79, 3) := by decide +kernel
theorem dS_countClasses_12 : decode bS_countClasses 12 = .ok (.if_icmp .ge 21, 3) := by decide +kernel
theorem dS_countClasses_15 : decode bS_countClasses 15 = .ok (.aload_n 0, 1) := by decide +kernel
theorem dS_countClasses_16 : decode bS_countClasses 16 = .ok (.iload_n 2, 1) := by decide +kernel
theorem dS_countClasses_17 : decode bS_countClasses 17 = .ok (.invokevirtual 92, 3) := by decide +kernel
theorem dS_countClasses_20 : decode bS_countClasses 20 = .ok (.iload_n 2, 1) := by decide +kernel
theorem dS_countClasses_21 : decode bS_countClasses 21 = .ok (.if_icmp .ne 6, 3) := by decide +kernel
theorem dS_countClasses_24 : decode bS_countClasses 24 = .ok (.iinc 1 1, 3) := by decide +kernel
theorem dS_countClasses_27 : decode bS_countClasses 27 = .ok (.iinc 2 1, 3) := by decide +kernel
theorem dS_countClasses_30 : decode bS_countClasses 30 = .ok (.goto (-26), 3) := by decide +kernel
theorem dS_countClasses_33 : decode bS_countClasses 33 = .ok (.iload_n 1, 1) := by decide +kernel
theorem dS_countClasses_34 : decode bS_countClasses 34 = .ok (.ireturn, 1) := by decide +kernel
