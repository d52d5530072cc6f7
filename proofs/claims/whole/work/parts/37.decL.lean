/-! The law's helpers: names, words, decode rows. Written by wip/whole/gen/genL0.py. -/
theorem mcl_L_13 : Cond.classLink RcL 13 xIO ∈ wA := wA_m (by decide +kernel) rfl
abbrev hL_both : List (Nat × Nat × Nat × Nat) := [((0 : Nat), (10 : Nat), (13 : Nat), (13 : Nat))]
abbrev wL_both : Cond := .codeWith yL_both bL_both 5 (some .int) hL_both
theorem mc_L_both : wL_both ∈ wA := wA_m (by decide +kernel) rfl
theorem mst_L_both : Cond.static yL_both ∈ wA := wA_m (by decide +kernel) rfl
theorem kh_L_67 {R : Room} {s : State} {args : Array Value} {rm : Room} {mc ms : Nat} (hA : ∀ w ∈ wA, w.before args s = true) (hrc : rm.cells = mc) (hrs : rm.slots = ms) (hR : rm.frames + 1 ≤ R.frames ∧ 8 + (5 + 11) + rm.locals ≤ R.locals) : lk_CB R s args RcL 67 yL_both bL_both 5 (some .int) hL_both (wL_both :: wA) rm mc ms 4 :=
  ⟨hrc, hrs, hR.1, hR.2, pay_in hA (gdC mc_L_both), List.mem_cons_self, hA _ mc_L_both, hA _ ini_L, ⟨dm_L_both.1, dm_L_both.2.1⟩, fun sig h => by
    have h2 := dm_L_both.2.2
    rw [h] at h2
    exact (Option.some.inj h2).symm, hA _ ml_L_67, hA _ mst_L_both⟩
theorem dL_both_0 : decode bL_both 0 = .ok (.aload_n 3, 1) := by decide +kernel
theorem dL_both_1 : decode bL_both 1 = .ok (.iconst 0, 1) := by decide +kernel
theorem dL_both_2 : decode bL_both 2 = .ok (.aload_n 0, 1) := by decide +kernel
theorem dL_both_3 : decode bL_both 3 = .ok (.iload_n 1, 1) := by decide +kernel
theorem dL_both_4 : decode bL_both 4 = .ok (.iload_n 2, 1) := by decide +kernel
theorem dL_both_5 : decode bL_both 5 = .ok (.invokevirtual 7, 3) := by decide +kernel
theorem dL_both_8 : decode bL_both 8 = .ok (.i2l, 1) := by decide +kernel
theorem dL_both_9 : decode bL_both 9 = .ok (.lastore, 1) := by decide +kernel
theorem dL_both_10 : decode bL_both 10 = .ok (.goto 7, 3) := by decide +kernel
theorem dL_both_13 : decode bL_both 13 = .ok (.astore 4, 2) := by decide +kernel
theorem dL_both_15 : decode bL_both 15 = .ok (.iconst 1, 1) := by decide +kernel
theorem dL_both_16 : decode bL_both 16 = .ok (.ireturn, 1) := by decide +kernel
theorem dL_both_17 : decode bL_both 17 = .ok (.iconst 0, 1) := by decide +kernel
theorem dL_both_18 : decode bL_both 18 = .ok (.ireturn, 1) := by decide +kernel
abbrev hL_some : List (Nat × Nat × Nat × Nat) := [((0 : Nat), (10 : Nat), (13 : Nat), (13 : Nat))]
abbrev wL_some : Cond := .codeWith yL_some bL_some 5 (some .int) hL_some
theorem mc_L_some : wL_some ∈ wA := wA_m (by decide +kernel) rfl
theorem mst_L_some : Cond.static yL_some ∈ wA := wA_m (by decide +kernel) rfl
theorem kh_L_76 {R : Room} {s : State} {args : Array Value} {rm : Room} {mc ms : Nat} (hA : ∀ w ∈ wA, w.before args s = true) (hrc : rm.cells = mc) (hrs : rm.slots = ms) (hR : rm.frames + 1 ≤ R.frames ∧ 8 + (5 + 11) + rm.locals ≤ R.locals) : lk_CB R s args RcL 76 yL_some bL_some 5 (some .int) hL_some (wL_some :: wA) rm mc ms 4 :=
  ⟨hrc, hrs, hR.1, hR.2, pay_in hA (gdC mc_L_some), List.mem_cons_self, hA _ mc_L_some, hA _ ini_L, ⟨dm_L_some.1, dm_L_some.2.1⟩, fun sig h => by
    have h2 := dm_L_some.2.2
    rw [h] at h2
    exact (Option.some.inj h2).symm, hA _ ml_L_76, hA _ mst_L_some⟩
theorem dL_some_0 : decode bL_some 0 = .ok (.aload_n 3, 1) := by decide +kernel
theorem dL_some_1 : decode bL_some 1 = .ok (.iconst 0, 1) := by decide +kernel
theorem dL_some_2 : decode bL_some 2 = .ok (.aload_n 0, 1) := by decide +kernel
theorem dL_some_3 : decode bL_some 3 = .ok (.iload_n 1, 1) := by decide +kernel
theorem dL_some_4 : decode bL_some 4 = .ok (.iload_n 2, 1) := by decide +kernel
theorem dL_some_5 : decode bL_some 5 = .ok (.invokevirtual 15, 3) := by decide +kernel
theorem dL_some_8 : decode bL_some 8 = .ok (.i2l, 1) := by decide +kernel
theorem dL_some_9 : decode bL_some 9 = .ok (.lastore, 1) := by decide +kernel
theorem dL_some_10 : decode bL_some 10 = .ok (.goto 7, 3) := by decide +kernel
theorem dL_some_13 : decode bL_some 13 = .ok (.astore 4, 2) := by decide +kernel
theorem dL_some_15 : decode bL_some 15 = .ok (.iconst 1, 1) := by decide +kernel
theorem dL_some_16 : decode bL_some 16 = .ok (.ireturn, 1) := by decide +kernel
theorem dL_some_17 : decode bL_some 17 = .ok (.iconst 0, 1) := by decide +kernel
theorem dL_some_18 : decode bL_some 18 = .ok (.ireturn, 1) := by decide +kernel
abbrev hL_below : List (Nat × Nat × Nat × Nat) := [((0 : Nat), (10 : Nat), (13 : Nat), (13 : Nat))]
abbrev wL_below : Cond := .codeWith yL_below bL_below 5 (some .int) hL_below
theorem mc_L_below : wL_below ∈ wA := wA_m (by decide +kernel) rfl
theorem mst_L_below : Cond.static yL_below ∈ wA := wA_m (by decide +kernel) rfl
theorem kh_L_79 {R : Room} {s : State} {args : Array Value} {rm : Room} {mc ms : Nat} (hA : ∀ w ∈ wA, w.before args s = true) (hrc : rm.cells = mc) (hrs : rm.slots = ms) (hR : rm.frames + 1 ≤ R.frames ∧ 8 + (5 + 11) + rm.locals ≤ R.locals) : lk_CB R s args RcL 79 yL_below bL_below 5 (some .int) hL_below (wL_below :: wA) rm mc ms 4 :=
  ⟨hrc, hrs, hR.1, hR.2, pay_in hA (gdC mc_L_below), List.mem_cons_self, hA _ mc_L_below, hA _ ini_L, ⟨dm_L_below.1, dm_L_below.2.1⟩, fun sig h => by
    have h2 := dm_L_below.2.2
    rw [h] at h2
    exact (Option.some.inj h2).symm, hA _ ml_L_79, hA _ mst_L_below⟩
theorem dL_below_0 : decode bL_below 0 = .ok (.aload_n 3, 1) := by decide +kernel
theorem dL_below_1 : decode bL_below 1 = .ok (.iconst 0, 1) := by decide +kernel
theorem dL_below_2 : decode bL_below 2 = .ok (.aload_n 0, 1) := by decide +kernel
theorem dL_below_3 : decode bL_below 3 = .ok (.iload_n 1, 1) := by decide +kernel
theorem dL_below_4 : decode bL_below 4 = .ok (.iload_n 2, 1) := by decide +kernel
theorem dL_below_5 : decode bL_below 5 = .ok (.invokevirtual 18, 3) := by decide +kernel
theorem dL_below_8 : decode bL_below 8 = .ok (.i2l, 1) := by decide +kernel
theorem dL_below_9 : decode bL_below 9 = .ok (.lastore, 1) := by decide +kernel
theorem dL_below_10 : decode bL_below 10 = .ok (.goto 7, 3) := by decide +kernel
theorem dL_below_13 : decode bL_below 13 = .ok (.astore 4, 2) := by decide +kernel
theorem dL_below_15 : decode bL_below 15 = .ok (.iconst 1, 1) := by decide +kernel
theorem dL_below_16 : decode bL_below 16 = .ok (.ireturn, 1) := by decide +kernel
theorem dL_below_17 : decode bL_below 17 = .ok (.iconst 0, 1) := by decide +kernel
theorem dL_below_18 : decode bL_below 18 = .ok (.ireturn, 1) := by decide +kernel
abbrev hL_equal : List (Nat × Nat × Nat × Nat) := [((0 : Nat), (10 : Nat), (13 : Nat), (13 : Nat))]
abbrev wL_equal : Cond := .codeWith yL_equal bL_equal 5 (some .int) hL_equal
theorem mc_L_equal : wL_equal ∈ wA := wA_m (by decide +kernel) rfl
theorem mst_L_equal : Cond.static yL_equal ∈ wA := wA_m (by decide +kernel) rfl
theorem kh_L_82 {R : Room} {s : State} {args : Array Value} {rm : Room} {mc ms : Nat} (hA : ∀ w ∈ wA, w.before args s = true) (hrc : rm.cells = mc) (hrs : rm.slots = ms) (hR : rm.frames + 1 ≤ R.frames ∧ 8 + (5 + 11) + rm.locals ≤ R.locals) : lk_CB R s args RcL 82 yL_equal bL_equal 5 (some .int) hL_equal (wL_equal :: wA) rm mc ms 4 :=
  ⟨hrc, hrs, hR.1, hR.2, pay_in hA (gdC mc_L_equal), List.mem_cons_self, hA _ mc_L_equal, hA _ ini_L, ⟨dm_L_equal.1, dm_L_equal.2.1⟩, fun sig h => by
    have h2 := dm_L_equal.2.2
    rw [h] at h2
    exact (Option.some.inj h2).symm, hA _ ml_L_82, hA _ mst_L_equal⟩
theorem dL_equal_0 : decode bL_equal 0 = .ok (.aload_n 3, 1) := by decide +kernel
theorem dL_equal_1 : decode bL_equal 1 = .ok (.iconst 0, 1) := by decide +kernel
theorem dL_equal_2 : decode bL_equal 2 = .ok (.aload_n 0, 1) := by decide +kernel
theorem dL_equal_3 : decode bL_equal 3 = .ok (.iload_n 1, 1) := by decide +kernel
theorem dL_equal_4 : decode bL_equal 4 = .ok (.iload_n 2, 1) := by decide +kernel
theorem dL_equal_5 : decode bL_equal 5 = .ok (.invokevirtual 21, 3) := by decide +kernel
theorem dL_equal_8 : decode bL_equal 8 = .ok (.i2l, 1) := by decide +kernel
theorem dL_equal_9 : decode bL_equal 9 = .ok (.lastore, 1) := by decide +kernel
theorem dL_equal_10 : decode bL_equal 10 = .ok (.goto 7, 3) := by decide +kernel
theorem dL_equal_13 : decode bL_equal 13 = .ok (.astore 4, 2) := by decide +kernel
theorem dL_equal_15 : decode bL_equal 15 = .ok (.iconst 1, 1) := by decide +kernel
theorem dL_equal_16 : decode bL_equal 16 = .ok (.ireturn, 1) := by decide +kernel
theorem dL_equal_17 : decode bL_equal 17 = .ok (.iconst 0, 1) := by decide +kernel
theorem dL_equal_18 : decode bL_equal 18 = .ok (.ireturn, 1) := by decide +kernel
abbrev hL_roleBelow : List (Nat × Nat × Nat × Nat) := [((0 : Nat), (10 : Nat), (13 : Nat), (13 : Nat))]
abbrev wL_roleBelow : Cond := .codeWith yL_roleBelow bL_roleBelow 5 (some .int) hL_roleBelow
theorem mc_L_roleBelow : wL_roleBelow ∈ wA := wA_m (by decide +kernel) rfl
theorem mst_L_roleBelow : Cond.static yL_roleBelow ∈ wA := wA_m (by decide +kernel) rfl
theorem kh_L_85 {R : Room} {s : State} {args : Array Value} {rm : Room} {mc ms : Nat} (hA : ∀ w ∈ wA, w.before args s = true) (hrc : rm.cells = mc) (hrs : rm.slots = ms) (hR : rm.frames + 1 ≤ R.frames ∧ 8 + (5 + 11) + rm.locals ≤ R.locals) : lk_CB R s args RcL 85 yL_roleBelow bL_roleBelow 5 (some .int) hL_roleBelow (wL_roleBelow :: wA) rm mc ms 4 :=
  ⟨hrc, hrs, hR.1, hR.2, pay_in hA (gdC mc_L_roleBelow), List.mem_cons_self, hA _ mc_L_roleBelow, hA _ ini_L, ⟨dm_L_roleBelow.1, dm_L_roleBelow.2.1⟩, fun sig h => by
    have h2 := dm_L_roleBelow.2.2
    rw [h] at h2
    exact (Option.some.inj h2).symm, hA _ ml_L_85, hA _ mst_L_roleBelow⟩
theorem dL_roleBelow_0 : decode bL_roleBelow 0 = .ok (.aload_n 3, 1) := by decide +kernel
theorem dL_roleBelow_1 : decode bL_roleBelow 1 = .ok (.iconst 0, 1) := by decide +kernel
theorem dL_roleBelow_2 : decode bL_roleBelow 2 = .ok (.aload_n 0, 1) := by decide +kernel
theorem dL_roleBelow_3 : decode bL_roleBelow 3 = .ok (.iload_n 1, 1) := by decide +kernel
theorem dL_roleBelow_4 : decode bL_roleBelow 4 = .ok (.iload_n 2, 1) := by decide +kernel
theorem dL_roleBelow_5 : decode bL_roleBelow 5 = .ok (.invokevirtual 24, 3) := by decide +kernel
theorem dL_roleBelow_8 : decode bL_roleBelow 8 = .ok (.i2l, 1) := by decide +kernel
theorem dL_roleBelow_9 : decode bL_roleBelow 9 = .ok (.lastore, 1) := by decide +kernel
theorem dL_roleBelow_10 : decode bL_roleBelow 10 = .ok (.goto 7, 3) := by decide +kernel
theorem dL_roleBelow_13 : decode bL_roleBelow 13 = .ok (.astore 4, 2) := by decide +kernel
theorem dL_roleBelow_15 : decode bL_roleBelow 15 = .ok (.iconst 1, 1) := by decide +kernel
theorem dL_roleBelow_16 : decode bL_roleBelow 16 = .ok (.ireturn, 1) := by decide +kernel
theorem dL_roleBelow_17 : decode bL_roleBelow 17 = .ok (.iconst 0, 1) := by decide +kernel
theorem dL_roleBelow_18 : decode bL_roleBelow 18 = .ok (.ireturn, 1) := by decide +kernel
abbrev hL_chain : List (Nat × Nat × Nat × Nat) := [((0 : Nat), (12 : Nat), (15 : Nat), (13 : Nat))]
abbrev wL_chain : Cond := .codeWith yL_chain bL_chain 6 (some .int) hL_chain
theorem mc_L_chain : wL_chain ∈ wA := wA_m (by decide +kernel) rfl
theorem mst_L_chain : Cond.static yL_chain ∈ wA := wA_m (by decide +kernel) rfl
theorem kh_L_88 {R : Room} {s : State} {args : Array Value} {rm : Room} {mc ms : Nat} (hA : ∀ w ∈ wA, w.before args s = true) (hrc : rm.cells = mc) (hrs : rm.slots = ms) (hR : rm.frames + 1 ≤ R.frames ∧ 8 + (6 + 11) + rm.locals ≤ R.locals) : lk_CB R s args RcL 88 yL_chain bL_chain 6 (some .int) hL_chain (wL_chain :: wA) rm mc ms 5 :=
  ⟨hrc, hrs, hR.1, hR.2, pay_in hA (gdC mc_L_chain), List.mem_cons_self, hA _ mc_L_chain, hA _ ini_L, ⟨dm_L_chain.1, dm_L_chain.2.1⟩, fun sig h => by
    have h2 := dm_L_chain.2.2
    rw [h] at h2
    exact (Option.some.inj h2).symm, hA _ ml_L_88, hA _ mst_L_chain⟩
theorem dL_chain_0 : decode bL_chain 0 = .ok (.aload 4, 2) := by decide +kernel
theorem dL_chain_2 : decode bL_chain 2 = .ok (.iconst 0, 1) := by decide +kernel
theorem dL_chain_3 : decode bL_chain 3 = .ok (.aload_n 0, 1) := by decide +kernel
theorem dL_chain_4 : decode bL_chain 4 = .ok (.iload_n 1, 1) := by decide +kernel
theorem dL_chain_5 : decode bL_chain 5 = .ok (.iload_n 2, 1) := by decide +kernel
theorem dL_chain_6 : decode bL_chain 6 = .ok (.iload_n 3, 1) := by decide +kernel
theorem dL_chain_7 : decode bL_chain 7 = .ok (.invokevirtual 27, 3) := by decide +kernel
theorem dL_chain_10 : decode bL_chain 10 = .ok (.i2l, 1) := by decide +kernel
theorem dL_chain_11 : decode bL_chain 11 = .ok (.lastore, 1) := by decide +kernel
theorem dL_chain_12 : decode bL_chain 12 = .ok (.goto 7, 3) := by decide +kernel
theorem dL_chain_15 : decode bL_chain 15 = .ok (.astore 5, 2) := by decide +kernel
theorem dL_chain_17 : decode bL_chain 17 = .ok (.iconst 1, 1) := by decide +kernel
theorem dL_chain_18 : decode bL_chain 18 = .ok (.ireturn, 1) := by decide +kernel
theorem dL_chain_19 : decode bL_chain 19 = .ok (.iconst 0, 1) := by decide +kernel
theorem dL_chain_20 : decode bL_chain 20 = .ok (.ireturn, 1) := by decide +kernel
abbrev hL_isBelow : List (Nat × Nat × Nat × Nat) := [((0 : Nat), (17 : Nat), (20 : Nat), (13 : Nat))]
abbrev wL_isBelow : Cond := .codeWith yL_isBelow bL_isBelow 5 (some .int) hL_isBelow
theorem mc_L_isBelow : wL_isBelow ∈ wA := wA_m (by decide +kernel) rfl
theorem mst_L_isBelow : Cond.static yL_isBelow ∈ wA := wA_m (by decide +kernel) rfl
theorem kh_L_97 {R : Room} {s : State} {args : Array Value} {rm : Room} {mc ms : Nat} (hA : ∀ w ∈ wA, w.before args s = true) (hrc : rm.cells = mc) (hrs : rm.slots = ms) (hR : rm.frames + 1 ≤ R.frames ∧ 8 + (5 + 11) + rm.locals ≤ R.locals) : lk_CB R s args RcL 97 yL_isBelow bL_isBelow 5 (some .int) hL_isBelow (wL_isBelow :: wA) rm mc ms 4 :=
  ⟨hrc, hrs, hR.1, hR.2, pay_in hA (gdC mc_L_isBelow), List.mem_cons_self, hA _ mc_L_isBelow, hA _ ini_L, ⟨dm_L_isBelow.1, dm_L_isBelow.2.1⟩, fun sig h => by
    have h2 := dm_L_isBelow.2.2
    rw [h] at h2
    exact (Option.some.inj h2).symm, hA _ ml_L_97, hA _ mst_L_isBelow⟩
theorem dL_isBelow_0 : decode bL_isBelow 0 = .ok (.aload_n 3, 1) := by decide +kernel
theorem dL_isBelow_1 : decode bL_isBelow 1 = .ok (.iconst 0, 1) := by decide +kernel
theorem dL_isBelow_2 : decode bL_isBelow 2 = .ok (.aload_n 0, 1) := by decide +kernel
theorem dL_isBelow_3 : decode bL_isBelow 3 = .ok (.iload_n 1, 1) := by decide +kernel
theorem dL_isBelow_4 : decode bL_isBelow 4 = .ok (.iload_n 2, 1) := by decide +kernel
theorem dL_isBelow_5 : decode bL_isBelow 5 = .ok (.invokevirtual 31, 3) := by decide +kernel
theorem dL_isBelow_8 : decode bL_isBelow 8 = .ok (.ifCond .eq 7, 3) := by decide +kernel
theorem dL_isBelow_11 : decode bL_isBelow 11 = .ok (.lconst 1, 1) := by decide +kernel
theorem dL_isBelow_12 : decode bL_isBelow 12 = .ok (.goto 4, 3) := by decide +kernel
theorem dL_isBelow_15 : decode bL_isBelow 15 = .ok (.lconst 0, 1) := by decide +kernel
theorem dL_isBelow_16 : decode bL_isBelow 16 = .ok (.lastore, 1) := by decide +kernel
theorem dL_isBelow_17 : decode bL_isBelow 17 = .ok (.goto 7, 3) := by decide +kernel
theorem dL_isBelow_20 : decode bL_isBelow 20 = .ok (.astore 4, 2) := by decide +kernel
theorem dL_isBelow_22 : decode bL_isBelow 22 = .ok (.iconst 1, 1) := by decide +kernel
theorem dL_isBelow_23 : decode bL_isBelow 23 = .ok (.ireturn, 1) := by decide +kernel
theorem dL_isBelow_24 : decode bL_isBelow 24 = .ok (.iconst 0, 1) := by decide +kernel
theorem dL_isBelow_25 : decode bL_isBelow 25 = .ok (.ireturn, 1) := by decide +kernel
abbrev hL_supers : List (Nat × Nat × Nat × Nat) := [((0 : Nat), (9 : Nat), (12 : Nat), (13 : Nat))]
abbrev wL_supers : Cond := .codeWith yL_supers bL_supers 4 (some .int) hL_supers
theorem mc_L_supers : wL_supers ∈ wA := wA_m (by decide +kernel) rfl
theorem mst_L_supers : Cond.static yL_supers ∈ wA := wA_m (by decide +kernel) rfl
theorem kh_L_100 {R : Room} {s : State} {args : Array Value} {rm : Room} {mc ms : Nat} (hA : ∀ w ∈ wA, w.before args s = true) (hrc : rm.cells = mc) (hrs : rm.slots = ms) (hR : rm.frames + 1 ≤ R.frames ∧ 8 + (4 + 11) + rm.locals ≤ R.locals) : lk_CB R s args RcL 100 yL_supers bL_supers 4 (some .int) hL_supers (wL_supers :: wA) rm mc ms 3 :=
  ⟨hrc, hrs, hR.1, hR.2, pay_in hA (gdC mc_L_supers), List.mem_cons_self, hA _ mc_L_supers, hA _ ini_L, ⟨dm_L_supers.1, dm_L_supers.2.1⟩, fun sig h => by
    have h2 := dm_L_supers.2.2
    rw [h] at h2
    exact (Option.some.inj h2).symm, hA _ ml_L_100, hA _ mst_L_supers⟩
theorem dL_supers_0 : decode bL_supers 0 = .ok (.aload_n 2, 1) := by decide +kernel
theorem dL_supers_1 : decode bL_supers 1 = .ok (.iconst 0, 1) := by decide +kernel
theorem dL_supers_2 : decode bL_supers 2 = .ok (.aload_n 0, 1) := by decide +kernel
theorem dL_supers_3 : decode bL_supers 3 = .ok (.iload_n 1, 1) := by decide +kernel
theorem dL_supers_4 : decode bL_supers 4 = .ok (.invokevirtual 35, 3) := by decide +kernel
theorem dL_supers_7 : decode bL_supers 7 = .ok (.i2l, 1) := by decide +kernel
theorem dL_supers_8 : decode bL_supers 8 = .ok (.lastore, 1) := by decide +kernel
theorem dL_supers_9 : decode bL_supers 9 = .ok (.goto 6, 3) := by decide +kernel
theorem dL_supers_12 : decode bL_supers 12 = .ok (.astore_n 3, 1) := by decide +kernel
theorem dL_supers_13 : decode bL_supers 13 = .ok (.iconst 1, 1) := by decide +kernel
theorem dL_supers_14 : decode bL_supers 14 = .ok (.ireturn, 1) := by decide +kernel
theorem dL_supers_15 : decode bL_supers 15 = .ok (.iconst 0, 1) := by decide +kernel
theorem dL_supers_16 : decode bL_supers 16 = .ok (.ireturn, 1) := by decide +kernel
abbrev hL_sup : List (Nat × Nat × Nat × Nat) := [((0 : Nat), (10 : Nat), (13 : Nat), (13 : Nat))]
abbrev wL_sup : Cond := .codeWith yL_sup bL_sup 5 (some .int) hL_sup
theorem mc_L_sup : wL_sup ∈ wA := wA_m (by decide +kernel) rfl
theorem mst_L_sup : Cond.static yL_sup ∈ wA := wA_m (by decide +kernel) rfl
theorem kh_L_104 {R : Room} {s : State} {args : Array Value} {rm : Room} {mc ms : Nat} (hA : ∀ w ∈ wA, w.before args s = true) (hrc : rm.cells = mc) (hrs : rm.slots = ms) (hR : rm.frames + 1 ≤ R.frames ∧ 8 + (5 + 11) + rm.locals ≤ R.locals) : lk_CB R s args RcL 104 yL_sup bL_sup 5 (some .int) hL_sup (wL_sup :: wA) rm mc ms 4 :=
  ⟨hrc, hrs, hR.1, hR.2, pay_in hA (gdC mc_L_sup), List.mem_cons_self, hA _ mc_L_sup, hA _ ini_L, ⟨dm_L_sup.1, dm_L_sup.2.1⟩, fun sig h => by
    have h2 := dm_L_sup.2.2
    rw [h] at h2
    exact (Option.some.inj h2).symm, hA _ ml_L_104, hA _ mst_L_sup⟩
theorem dL_sup_0 : decode bL_sup 0 = .ok (.aload_n 3, 1) := by decide +kernel
theorem dL_sup_1 : decode bL_sup 1 = .ok (.iconst 0, 1) := by decide +kernel
theorem dL_sup_2 : decode bL_sup 2 = .ok (.aload_n 0, 1) := by decide +kernel
theorem dL_sup_3 : decode bL_sup 3 = .ok (.iload_n 1, 1) := by decide +kernel
theorem dL_sup_4 : decode bL_sup 4 = .ok (.iload_n 2, 1) := by decide +kernel
theorem dL_sup_5 : decode bL_sup 5 = .ok (.invokevirtual 39, 3) := by decide +kernel
theorem dL_sup_8 : decode bL_sup 8 = .ok (.i2l, 1) := by decide +kernel
theorem dL_sup_9 : decode bL_sup 9 = .ok (.lastore, 1) := by decide +kernel
theorem dL_sup_10 : decode bL_sup 10 = .ok (.goto 7, 3) := by decide +kernel
theorem dL_sup_13 : decode bL_sup 13 = .ok (.astore 4, 2) := by decide +kernel
theorem dL_sup_15 : decode bL_sup 15 = .ok (.iconst 1, 1) := by decide +kernel
theorem dL_sup_16 : decode bL_sup 16 = .ok (.ireturn, 1) := by decide +kernel
theorem dL_sup_17 : decode bL_sup 17 = .ok (.iconst 0, 1) := by decide +kernel
theorem dL_sup_18 : decode bL_sup 18 = .ok (.ireturn, 1) := by decide +kernel
abbrev hL_direct : List (Nat × Nat × Nat × Nat) := [((0 : Nat), (17 : Nat), (20 : Nat), (13 : Nat))]
abbrev wL_direct : Cond := .codeWith yL_direct bL_direct 5 (some .int) hL_direct
theorem mc_L_direct : wL_direct ∈ wA := wA_m (by decide +kernel) rfl
theorem mst_L_direct : Cond.static yL_direct ∈ wA := wA_m (by decide +kernel) rfl
theorem kh_L_107 {R : Room} {s : State} {args : Array Value} {rm : Room} {mc ms : Nat} (hA : ∀ w ∈ wA, w.before args s = true) (hrc : rm.cells = mc) (hrs : rm.slots = ms) (hR : rm.frames + 1 ≤ R.frames ∧ 8 + (5 + 11) + rm.locals ≤ R.locals) : lk_CB R s args RcL 107 yL_direct bL_direct 5 (some .int) hL_direct (wL_direct :: wA) rm mc ms 4 :=
  ⟨hrc, hrs, hR.1, hR.2, pay_in hA (gdC mc_L_direct), List.mem_cons_self, hA _ mc_L_direct, hA _ ini_L, ⟨dm_L_direct.1, dm_L_direct.2.1⟩, fun sig h => by
    have h2 := dm_L_direct.2.2
    rw [h] at h2
    exact (Option.some.inj h2).symm, hA _ ml_L_107, hA _ mst_L_direct⟩
theorem dL_direct_0 : decode bL_direct 0 = .ok (.aload_n 3, 1) := by decide +kernel
theorem dL_direct_1 : decode bL_direct 1 = .ok (.iconst 0, 1) := by decide +kernel
theorem dL_direct_2 : decode bL_direct 2 = .ok (.aload_n 0, 1) := by decide +kernel
theorem dL_direct_3 : decode bL_direct 3 = .ok (.iload_n 1, 1) := by decide +kernel
theorem dL_direct_4 : decode bL_direct 4 = .ok (.iload_n 2, 1) := by decide +kernel
theorem dL_direct_5 : decode bL_direct 5 = .ok (.invokevirtual 42, 3) := by decide +kernel
theorem dL_direct_8 : decode bL_direct 8 = .ok (.ifCond .eq 7, 3) := by decide +kernel
theorem dL_direct_11 : decode bL_direct 11 = .ok (.lconst 1, 1) := by decide +kernel
theorem dL_direct_12 : decode bL_direct 12 = .ok (.goto 4, 3) := by decide +kernel
theorem dL_direct_15 : decode bL_direct 15 = .ok (.lconst 0, 1) := by decide +kernel
theorem dL_direct_16 : decode bL_direct 16 = .ok (.lastore, 1) := by decide +kernel
theorem dL_direct_17 : decode bL_direct 17 = .ok (.goto 7, 3) := by decide +kernel
theorem dL_direct_20 : decode bL_direct 20 = .ok (.astore 4, 2) := by decide +kernel
theorem dL_direct_22 : decode bL_direct 22 = .ok (.iconst 1, 1) := by decide +kernel
theorem dL_direct_23 : decode bL_direct 23 = .ok (.ireturn, 1) := by decide +kernel
theorem dL_direct_24 : decode bL_direct 24 = .ok (.iconst 0, 1) := by decide +kernel
theorem dL_direct_25 : decode bL_direct 25 = .ok (.ireturn, 1) := by decide +kernel
abbrev hL_twin : List (Nat × Nat × Nat × Nat) := [((0 : Nat), (9 : Nat), (12 : Nat), (13 : Nat))]
abbrev wL_twin : Cond := .codeWith yL_twin bL_twin 4 (some .int) hL_twin
theorem mc_L_twin : wL_twin ∈ wA := wA_m (by decide +kernel) rfl
theorem mst_L_twin : Cond.static yL_twin ∈ wA := wA_m (by decide +kernel) rfl
theorem kh_L_110 {R : Room} {s : State} {args : Array Value} {rm : Room} {mc ms : Nat} (hA : ∀ w ∈ wA, w.before args s = true) (hrc : rm.cells = mc) (hrs : rm.slots = ms) (hR : rm.frames + 1 ≤ R.frames ∧ 8 + (4 + 11) + rm.locals ≤ R.locals) : lk_CB R s args RcL 110 yL_twin bL_twin 4 (some .int) hL_twin (wL_twin :: wA) rm mc ms 3 :=
  ⟨hrc, hrs, hR.1, hR.2, pay_in hA (gdC mc_L_twin), List.mem_cons_self, hA _ mc_L_twin, hA _ ini_L, ⟨dm_L_twin.1, dm_L_twin.2.1⟩, fun sig h => by
    have h2 := dm_L_twin.2.2
    rw [h] at h2
    exact (Option.some.inj h2).symm, hA _ ml_L_110, hA _ mst_L_twin⟩
theorem dL_twin_0 : decode bL_twin 0 = .ok (.aload_n 2, 1) := by decide +kernel
theorem dL_twin_1 : decode bL_twin 1 = .ok (.iconst 0, 1) := by decide +kernel
theorem dL_twin_2 : decode bL_twin 2 = .ok (.aload_n 0, 1) := by decide +kernel
theorem dL_twin_3 : decode bL_twin 3 = .ok (.iload_n 1, 1) := by decide +kernel
theorem dL_twin_4 : decode bL_twin 4 = .ok (.invokevirtual 45, 3) := by decide +kernel
theorem dL_twin_7 : decode bL_twin 7 = .ok (.i2l, 1) := by decide +kernel
theorem dL_twin_8 : decode bL_twin 8 = .ok (.lastore, 1) := by decide +kernel
theorem dL_twin_9 : decode bL_twin 9 = .ok (.goto 6, 3) := by decide +kernel
theorem dL_twin_12 : decode bL_twin 12 = .ok (.astore_n 3, 1) := by decide +kernel
theorem dL_twin_13 : decode bL_twin 13 = .ok (.iconst 1, 1) := by decide +kernel
theorem dL_twin_14 : decode bL_twin 14 = .ok (.ireturn, 1) := by decide +kernel
theorem dL_twin_15 : decode bL_twin 15 = .ok (.iconst 0, 1) := by decide +kernel
theorem dL_twin_16 : decode bL_twin 16 = .ok (.ireturn, 1) := by decide +kernel
abbrev hL_common : List (Nat × Nat × Nat × Nat) := [((0 : Nat), (12 : Nat), (15 : Nat), (13 : Nat))]
abbrev wL_common : Cond := .codeWith yL_common bL_common 6 (some .int) hL_common
theorem mc_L_common : wL_common ∈ wA := wA_m (by decide +kernel) rfl
theorem mst_L_common : Cond.static yL_common ∈ wA := wA_m (by decide +kernel) rfl
theorem kh_L_113 {R : Room} {s : State} {args : Array Value} {rm : Room} {mc ms : Nat} (hA : ∀ w ∈ wA, w.before args s = true) (hrc : rm.cells = mc) (hrs : rm.slots = ms) (hR : rm.frames + 1 ≤ R.frames ∧ 8 + (6 + 11) + rm.locals ≤ R.locals) : lk_CB R s args RcL 113 yL_common bL_common 6 (some .int) hL_common (wL_common :: wA) rm mc ms 5 :=
  ⟨hrc, hrs, hR.1, hR.2, pay_in hA (gdC mc_L_common), List.mem_cons_self, hA _ mc_L_common, hA _ ini_L, ⟨dm_L_common.1, dm_L_common.2.1⟩, fun sig h => by
    have h2 := dm_L_common.2.2
    rw [h] at h2
    exact (Option.some.inj h2).symm, hA _ ml_L_113, hA _ mst_L_common⟩
theorem dL_common_0 : decode bL_common 0 = .ok (.aload 4, 2) := by decide +kernel
theorem dL_common_2 : decode bL_common 2 = .ok (.iconst 0, 1) := by decide +kernel
theorem dL_common_3 : decode bL_common 3 = .ok (.aload_n 0, 1) := by decide +kernel
theorem dL_common_4 : decode bL_common 4 = .ok (.iload_n 1, 1) := by decide +kernel
theorem dL_common_5 : decode bL_common 5 = .ok (.iload_n 2, 1) := by decide +kernel
theorem dL_common_6 : decode bL_common 6 = .ok (.iload_n 3, 1) := by decide +kernel
theorem dL_common_7 : decode bL_common 7 = .ok (.invokevirtual 48, 3) := by decide +kernel
theorem dL_common_10 : decode bL_common 10 = .ok (.i2l, 1) := by decide +kernel
theorem dL_common_11 : decode bL_common 11 = .ok (.lastore, 1) := by decide +kernel
theorem dL_common_12 : decode bL_common 12 = .ok (.goto 7, 3) := by decide +kernel
theorem dL_common_15 : decode bL_common 15 = .ok (.astore 5, 2) := by decide +kernel
theorem dL_common_17 : decode bL_common 17 = .ok (.iconst 1, 1) := by decide +kernel
theorem dL_common_18 : decode bL_common 18 = .ok (.ireturn, 1) := by decide +kernel
theorem dL_common_19 : decode bL_common 19 = .ok (.iconst 0, 1) := by decide +kernel
theorem dL_common_20 : decode bL_common 20 = .ok (.ireturn, 1) := by decide +kernel
abbrev hL_why : List (Nat × Nat × Nat × Nat) := [((0 : Nat), (10 : Nat), (13 : Nat), (13 : Nat))]
abbrev wL_why : Cond := .codeWith yL_why bL_why 5 (some .int) hL_why
theorem mc_L_why : wL_why ∈ wA := wA_m (by decide +kernel) rfl
theorem mst_L_why : Cond.static yL_why ∈ wA := wA_m (by decide +kernel) rfl
theorem kh_L_116 {R : Room} {s : State} {args : Array Value} {rm : Room} {mc ms : Nat} (hA : ∀ w ∈ wA, w.before args s = true) (hrc : rm.cells = mc) (hrs : rm.slots = ms) (hR : rm.frames + 1 ≤ R.frames ∧ 8 + (5 + 11) + rm.locals ≤ R.locals) : lk_CB R s args RcL 116 yL_why bL_why 5 (some .int) hL_why (wL_why :: wA) rm mc ms 4 :=
  ⟨hrc, hrs, hR.1, hR.2, pay_in hA (gdC mc_L_why), List.mem_cons_self, hA _ mc_L_why, hA _ ini_L, ⟨dm_L_why.1, dm_L_why.2.1⟩, fun sig h => by
    have h2 := dm_L_why.2.2
    rw [h] at h2
    exact (Option.some.inj h2).symm, hA _ ml_L_116, hA _ mst_L_why⟩
theorem dL_why_0 : decode bL_why 0 = .ok (.aload_n 3, 1) := by decide +kernel
theorem dL_why_1 : decode bL_why 1 = .ok (.iconst 0, 1) := by decide +kernel
theorem dL_why_2 : decode bL_why 2 = .ok (.aload_n 0, 1) := by decide +kernel
theorem dL_why_3 : decode bL_why 3 = .ok (.iload_n 1, 1) := by decide +kernel
theorem dL_why_4 : decode bL_why 4 = .ok (.iload_n 2, 1) := by decide +kernel
theorem dL_why_5 : decode bL_why 5 = .ok (.invokevirtual 51, 3) := by decide +kernel
theorem dL_why_8 : decode bL_why 8 = .ok (.i2l, 1) := by decide +kernel
theorem dL_why_9 : decode bL_why 9 = .ok (.lastore, 1) := by decide +kernel
theorem dL_why_10 : decode bL_why 10 = .ok (.goto 7, 3) := by decide +kernel
theorem dL_why_13 : decode bL_why 13 = .ok (.astore 4, 2) := by decide +kernel
theorem dL_why_15 : decode bL_why 15 = .ok (.iconst 1, 1) := by decide +kernel
theorem dL_why_16 : decode bL_why 16 = .ok (.ireturn, 1) := by decide +kernel
theorem dL_why_17 : decode bL_why 17 = .ok (.iconst 0, 1) := by decide +kernel
theorem dL_why_18 : decode bL_why 18 = .ok (.ireturn, 1) := by decide +kernel
abbrev hL_has : List (Nat × Nat × Nat × Nat) := [((0 : Nat), (19 : Nat), (22 : Nat), (13 : Nat))]
abbrev wL_has : Cond := .codeWith yL_has bL_has 6 (some .int) hL_has
theorem mc_L_has : wL_has ∈ wA := wA_m (by decide +kernel) rfl
theorem mst_L_has : Cond.static yL_has ∈ wA := wA_m (by decide +kernel) rfl
theorem kh_L_123 {R : Room} {s : State} {args : Array Value} {rm : Room} {mc ms : Nat} (hA : ∀ w ∈ wA, w.before args s = true) (hrc : rm.cells = mc) (hrs : rm.slots = ms) (hR : rm.frames + 1 ≤ R.frames ∧ 8 + (6 + 11) + rm.locals ≤ R.locals) : lk_CB R s args RcL 123 yL_has bL_has 6 (some .int) hL_has (wL_has :: wA) rm mc ms 5 :=
  ⟨hrc, hrs, hR.1, hR.2, pay_in hA (gdC mc_L_has), List.mem_cons_self, hA _ mc_L_has, hA _ ini_L, ⟨dm_L_has.1, dm_L_has.2.1⟩, fun sig h => by
    have h2 := dm_L_has.2.2
    rw [h] at h2
    exact (Option.some.inj h2).symm, hA _ ml_L_123, hA _ mst_L_has⟩
theorem dL_has_0 : decode bL_has 0 = .ok (.aload 4, 2) := by decide +kernel
theorem dL_has_2 : decode bL_has 2 = .ok (.iconst 0, 1) := by decide +kernel
theorem dL_has_3 : decode bL_has 3 = .ok (.aload_n 0, 1) := by decide +kernel
theorem dL_has_4 : decode bL_has 4 = .ok (.iload_n 1, 1) := by decide +kernel
theorem dL_has_5 : decode bL_has 5 = .ok (.iload_n 2, 1) := by decide +kernel
theorem dL_has_6 : decode bL_has 6 = .ok (.iload_n 3, 1) := by decide +kernel
theorem dL_has_7 : decode bL_has 7 = .ok (.invokevirtual 54, 3) := by decide +kernel
theorem dL_has_10 : decode bL_has 10 = .ok (.ifCond .eq 7, 3) := by decide +kernel
theorem dL_has_13 : decode bL_has 13 = .ok (.lconst 1, 1) := by decide +kernel
theorem dL_has_14 : decode bL_has 14 = .ok (.goto 4, 3) := by decide +kernel
theorem dL_has_17 : decode bL_has 17 = .ok (.lconst 0, 1) := by decide +kernel
theorem dL_has_18 : decode bL_has 18 = .ok (.lastore, 1) := by decide +kernel
theorem dL_has_19 : decode bL_has 19 = .ok (.goto 7, 3) := by decide +kernel
theorem dL_has_22 : decode bL_has 22 = .ok (.astore 5, 2) := by decide +kernel
theorem dL_has_24 : decode bL_has 24 = .ok (.iconst 1, 1) := by decide +kernel
theorem dL_has_25 : decode bL_has 25 = .ok (.ireturn, 1) := by decide +kernel
theorem dL_has_26 : decode bL_has 26 = .ok (.iconst 0, 1) := by decide +kernel
theorem dL_has_27 : decode bL_has 27 = .ok (.ireturn, 1) := by decide +kernel
