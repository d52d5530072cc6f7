/-! TermServer: what throws. Written by wip/whole/gen/genT.py. -/
set_option maxHeartbeats 4000000 in
set_option maxRecDepth 100000 in
/-- t_checkTerm -/
theorem t_checkTerm (l : Launch) (hl0 : l.stackTraces = false) (D : va_G) (a : Nat → Nat) (kI kL kZ : ClassId) (u : sU) (x : Int32) (hN : u.2.2 0 ≤ 160) (hbad : ∀ k, k < u.2.2 0 → ¬ x = nI k) : tq_MetT l yS_checkTerm (wS_checkTerm :: wA) ({ frames := 6, cells := 1, slots := 6, locals := 100 }) (va_Pc [.ref (a 0), .int x] (tq_rX D vwA (sW a kI kL kZ u) (sT kI kL kZ))) tq_thr 1 6 (fun _ => False) := by
  refine tq_MetT_ofW (cc := bS_checkTerm) (maxL := 2) (ret := none) (by decide +kernel) rfl ?_
  intro p e s m args below meth c s₁ B1 hml hv
  obtain ⟨rfl, hP, hK, hX⟩ := hv
  have hx := B1.exec
  have hb := B1.bytes
  have hr := B1.returns
  have hA : ∀ w ∈ wA, w.before ([.ref (a 0), .int x] : List Value).toArray s = true := fun w h => atoms_spec (ws := wS_checkTerm :: wA) B1.pre w (List.mem_cons_of_mem _ h)
  have hown : s.vm.findClass RcS = some m.cls := findClass_of_methodNamed B1.named
  have hlocks := B1.notSynchronized
  have hS : va_S (fun _ => False) s.heap s.heap [] := va_S.rf
  have hl := lv_entry ([.ref (a 0), .int x]) (n := 2) (Nat.le_of_ble_eq_true rfl)
  rw [lg_entry_eq]
  generalize (lg_sl ([.ref (a 0), .int x]) ++ List.replicate (2 - (lg_sl ([.ref (a 0), .int x])).length) Slot.unset).toArray = ls at hl ⊢
  have hl : lv_has ls 2 [(0, .ref (a 0)), (1, .int x)] := hl
  refine tq_gen (fun R Q hRe hQe => ?_)
  have hRf : 6 ≤ R.frames := by rw [hRe]; exact Nat.le_of_ble_eq_true rfl
  have hRl : 100 ≤ R.locals := by rw [hRe]; exact Nat.le_of_ble_eq_true rfl
  have hRc : 1 ≤ R.cells := by rw [hRe]; exact Nat.le_of_ble_eq_true rfl
  have hRs : 6 ≤ R.slots := by rw [hRe]; exact Nat.le_of_ble_eq_true rfl
  have hnh := B1.noHandlers (atoms_spec (ws := wS_checkTerm :: wA) B1.pre _ List.mem_cons_self)
  refine lv_iload_n hx hb dS_checkTerm_0 rfl (lv_at hl 1 rfl) ?_
  refine lv_if_lt hx hb dS_checkTerm_1 (tgt := 15) (by decide) (fun h1 => ?_) (fun h1 => ?_)
  · subst hQe
    exact tq_throw (i := 132) (text := "no such description") hx hb hA hX hown hl0 hlocks (hl.1.trans hml.symm) (covers_of_empty hnh _) hS (by omega) (by omega) (by omega) (by omega) (by decide +kernel) dS_checkTerm_15 dS_checkTerm_18 dS_checkTerm_19 dS_checkTerm_21 dS_checkTerm_24
  · refine lv_iload_n hx hb dS_checkTerm_4 rfl (lv_at hl 1 rfl) ?_
    refine lv_aload_n hx hb dS_checkTerm_5 rfl (lv_at hl 0 rfl) ?_
    refine gf_S_10 (v := .ref (a 1)) hx hb hA hown hK hP 0 rfl rfl dS_checkTerm_6 ?_
    refine ks_rv ⟨hx, hb, hml, hown, hA⟩ (c_size l D a kI kL kZ u  ) (kw_S_79 hA rfl rfl ⟨Nat.le_trans (Nat.le_of_ble_eq_true rfl) hRf, Nat.le_trans (Nat.le_of_ble_eq_true rfl) hRl⟩) hK hP hS 1 1 rfl rfl rfl hl.1 (Nat.le_of_ble_eq_true rfl) ⟨by omega, by omega⟩ dS_checkTerm_9 rfl (fun H locs hP hS => ?_)
    refine lv_icmp_lt hx hb dS_checkTerm_12 (tgt := 25) (by decide) (fun h12 => ?_) (fun h12 => ?_)
    · obtain ⟨k, z1, z2⟩ := tq_in2 h1 h12 (by omega)
      exact absurd z2 (hbad k z1)
    · subst hQe
      exact tq_throw (i := 132) (text := "no such description") hx hb hA hX hown hl0 hlocks (hl.1.trans hml.symm) (covers_of_empty hnh _) hS (by omega) (by omega) (by omega) (by omega) (by decide +kernel) dS_checkTerm_15 dS_checkTerm_18 dS_checkTerm_19 dS_checkTerm_21 dS_checkTerm_24
set_option maxHeartbeats 4000000 in
set_option maxRecDepth 100000 in
/-- t_checkRole -/
theorem t_checkRole (l : Launch) (hl0 : l.stackTraces = false) (x : Int32) (hbad : ∀ k, k < 6 → ¬ x = nI k) : tq_MetT l yS_checkRole (wS_checkRole :: wA) ({ frames := 6, cells := 1, slots := 6, locals := 100 }) (va_Pc [.int x] (tq_X)) tq_thr 1 6 (fun _ => False) := by
  refine tq_MetT_ofW (cc := bS_checkRole) (maxL := 1) (ret := none) (by decide +kernel) rfl ?_
  intro p e s m args below meth c s₁ B1 hml hv
  obtain ⟨rfl, hX⟩ := hv
  have hx := B1.exec
  have hb := B1.bytes
  have hr := B1.returns
  have hA : ∀ w ∈ wA, w.before ([.int x] : List Value).toArray s = true := fun w h => atoms_spec (ws := wS_checkRole :: wA) B1.pre w (List.mem_cons_of_mem _ h)
  have hown : s.vm.findClass RcS = some m.cls := findClass_of_methodNamed B1.named
  have hlocks := B1.notSynchronized
  have hS : va_S (fun _ => False) s.heap s.heap [] := va_S.rf
  have hl := lv_entry ([.int x]) (n := 1) (Nat.le_of_ble_eq_true rfl)
  rw [lg_entry_eq]
  generalize (lg_sl ([.int x]) ++ List.replicate (1 - (lg_sl ([.int x])).length) Slot.unset).toArray = ls at hl ⊢
  have hl : lv_has ls 1 [(0, .int x)] := hl
  refine tq_gen (fun R Q hRe hQe => ?_)
  have hRf : 6 ≤ R.frames := by rw [hRe]; exact Nat.le_of_ble_eq_true rfl
  have hRl : 100 ≤ R.locals := by rw [hRe]; exact Nat.le_of_ble_eq_true rfl
  have hRc : 1 ≤ R.cells := by rw [hRe]; exact Nat.le_of_ble_eq_true rfl
  have hRs : 6 ≤ R.slots := by rw [hRe]; exact Nat.le_of_ble_eq_true rfl
  have hnh := B1.noHandlers (atoms_spec (ws := wS_checkRole :: wA) B1.pre _ List.mem_cons_self)
  refine lv_iload_n hx hb dS_checkRole_0 rfl (lv_at hl 0 rfl) ?_
  refine lv_if_lt hx hb dS_checkRole_1 (tgt := 10) (by decide) (fun h1 => ?_) (fun h1 => ?_)
  · subst hQe
    exact tq_throw (i := 137) (text := "no such role") hx hb hA hX hown hl0 hlocks (hl.1.trans hml.symm) (covers_of_empty hnh _) hS (by omega) (by omega) (by omega) (by omega) (by decide +kernel) dS_checkRole_10 dS_checkRole_13 dS_checkRole_14 dS_checkRole_16 dS_checkRole_19
  · refine lv_iload_n hx hb dS_checkRole_4 rfl (lv_at hl 0 rfl) ?_
    refine lv_bipush (v := nI 6) hx hb dS_checkRole_5 (by decide +kernel) ?_
    refine lv_icmp_lt hx hb dS_checkRole_7 (tgt := 20) (by decide) (fun h7 => ?_) (fun h7 => ?_)
    · obtain ⟨k, z1, z2⟩ := tq_in2 h1 h7 (by omega)
      exact absurd z2 (hbad k z1)
    · subst hQe
      exact tq_throw (i := 137) (text := "no such role") hx hb hA hX hown hl0 hlocks (hl.1.trans hml.symm) (covers_of_empty hnh _) hS (by omega) (by omega) (by omega) (by omega) (by decide +kernel) dS_checkRole_10 dS_checkRole_13 dS_checkRole_14 dS_checkRole_16 dS_checkRole_19
set_option maxHeartbeats 4000000 in
set_option maxRecDepth 100000 in
/-- t_both -/
theorem t_both (l : Launch) (hl0 : l.stackTraces = false) (D : va_G) (a : Nat → Nat) (kI kL kZ : ClassId) (u : sU) (x1 x2 : Int32) (hN : u.2.2 0 ≤ 160) (hbad : (∀ k, k < u.2.2 0 → ¬ x1 = nI k) ∨ (∀ k, k < u.2.2 0 → ¬ x2 = nI k)) : tq_MetT l yS_both (wS_both :: wA) ({ frames := 7, cells := 1, slots := 6, locals := 135 }) (va_Pc [.ref (a 0), .int x1, .int x2] (tq_rX D vwA (sW a kI kL kZ u) (sT kI kL kZ))) tq_thr 1 6 (fun _ => False) := by
  refine tq_MetT_ofW (cc := bS_both) (maxL := 4) (ret := (some .int)) (by decide +kernel) rfl ?_
  intro p e s m args below meth c s₁ B1 hml hv
  obtain ⟨rfl, hP, hK, hX⟩ := hv
  have hx := B1.exec
  have hb := B1.bytes
  have hr := B1.returns
  have hA : ∀ w ∈ wA, w.before ([.ref (a 0), .int x1, .int x2] : List Value).toArray s = true := fun w h => atoms_spec (ws := wS_both :: wA) B1.pre w (List.mem_cons_of_mem _ h)
  have hown : s.vm.findClass RcS = some m.cls := findClass_of_methodNamed B1.named
  have hlocks := B1.notSynchronized
  have hS : va_S (fun _ => False) s.heap s.heap [] := va_S.rf
  have hl := lv_entry ([.ref (a 0), .int x1, .int x2]) (n := 4) (Nat.le_of_ble_eq_true rfl)
  rw [lg_entry_eq]
  generalize (lg_sl ([.ref (a 0), .int x1, .int x2]) ++ List.replicate (4 - (lg_sl ([.ref (a 0), .int x1, .int x2])).length) Slot.unset).toArray = ls at hl ⊢
  have hl : lv_has ls 4 [(0, .ref (a 0)), (1, .int x1), (2, .int x2)] := hl
  refine tq_gen (fun R Q hRe hQe => ?_)
  have hRf : 7 ≤ R.frames := by rw [hRe]; exact Nat.le_of_ble_eq_true rfl
  have hRl : 135 ≤ R.locals := by rw [hRe]; exact Nat.le_of_ble_eq_true rfl
  have hRc : 1 ≤ R.cells := by rw [hRe]; exact Nat.le_of_ble_eq_true rfl
  have hRs : 6 ≤ R.slots := by rw [hRe]; exact Nat.le_of_ble_eq_true rfl
  have hnh := B1.noHandlers (atoms_spec (ws := wS_both :: wA) B1.pre _ List.mem_cons_self)
  refine lv_aload_n hx hb dS_both_0 rfl (lv_at hl 0 rfl) ?_
  refine lv_iload_n hx hb dS_both_1 rfl (lv_at hl 1 rfl) ?_
  rcases Classical.em (∃ k, k < u.2.2 0 ∧ x1 = nI k) with ⟨k1, hk1, rfl⟩ | hno
  · refine ks_rn ⟨hx, hb, hml, hown, hA⟩ (c_checkTerm l D a kI kL kZ u k1 hk1 hN) (kw_S_44 hA rfl rfl ⟨Nat.le_trans (Nat.le_of_ble_eq_true rfl) hRf, Nat.le_trans (Nat.le_of_ble_eq_true rfl) hRl⟩) hK hP hS 0 4 rfl rfl rfl hl.1 (Nat.le_of_ble_eq_true rfl) ⟨by omega, by omega⟩ dS_both_2 rfl (fun H locs hP hS => ?_)
    refine lv_aload_n hx hb dS_both_5 rfl (lv_at hl 0 rfl) ?_
    refine lv_iload_n hx hb dS_both_6 rfl (lv_at hl 2 rfl) ?_
    rcases Classical.em (∃ k, k < u.2.2 0 ∧ x2 = nI k) with ⟨k2, hk2, rfl⟩ | hno
    · refine ks_rn ⟨hx, hb, hml, hown, hA⟩ (c_checkTerm l D a kI kL kZ u k2 hk2 hN) (kw_S_44 hA rfl rfl ⟨Nat.le_trans (Nat.le_of_ble_eq_true rfl) hRf, Nat.le_trans (Nat.le_of_ble_eq_true rfl) hRl⟩) hK hP hS 0 4 rfl rfl rfl hl.1 (Nat.le_of_ble_eq_true rfl) ⟨by omega, by omega⟩ dS_both_7 rfl (fun H locs hP hS => ?_)
      exact absurd hbad (fun z => z.elim (fun z => z k1 hk1 rfl) (fun z => z k2 hk2 rfl))
    · subst hQe
      exact kt_V (As := [.int x2]) (rest := []) ⟨hx, hb, hml, hown, hA⟩ (t_checkTerm l hl0 D a kI kL kZ u x2 hN (fun k z1 z2 => hno ⟨k, z1, z2⟩)) (kw_S_44 hA rfl rfl ⟨Nat.le_trans (Nat.le_of_ble_eq_true rfl) hRf, Nat.le_trans (Nat.le_of_ble_eq_true rfl) hRl⟩) hK hP hX hS 0 4 rfl rfl rfl hl.1 (Nat.le_of_ble_eq_true rfl) ⟨by omega, by omega⟩ dS_both_7 rfl hlocks (covers_of_empty hnh _)
  · subst hQe
    exact kt_V (As := [.int x1]) (rest := []) ⟨hx, hb, hml, hown, hA⟩ (t_checkTerm l hl0 D a kI kL kZ u x1 hN (fun k z1 z2 => hno ⟨k, z1, z2⟩)) (kw_S_44 hA rfl rfl ⟨Nat.le_trans (Nat.le_of_ble_eq_true rfl) hRf, Nat.le_trans (Nat.le_of_ble_eq_true rfl) hRl⟩) hK hP hX hS 0 4 rfl rfl rfl hl.1 (Nat.le_of_ble_eq_true rfl) ⟨by omega, by omega⟩ dS_both_2 rfl hlocks (covers_of_empty hnh _)
set_option maxHeartbeats 4000000 in
set_option maxRecDepth 100000 in
/-- t_some -/
theorem t_some (l : Launch) (hl0 : l.stackTraces = false) (D : va_G) (a : Nat → Nat) (kI kL kZ : ClassId) (u : sU) (x1 x2 : Int32) (hN : u.2.2 0 ≤ 160) (hbad : (∀ k, k < 6 → ¬ x1 = nI k) ∨ (∀ k, k < u.2.2 0 → ¬ x2 = nI k)) : tq_MetT l yS_some (wS_some :: wA) ({ frames := 7, cells := 1, slots := 6, locals := 135 }) (va_Pc [.ref (a 0), .int x1, .int x2] (tq_rX D vwA (sW a kI kL kZ u) (sT kI kL kZ))) tq_thr 1 6 (fun _ => False) := by
  refine tq_MetT_ofW (cc := bS_some) (maxL := 4) (ret := (some .int)) (by decide +kernel) rfl ?_
  intro p e s m args below meth c s₁ B1 hml hv
  obtain ⟨rfl, hP, hK, hX⟩ := hv
  have hx := B1.exec
  have hb := B1.bytes
  have hr := B1.returns
  have hA : ∀ w ∈ wA, w.before ([.ref (a 0), .int x1, .int x2] : List Value).toArray s = true := fun w h => atoms_spec (ws := wS_some :: wA) B1.pre w (List.mem_cons_of_mem _ h)
  have hown : s.vm.findClass RcS = some m.cls := findClass_of_methodNamed B1.named
  have hlocks := B1.notSynchronized
  have hS : va_S (fun _ => False) s.heap s.heap [] := va_S.rf
  have hl := lv_entry ([.ref (a 0), .int x1, .int x2]) (n := 4) (Nat.le_of_ble_eq_true rfl)
  rw [lg_entry_eq]
  generalize (lg_sl ([.ref (a 0), .int x1, .int x2]) ++ List.replicate (4 - (lg_sl ([.ref (a 0), .int x1, .int x2])).length) Slot.unset).toArray = ls at hl ⊢
  have hl : lv_has ls 4 [(0, .ref (a 0)), (1, .int x1), (2, .int x2)] := hl
  refine tq_gen (fun R Q hRe hQe => ?_)
  have hRf : 7 ≤ R.frames := by rw [hRe]; exact Nat.le_of_ble_eq_true rfl
  have hRl : 135 ≤ R.locals := by rw [hRe]; exact Nat.le_of_ble_eq_true rfl
  have hRc : 1 ≤ R.cells := by rw [hRe]; exact Nat.le_of_ble_eq_true rfl
  have hRs : 6 ≤ R.slots := by rw [hRe]; exact Nat.le_of_ble_eq_true rfl
  have hnh := B1.noHandlers (atoms_spec (ws := wS_some :: wA) B1.pre _ List.mem_cons_self)
  refine lv_iload_n hx hb dS_some_0 rfl (lv_at hl 1 rfl) ?_
  rcases Classical.em (∃ k, k < 6 ∧ x1 = nI k) with ⟨k1, hk1, rfl⟩ | hno
  · refine ks_sn ⟨hx, hb, hml, hown, hA⟩ (c_checkRole l k1 hk1) (kw_S_52 hA rfl rfl ⟨Nat.le_trans (Nat.le_of_ble_eq_true rfl) hRf, Nat.le_trans (Nat.le_of_ble_eq_true rfl) hRl⟩) hP hS rfl hl.1 (Nat.le_of_ble_eq_true rfl) ⟨by omega, by omega⟩ dS_some_1 rfl (fun H locs hP hS => ?_)
    refine lv_aload_n hx hb dS_some_4 rfl (lv_at hl 0 rfl) ?_
    refine lv_iload_n hx hb dS_some_5 rfl (lv_at hl 2 rfl) ?_
    rcases Classical.em (∃ k, k < u.2.2 0 ∧ x2 = nI k) with ⟨k2, hk2, rfl⟩ | hno
    · refine ks_rn ⟨hx, hb, hml, hown, hA⟩ (c_checkTerm l D a kI kL kZ u k2 hk2 hN) (kw_S_44 hA rfl rfl ⟨Nat.le_trans (Nat.le_of_ble_eq_true rfl) hRf, Nat.le_trans (Nat.le_of_ble_eq_true rfl) hRl⟩) hK hP hS 0 4 rfl rfl rfl hl.1 (Nat.le_of_ble_eq_true rfl) ⟨by omega, by omega⟩ dS_some_6 rfl (fun H locs hP hS => ?_)
      exact absurd hbad (fun z => z.elim (fun z => z k1 hk1 rfl) (fun z => z k2 hk2 rfl))
    · subst hQe
      exact kt_V (As := [.int x2]) (rest := []) ⟨hx, hb, hml, hown, hA⟩ (t_checkTerm l hl0 D a kI kL kZ u x2 hN (fun k z1 z2 => hno ⟨k, z1, z2⟩)) (kw_S_44 hA rfl rfl ⟨Nat.le_trans (Nat.le_of_ble_eq_true rfl) hRf, Nat.le_trans (Nat.le_of_ble_eq_true rfl) hRl⟩) hK hP hX hS 0 4 rfl rfl rfl hl.1 (Nat.le_of_ble_eq_true rfl) ⟨by omega, by omega⟩ dS_some_6 rfl hlocks (covers_of_empty hnh _)
  · subst hQe
    exact kt_S (As := [.int x1]) (rest := []) ⟨hx, hb, hml, hown, hA⟩ (t_checkRole l hl0 x1 (fun k z1 z2 => hno ⟨k, z1, z2⟩)) (kw_S_52 hA rfl rfl ⟨Nat.le_trans (Nat.le_of_ble_eq_true rfl) hRf, Nat.le_trans (Nat.le_of_ble_eq_true rfl) hRl⟩) hX hS rfl hl.1 (Nat.le_of_ble_eq_true rfl) ⟨by omega, by omega⟩ dS_some_1 rfl hlocks (covers_of_empty hnh _)
set_option maxHeartbeats 4000000 in
set_option maxRecDepth 100000 in
/-- t_below -/
theorem t_below (l : Launch) (hl0 : l.stackTraces = false) (D : va_G) (a : Nat → Nat) (kI kL kZ : ClassId) (u : sU) (x1 x2 : Int32) (hN : u.2.2 0 ≤ 160) (hbad : (∀ k, k < u.2.2 0 → ¬ x1 = nI k) ∨ (∀ k, k < u.2.2 0 → ¬ x2 = nI k)) : tq_MetT l yS_below (wS_below :: wA) ({ frames := 7, cells := 1, slots := 6, locals := 135 }) (va_Pc [.ref (a 0), .int x1, .int x2] (tq_rX D vwA (sW a kI kL kZ u) (sT kI kL kZ))) tq_thr 1 6 (fun _ => False) := by
  refine tq_MetT_ofW (cc := bS_below) (maxL := 3) (ret := (some .int)) (by decide +kernel) rfl ?_
  intro p e s m args below meth c s₁ B1 hml hv
  obtain ⟨rfl, hP, hK, hX⟩ := hv
  have hx := B1.exec
  have hb := B1.bytes
  have hr := B1.returns
  have hA : ∀ w ∈ wA, w.before ([.ref (a 0), .int x1, .int x2] : List Value).toArray s = true := fun w h => atoms_spec (ws := wS_below :: wA) B1.pre w (List.mem_cons_of_mem _ h)
  have hown : s.vm.findClass RcS = some m.cls := findClass_of_methodNamed B1.named
  have hlocks := B1.notSynchronized
  have hS : va_S (fun _ => False) s.heap s.heap [] := va_S.rf
  have hl := lv_entry ([.ref (a 0), .int x1, .int x2]) (n := 3) (Nat.le_of_ble_eq_true rfl)
  rw [lg_entry_eq]
  generalize (lg_sl ([.ref (a 0), .int x1, .int x2]) ++ List.replicate (3 - (lg_sl ([.ref (a 0), .int x1, .int x2])).length) Slot.unset).toArray = ls at hl ⊢
  have hl : lv_has ls 3 [(0, .ref (a 0)), (1, .int x1), (2, .int x2)] := hl
  refine tq_gen (fun R Q hRe hQe => ?_)
  have hRf : 7 ≤ R.frames := by rw [hRe]; exact Nat.le_of_ble_eq_true rfl
  have hRl : 135 ≤ R.locals := by rw [hRe]; exact Nat.le_of_ble_eq_true rfl
  have hRc : 1 ≤ R.cells := by rw [hRe]; exact Nat.le_of_ble_eq_true rfl
  have hRs : 6 ≤ R.slots := by rw [hRe]; exact Nat.le_of_ble_eq_true rfl
  have hnh := B1.noHandlers (atoms_spec (ws := wS_below :: wA) B1.pre _ List.mem_cons_self)
  refine lv_aload_n hx hb dS_below_0 rfl (lv_at hl 0 rfl) ?_
  refine lv_iload_n hx hb dS_below_1 rfl (lv_at hl 1 rfl) ?_
  rcases Classical.em (∃ k, k < u.2.2 0 ∧ x1 = nI k) with ⟨k1, hk1, rfl⟩ | hno
  · refine ks_rn ⟨hx, hb, hml, hown, hA⟩ (c_checkTerm l D a kI kL kZ u k1 hk1 hN) (kw_S_44 hA rfl rfl ⟨Nat.le_trans (Nat.le_of_ble_eq_true rfl) hRf, Nat.le_trans (Nat.le_of_ble_eq_true rfl) hRl⟩) hK hP hS 0 4 rfl rfl rfl hl.1 (Nat.le_of_ble_eq_true rfl) ⟨by omega, by omega⟩ dS_below_2 rfl (fun H locs hP hS => ?_)
    refine lv_aload_n hx hb dS_below_5 rfl (lv_at hl 0 rfl) ?_
    refine lv_iload_n hx hb dS_below_6 rfl (lv_at hl 2 rfl) ?_
    rcases Classical.em (∃ k, k < u.2.2 0 ∧ x2 = nI k) with ⟨k2, hk2, rfl⟩ | hno
    · refine ks_rn ⟨hx, hb, hml, hown, hA⟩ (c_checkTerm l D a kI kL kZ u k2 hk2 hN) (kw_S_44 hA rfl rfl ⟨Nat.le_trans (Nat.le_of_ble_eq_true rfl) hRf, Nat.le_trans (Nat.le_of_ble_eq_true rfl) hRl⟩) hK hP hS 0 4 rfl rfl rfl hl.1 (Nat.le_of_ble_eq_true rfl) ⟨by omega, by omega⟩ dS_below_7 rfl (fun H locs hP hS => ?_)
      exact absurd hbad (fun z => z.elim (fun z => z k1 hk1 rfl) (fun z => z k2 hk2 rfl))
    · subst hQe
      exact kt_V (As := [.int x2]) (rest := []) ⟨hx, hb, hml, hown, hA⟩ (t_checkTerm l hl0 D a kI kL kZ u x2 hN (fun k z1 z2 => hno ⟨k, z1, z2⟩)) (kw_S_44 hA rfl rfl ⟨Nat.le_trans (Nat.le_of_ble_eq_true rfl) hRf, Nat.le_trans (Nat.le_of_ble_eq_true rfl) hRl⟩) hK hP hX hS 0 4 rfl rfl rfl hl.1 (Nat.le_of_ble_eq_true rfl) ⟨by omega, by omega⟩ dS_below_7 rfl hlocks (covers_of_empty hnh _)
  · subst hQe
    exact kt_V (As := [.int x1]) (rest := []) ⟨hx, hb, hml, hown, hA⟩ (t_checkTerm l hl0 D a kI kL kZ u x1 hN (fun k z1 z2 => hno ⟨k, z1, z2⟩)) (kw_S_44 hA rfl rfl ⟨Nat.le_trans (Nat.le_of_ble_eq_true rfl) hRf, Nat.le_trans (Nat.le_of_ble_eq_true rfl) hRl⟩) hK hP hX hS 0 4 rfl rfl rfl hl.1 (Nat.le_of_ble_eq_true rfl) ⟨by omega, by omega⟩ dS_below_2 rfl hlocks (covers_of_empty hnh _)
set_option maxHeartbeats 4000000 in
set_option maxRecDepth 100000 in
/-- t_equal -/
theorem t_equal (l : Launch) (hl0 : l.stackTraces = false) (D : va_G) (a : Nat → Nat) (kI kL kZ : ClassId) (u : sU) (x1 x2 : Int32) (hN : u.2.2 0 ≤ 160) (hbad : (∀ k, k < u.2.2 0 → ¬ x1 = nI k) ∨ (∀ k, k < u.2.2 0 → ¬ x2 = nI k)) : tq_MetT l yS_equal (wS_equal :: wA) ({ frames := 7, cells := 1, slots := 6, locals := 135 }) (va_Pc [.ref (a 0), .int x1, .int x2] (tq_rX D vwA (sW a kI kL kZ u) (sT kI kL kZ))) tq_thr 1 6 (fun _ => False) := by
  refine tq_MetT_ofW (cc := bS_equal) (maxL := 3) (ret := (some .int)) (by decide +kernel) rfl ?_
  intro p e s m args below meth c s₁ B1 hml hv
  obtain ⟨rfl, hP, hK, hX⟩ := hv
  have hx := B1.exec
  have hb := B1.bytes
  have hr := B1.returns
  have hA : ∀ w ∈ wA, w.before ([.ref (a 0), .int x1, .int x2] : List Value).toArray s = true := fun w h => atoms_spec (ws := wS_equal :: wA) B1.pre w (List.mem_cons_of_mem _ h)
  have hown : s.vm.findClass RcS = some m.cls := findClass_of_methodNamed B1.named
  have hlocks := B1.notSynchronized
  have hS : va_S (fun _ => False) s.heap s.heap [] := va_S.rf
  have hl := lv_entry ([.ref (a 0), .int x1, .int x2]) (n := 3) (Nat.le_of_ble_eq_true rfl)
  rw [lg_entry_eq]
  generalize (lg_sl ([.ref (a 0), .int x1, .int x2]) ++ List.replicate (3 - (lg_sl ([.ref (a 0), .int x1, .int x2])).length) Slot.unset).toArray = ls at hl ⊢
  have hl : lv_has ls 3 [(0, .ref (a 0)), (1, .int x1), (2, .int x2)] := hl
  refine tq_gen (fun R Q hRe hQe => ?_)
  have hRf : 7 ≤ R.frames := by rw [hRe]; exact Nat.le_of_ble_eq_true rfl
  have hRl : 135 ≤ R.locals := by rw [hRe]; exact Nat.le_of_ble_eq_true rfl
  have hRc : 1 ≤ R.cells := by rw [hRe]; exact Nat.le_of_ble_eq_true rfl
  have hRs : 6 ≤ R.slots := by rw [hRe]; exact Nat.le_of_ble_eq_true rfl
  have hnh := B1.noHandlers (atoms_spec (ws := wS_equal :: wA) B1.pre _ List.mem_cons_self)
  refine lv_aload_n hx hb dS_equal_0 rfl (lv_at hl 0 rfl) ?_
  refine lv_iload_n hx hb dS_equal_1 rfl (lv_at hl 1 rfl) ?_
  rcases Classical.em (∃ k, k < u.2.2 0 ∧ x1 = nI k) with ⟨k1, hk1, rfl⟩ | hno
  · refine ks_rn ⟨hx, hb, hml, hown, hA⟩ (c_checkTerm l D a kI kL kZ u k1 hk1 hN) (kw_S_44 hA rfl rfl ⟨Nat.le_trans (Nat.le_of_ble_eq_true rfl) hRf, Nat.le_trans (Nat.le_of_ble_eq_true rfl) hRl⟩) hK hP hS 0 4 rfl rfl rfl hl.1 (Nat.le_of_ble_eq_true rfl) ⟨by omega, by omega⟩ dS_equal_2 rfl (fun H locs hP hS => ?_)
    refine lv_aload_n hx hb dS_equal_5 rfl (lv_at hl 0 rfl) ?_
    refine lv_iload_n hx hb dS_equal_6 rfl (lv_at hl 2 rfl) ?_
    rcases Classical.em (∃ k, k < u.2.2 0 ∧ x2 = nI k) with ⟨k2, hk2, rfl⟩ | hno
    · refine ks_rn ⟨hx, hb, hml, hown, hA⟩ (c_checkTerm l D a kI kL kZ u k2 hk2 hN) (kw_S_44 hA rfl rfl ⟨Nat.le_trans (Nat.le_of_ble_eq_true rfl) hRf, Nat.le_trans (Nat.le_of_ble_eq_true rfl) hRl⟩) hK hP hS 0 4 rfl rfl rfl hl.1 (Nat.le_of_ble_eq_true rfl) ⟨by omega, by omega⟩ dS_equal_7 rfl (fun H locs hP hS => ?_)
      exact absurd hbad (fun z => z.elim (fun z => z k1 hk1 rfl) (fun z => z k2 hk2 rfl))
    · subst hQe
      exact kt_V (As := [.int x2]) (rest := []) ⟨hx, hb, hml, hown, hA⟩ (t_checkTerm l hl0 D a kI kL kZ u x2 hN (fun k z1 z2 => hno ⟨k, z1, z2⟩)) (kw_S_44 hA rfl rfl ⟨Nat.le_trans (Nat.le_of_ble_eq_true rfl) hRf, Nat.le_trans (Nat.le_of_ble_eq_true rfl) hRl⟩) hK hP hX hS 0 4 rfl rfl rfl hl.1 (Nat.le_of_ble_eq_true rfl) ⟨by omega, by omega⟩ dS_equal_7 rfl hlocks (covers_of_empty hnh _)
  · subst hQe
    exact kt_V (As := [.int x1]) (rest := []) ⟨hx, hb, hml, hown, hA⟩ (t_checkTerm l hl0 D a kI kL kZ u x1 hN (fun k z1 z2 => hno ⟨k, z1, z2⟩)) (kw_S_44 hA rfl rfl ⟨Nat.le_trans (Nat.le_of_ble_eq_true rfl) hRf, Nat.le_trans (Nat.le_of_ble_eq_true rfl) hRl⟩) hK hP hX hS 0 4 rfl rfl rfl hl.1 (Nat.le_of_ble_eq_true rfl) ⟨by omega, by omega⟩ dS_equal_2 rfl hlocks (covers_of_empty hnh _)
set_option maxHeartbeats 4000000 in
set_option maxRecDepth 100000 in
/-- t_roleBelow -/
theorem t_roleBelow (l : Launch) (hl0 : l.stackTraces = false) (D : va_G) (a : Nat → Nat) (kI kL kZ : ClassId) (u : sU) (x1 x2 : Int32) (hN : u.2.2 0 ≤ 160) (hbad : (∀ k, k < 6 → ¬ x1 = nI k) ∨ (∀ k, k < 6 → ¬ x2 = nI k)) : tq_MetT l yS_roleBelow (wS_roleBelow :: wA) ({ frames := 7, cells := 1, slots := 6, locals := 135 }) (va_Pc [.ref (a 0), .int x1, .int x2] (tq_rX D vwA (sW a kI kL kZ u) (sT kI kL kZ))) tq_thr 1 6 (fun _ => False) := by
  refine tq_MetT_ofW (cc := bS_roleBelow) (maxL := 3) (ret := (some .int)) (by decide +kernel) rfl ?_
  intro p e s m args below meth c s₁ B1 hml hv
  obtain ⟨rfl, hP, hK, hX⟩ := hv
  have hx := B1.exec
  have hb := B1.bytes
  have hr := B1.returns
  have hA : ∀ w ∈ wA, w.before ([.ref (a 0), .int x1, .int x2] : List Value).toArray s = true := fun w h => atoms_spec (ws := wS_roleBelow :: wA) B1.pre w (List.mem_cons_of_mem _ h)
  have hown : s.vm.findClass RcS = some m.cls := findClass_of_methodNamed B1.named
  have hlocks := B1.notSynchronized
  have hS : va_S (fun _ => False) s.heap s.heap [] := va_S.rf
  have hl := lv_entry ([.ref (a 0), .int x1, .int x2]) (n := 3) (Nat.le_of_ble_eq_true rfl)
  rw [lg_entry_eq]
  generalize (lg_sl ([.ref (a 0), .int x1, .int x2]) ++ List.replicate (3 - (lg_sl ([.ref (a 0), .int x1, .int x2])).length) Slot.unset).toArray = ls at hl ⊢
  have hl : lv_has ls 3 [(0, .ref (a 0)), (1, .int x1), (2, .int x2)] := hl
  refine tq_gen (fun R Q hRe hQe => ?_)
  have hRf : 7 ≤ R.frames := by rw [hRe]; exact Nat.le_of_ble_eq_true rfl
  have hRl : 135 ≤ R.locals := by rw [hRe]; exact Nat.le_of_ble_eq_true rfl
  have hRc : 1 ≤ R.cells := by rw [hRe]; exact Nat.le_of_ble_eq_true rfl
  have hRs : 6 ≤ R.slots := by rw [hRe]; exact Nat.le_of_ble_eq_true rfl
  have hnh := B1.noHandlers (atoms_spec (ws := wS_roleBelow :: wA) B1.pre _ List.mem_cons_self)
  refine lv_iload_n hx hb dS_roleBelow_0 rfl (lv_at hl 1 rfl) ?_
  rcases Classical.em (∃ k, k < 6 ∧ x1 = nI k) with ⟨k1, hk1, rfl⟩ | hno
  · refine ks_sn ⟨hx, hb, hml, hown, hA⟩ (c_checkRole l k1 hk1) (kw_S_52 hA rfl rfl ⟨Nat.le_trans (Nat.le_of_ble_eq_true rfl) hRf, Nat.le_trans (Nat.le_of_ble_eq_true rfl) hRl⟩) hP hS rfl hl.1 (Nat.le_of_ble_eq_true rfl) ⟨by omega, by omega⟩ dS_roleBelow_1 rfl (fun H locs hP hS => ?_)
    refine lv_iload_n hx hb dS_roleBelow_4 rfl (lv_at hl 2 rfl) ?_
    rcases Classical.em (∃ k, k < 6 ∧ x2 = nI k) with ⟨k2, hk2, rfl⟩ | hno
    · refine ks_sn ⟨hx, hb, hml, hown, hA⟩ (c_checkRole l k2 hk2) (kw_S_52 hA rfl rfl ⟨Nat.le_trans (Nat.le_of_ble_eq_true rfl) hRf, Nat.le_trans (Nat.le_of_ble_eq_true rfl) hRl⟩) hP hS rfl hl.1 (Nat.le_of_ble_eq_true rfl) ⟨by omega, by omega⟩ dS_roleBelow_5 rfl (fun H locs hP hS => ?_)
      exact absurd hbad (fun z => z.elim (fun z => z k1 hk1 rfl) (fun z => z k2 hk2 rfl))
    · subst hQe
      exact kt_S (As := [.int x2]) (rest := []) ⟨hx, hb, hml, hown, hA⟩ (t_checkRole l hl0 x2 (fun k z1 z2 => hno ⟨k, z1, z2⟩)) (kw_S_52 hA rfl rfl ⟨Nat.le_trans (Nat.le_of_ble_eq_true rfl) hRf, Nat.le_trans (Nat.le_of_ble_eq_true rfl) hRl⟩) hX hS rfl hl.1 (Nat.le_of_ble_eq_true rfl) ⟨by omega, by omega⟩ dS_roleBelow_5 rfl hlocks (covers_of_empty hnh _)
  · subst hQe
    exact kt_S (As := [.int x1]) (rest := []) ⟨hx, hb, hml, hown, hA⟩ (t_checkRole l hl0 x1 (fun k z1 z2 => hno ⟨k, z1, z2⟩)) (kw_S_52 hA rfl rfl ⟨Nat.le_trans (Nat.le_of_ble_eq_true rfl) hRf, Nat.le_trans (Nat.le_of_ble_eq_true rfl) hRl⟩) hX hS rfl hl.1 (Nat.le_of_ble_eq_true rfl) ⟨by omega, by omega⟩ dS_roleBelow_1 rfl hlocks (covers_of_empty hnh _)
set_option maxHeartbeats 4000000 in
set_option maxRecDepth 100000 in
/-- t_chain -/
theorem t_chain (l : Launch) (hl0 : l.stackTraces = false) (D : va_G) (a : Nat → Nat) (kI kL kZ : ClassId) (u : sU) (x1 x2 x3 : Int32) (hN : u.2.2 0 ≤ 160) (hbad : (∀ k, k < 6 → ¬ x1 = nI k) ∨ (∀ k, k < 6 → ¬ x2 = nI k) ∨ (∀ k, k < 6 → ¬ x3 = nI k)) : tq_MetT l yS_chain (wS_chain :: wA) ({ frames := 7, cells := 1, slots := 6, locals := 135 }) (va_Pc [.ref (a 0), .int x1, .int x2, .int x3] (tq_rX D vwA (sW a kI kL kZ u) (sT kI kL kZ))) tq_thr 1 6 (fun _ => False) := by
  refine tq_MetT_ofW (cc := bS_chain) (maxL := 4) (ret := (some .int)) (by decide +kernel) rfl ?_
  intro p e s m args below meth c s₁ B1 hml hv
  obtain ⟨rfl, hP, hK, hX⟩ := hv
  have hx := B1.exec
  have hb := B1.bytes
  have hr := B1.returns
  have hA : ∀ w ∈ wA, w.before ([.ref (a 0), .int x1, .int x2, .int x3] : List Value).toArray s = true := fun w h => atoms_spec (ws := wS_chain :: wA) B1.pre w (List.mem_cons_of_mem _ h)
  have hown : s.vm.findClass RcS = some m.cls := findClass_of_methodNamed B1.named
  have hlocks := B1.notSynchronized
  have hS : va_S (fun _ => False) s.heap s.heap [] := va_S.rf
  have hl := lv_entry ([.ref (a 0), .int x1, .int x2, .int x3]) (n := 4) (Nat.le_of_ble_eq_true rfl)
  rw [lg_entry_eq]
  generalize (lg_sl ([.ref (a 0), .int x1, .int x2, .int x3]) ++ List.replicate (4 - (lg_sl ([.ref (a 0), .int x1, .int x2, .int x3])).length) Slot.unset).toArray = ls at hl ⊢
  have hl : lv_has ls 4 [(0, .ref (a 0)), (1, .int x1), (2, .int x2), (3, .int x3)] := hl
  refine tq_gen (fun R Q hRe hQe => ?_)
  have hRf : 7 ≤ R.frames := by rw [hRe]; exact Nat.le_of_ble_eq_true rfl
  have hRl : 135 ≤ R.locals := by rw [hRe]; exact Nat.le_of_ble_eq_true rfl
  have hRc : 1 ≤ R.cells := by rw [hRe]; exact Nat.le_of_ble_eq_true rfl
  have hRs : 6 ≤ R.slots := by rw [hRe]; exact Nat.le_of_ble_eq_true rfl
  have hnh := B1.noHandlers (atoms_spec (ws := wS_chain :: wA) B1.pre _ List.mem_cons_self)
  refine lv_iload_n hx hb dS_chain_0 rfl (lv_at hl 1 rfl) ?_
  rcases Classical.em (∃ k, k < 6 ∧ x1 = nI k) with ⟨k1, hk1, rfl⟩ | hno
  · refine ks_sn ⟨hx, hb, hml, hown, hA⟩ (c_checkRole l k1 hk1) (kw_S_52 hA rfl rfl ⟨Nat.le_trans (Nat.le_of_ble_eq_true rfl) hRf, Nat.le_trans (Nat.le_of_ble_eq_true rfl) hRl⟩) hP hS rfl hl.1 (Nat.le_of_ble_eq_true rfl) ⟨by omega, by omega⟩ dS_chain_1 rfl (fun H locs hP hS => ?_)
    refine lv_iload_n hx hb dS_chain_4 rfl (lv_at hl 2 rfl) ?_
    rcases Classical.em (∃ k, k < 6 ∧ x2 = nI k) with ⟨k2, hk2, rfl⟩ | hno
    · refine ks_sn ⟨hx, hb, hml, hown, hA⟩ (c_checkRole l k2 hk2) (kw_S_52 hA rfl rfl ⟨Nat.le_trans (Nat.le_of_ble_eq_true rfl) hRf, Nat.le_trans (Nat.le_of_ble_eq_true rfl) hRl⟩) hP hS rfl hl.1 (Nat.le_of_ble_eq_true rfl) ⟨by omega, by omega⟩ dS_chain_5 rfl (fun H locs hP hS => ?_)
      refine lv_iload_n hx hb dS_chain_8 rfl (lv_at hl 3 rfl) ?_
      rcases Classical.em (∃ k, k < 6 ∧ x3 = nI k) with ⟨k3, hk3, rfl⟩ | hno
      · refine ks_sn ⟨hx, hb, hml, hown, hA⟩ (c_checkRole l k3 hk3) (kw_S_52 hA rfl rfl ⟨Nat.le_trans (Nat.le_of_ble_eq_true rfl) hRf, Nat.le_trans (Nat.le_of_ble_eq_true rfl) hRl⟩) hP hS rfl hl.1 (Nat.le_of_ble_eq_true rfl) ⟨by omega, by omega⟩ dS_chain_9 rfl (fun H locs hP hS => ?_)
        exact absurd hbad (fun z => z.elim (fun z => z k1 hk1 rfl) (fun z => z.elim (fun z => z k2 hk2 rfl) (fun z => z k3 hk3 rfl)))
      · subst hQe
        exact kt_S (As := [.int x3]) (rest := []) ⟨hx, hb, hml, hown, hA⟩ (t_checkRole l hl0 x3 (fun k z1 z2 => hno ⟨k, z1, z2⟩)) (kw_S_52 hA rfl rfl ⟨Nat.le_trans (Nat.le_of_ble_eq_true rfl) hRf, Nat.le_trans (Nat.le_of_ble_eq_true rfl) hRl⟩) hX hS rfl hl.1 (Nat.le_of_ble_eq_true rfl) ⟨by omega, by omega⟩ dS_chain_9 rfl hlocks (covers_of_empty hnh _)
    · subst hQe
      exact kt_S (As := [.int x2]) (rest := []) ⟨hx, hb, hml, hown, hA⟩ (t_checkRole l hl0 x2 (fun k z1 z2 => hno ⟨k, z1, z2⟩)) (kw_S_52 hA rfl rfl ⟨Nat.le_trans (Nat.le_of_ble_eq_true rfl) hRf, Nat.le_trans (Nat.le_of_ble_eq_true rfl) hRl⟩) hX hS rfl hl.1 (Nat.le_of_ble_eq_true rfl) ⟨by omega, by omega⟩ dS_chain_5 rfl hlocks (covers_of_empty hnh _)
  · subst hQe
    exact kt_S (As := [.int x1]) (rest := []) ⟨hx, hb, hml, hown, hA⟩ (t_checkRole l hl0 x1 (fun k z1 z2 => hno ⟨k, z1, z2⟩)) (kw_S_52 hA rfl rfl ⟨Nat.le_trans (Nat.le_of_ble_eq_true rfl) hRf, Nat.le_trans (Nat.le_of_ble_eq_true rfl) hRl⟩) hX hS rfl hl.1 (Nat.le_of_ble_eq_true rfl) ⟨by omega, by omega⟩ dS_chain_1 rfl hlocks (covers_of_empty hnh _)
set_option maxHeartbeats 4000000 in
set_option maxRecDepth 100000 in
/-- t_isBelow -/
theorem t_isBelow (l : Launch) (hl0 : l.stackTraces = false) (D : va_G) (a : Nat → Nat) (kI kL kZ : ClassId) (u : sU) (x1 x2 : Int32) (hN : u.2.2 0 ≤ 160) (hbad : (∀ k, k < u.2.2 0 → ¬ x1 = nI k) ∨ (∀ k, k < u.2.2 0 → ¬ x2 = nI k)) : tq_MetT l yS_isBelow (wS_isBelow :: wA) ({ frames := 7, cells := 1, slots := 6, locals := 135 }) (va_Pc [.ref (a 0), .int x1, .int x2] (tq_rX D vwA (sW a kI kL kZ u) (sT kI kL kZ))) tq_thr 1 6 (fun _ => False) := by
  refine tq_MetT_ofW (cc := bS_isBelow) (maxL := 3) (ret := (some .boolean)) (by decide +kernel) rfl ?_
  intro p e s m args below meth c s₁ B1 hml hv
  obtain ⟨rfl, hP, hK, hX⟩ := hv
  have hx := B1.exec
  have hb := B1.bytes
  have hr := B1.returns
  have hA : ∀ w ∈ wA, w.before ([.ref (a 0), .int x1, .int x2] : List Value).toArray s = true := fun w h => atoms_spec (ws := wS_isBelow :: wA) B1.pre w (List.mem_cons_of_mem _ h)
  have hown : s.vm.findClass RcS = some m.cls := findClass_of_methodNamed B1.named
  have hlocks := B1.notSynchronized
  have hS : va_S (fun _ => False) s.heap s.heap [] := va_S.rf
  have hl := lv_entry ([.ref (a 0), .int x1, .int x2]) (n := 3) (Nat.le_of_ble_eq_true rfl)
  rw [lg_entry_eq]
  generalize (lg_sl ([.ref (a 0), .int x1, .int x2]) ++ List.replicate (3 - (lg_sl ([.ref (a 0), .int x1, .int x2])).length) Slot.unset).toArray = ls at hl ⊢
  have hl : lv_has ls 3 [(0, .ref (a 0)), (1, .int x1), (2, .int x2)] := hl
  refine tq_gen (fun R Q hRe hQe => ?_)
  have hRf : 7 ≤ R.frames := by rw [hRe]; exact Nat.le_of_ble_eq_true rfl
  have hRl : 135 ≤ R.locals := by rw [hRe]; exact Nat.le_of_ble_eq_true rfl
  have hRc : 1 ≤ R.cells := by rw [hRe]; exact Nat.le_of_ble_eq_true rfl
  have hRs : 6 ≤ R.slots := by rw [hRe]; exact Nat.le_of_ble_eq_true rfl
  have hnh := B1.noHandlers (atoms_spec (ws := wS_isBelow :: wA) B1.pre _ List.mem_cons_self)
  refine lv_aload_n hx hb dS_isBelow_0 rfl (lv_at hl 0 rfl) ?_
  refine lv_iload_n hx hb dS_isBelow_1 rfl (lv_at hl 1 rfl) ?_
  rcases Classical.em (∃ k, k < u.2.2 0 ∧ x1 = nI k) with ⟨k1, hk1, rfl⟩ | hno
  · refine ks_rn ⟨hx, hb, hml, hown, hA⟩ (c_checkTerm l D a kI kL kZ u k1 hk1 hN) (kw_S_44 hA rfl rfl ⟨Nat.le_trans (Nat.le_of_ble_eq_true rfl) hRf, Nat.le_trans (Nat.le_of_ble_eq_true rfl) hRl⟩) hK hP hS 0 4 rfl rfl rfl hl.1 (Nat.le_of_ble_eq_true rfl) ⟨by omega, by omega⟩ dS_isBelow_2 rfl (fun H locs hP hS => ?_)
    refine lv_aload_n hx hb dS_isBelow_5 rfl (lv_at hl 0 rfl) ?_
    refine lv_iload_n hx hb dS_isBelow_6 rfl (lv_at hl 2 rfl) ?_
    rcases Classical.em (∃ k, k < u.2.2 0 ∧ x2 = nI k) with ⟨k2, hk2, rfl⟩ | hno
    · refine ks_rn ⟨hx, hb, hml, hown, hA⟩ (c_checkTerm l D a kI kL kZ u k2 hk2 hN) (kw_S_44 hA rfl rfl ⟨Nat.le_trans (Nat.le_of_ble_eq_true rfl) hRf, Nat.le_trans (Nat.le_of_ble_eq_true rfl) hRl⟩) hK hP hS 0 4 rfl rfl rfl hl.1 (Nat.le_of_ble_eq_true rfl) ⟨by omega, by omega⟩ dS_isBelow_7 rfl (fun H locs hP hS => ?_)
      exact absurd hbad (fun z => z.elim (fun z => z k1 hk1 rfl) (fun z => z k2 hk2 rfl))
    · subst hQe
      exact kt_V (As := [.int x2]) (rest := []) ⟨hx, hb, hml, hown, hA⟩ (t_checkTerm l hl0 D a kI kL kZ u x2 hN (fun k z1 z2 => hno ⟨k, z1, z2⟩)) (kw_S_44 hA rfl rfl ⟨Nat.le_trans (Nat.le_of_ble_eq_true rfl) hRf, Nat.le_trans (Nat.le_of_ble_eq_true rfl) hRl⟩) hK hP hX hS 0 4 rfl rfl rfl hl.1 (Nat.le_of_ble_eq_true rfl) ⟨by omega, by omega⟩ dS_isBelow_7 rfl hlocks (covers_of_empty hnh _)
  · subst hQe
    exact kt_V (As := [.int x1]) (rest := []) ⟨hx, hb, hml, hown, hA⟩ (t_checkTerm l hl0 D a kI kL kZ u x1 hN (fun k z1 z2 => hno ⟨k, z1, z2⟩)) (kw_S_44 hA rfl rfl ⟨Nat.le_trans (Nat.le_of_ble_eq_true rfl) hRf, Nat.le_trans (Nat.le_of_ble_eq_true rfl) hRl⟩) hK hP hX hS 0 4 rfl rfl rfl hl.1 (Nat.le_of_ble_eq_true rfl) ⟨by omega, by omega⟩ dS_isBelow_2 rfl hlocks (covers_of_empty hnh _)
set_option maxHeartbeats 4000000 in
set_option maxRecDepth 100000 in
/-- t_supers -/
theorem t_supers (l : Launch) (hl0 : l.stackTraces = false) (D : va_G) (a : Nat → Nat) (kI kL kZ : ClassId) (u : sU) (x1 : Int32) (hN : u.2.2 0 ≤ 160) (hbad : (∀ k, k < u.2.2 0 → ¬ x1 = nI k)) : tq_MetT l yS_supers (wS_supers :: wA) ({ frames := 7, cells := 1, slots := 6, locals := 135 }) (va_Pc [.ref (a 0), .int x1] (tq_rX D vwA (sW a kI kL kZ u) (sT kI kL kZ))) tq_thr 1 6 (fun _ => False) := by
  refine tq_MetT_ofW (cc := bS_supers) (maxL := 4) (ret := (some .int)) (by decide +kernel) rfl ?_
  intro p e s m args below meth c s₁ B1 hml hv
  obtain ⟨rfl, hP, hK, hX⟩ := hv
  have hx := B1.exec
  have hb := B1.bytes
  have hr := B1.returns
  have hA : ∀ w ∈ wA, w.before ([.ref (a 0), .int x1] : List Value).toArray s = true := fun w h => atoms_spec (ws := wS_supers :: wA) B1.pre w (List.mem_cons_of_mem _ h)
  have hown : s.vm.findClass RcS = some m.cls := findClass_of_methodNamed B1.named
  have hlocks := B1.notSynchronized
  have hS : va_S (fun _ => False) s.heap s.heap [] := va_S.rf
  have hl := lv_entry ([.ref (a 0), .int x1]) (n := 4) (Nat.le_of_ble_eq_true rfl)
  rw [lg_entry_eq]
  generalize (lg_sl ([.ref (a 0), .int x1]) ++ List.replicate (4 - (lg_sl ([.ref (a 0), .int x1])).length) Slot.unset).toArray = ls at hl ⊢
  have hl : lv_has ls 4 [(0, .ref (a 0)), (1, .int x1)] := hl
  refine tq_gen (fun R Q hRe hQe => ?_)
  have hRf : 7 ≤ R.frames := by rw [hRe]; exact Nat.le_of_ble_eq_true rfl
  have hRl : 135 ≤ R.locals := by rw [hRe]; exact Nat.le_of_ble_eq_true rfl
  have hRc : 1 ≤ R.cells := by rw [hRe]; exact Nat.le_of_ble_eq_true rfl
  have hRs : 6 ≤ R.slots := by rw [hRe]; exact Nat.le_of_ble_eq_true rfl
  have hnh := B1.noHandlers (atoms_spec (ws := wS_supers :: wA) B1.pre _ List.mem_cons_self)
  refine lv_aload_n hx hb dS_supers_0 rfl (lv_at hl 0 rfl) ?_
  refine lv_iload_n hx hb dS_supers_1 rfl (lv_at hl 1 rfl) ?_
  rcases Classical.em (∃ k, k < u.2.2 0 ∧ x1 = nI k) with ⟨k1, hk1, rfl⟩ | hno
  · refine ks_rn ⟨hx, hb, hml, hown, hA⟩ (c_checkTerm l D a kI kL kZ u k1 hk1 hN) (kw_S_44 hA rfl rfl ⟨Nat.le_trans (Nat.le_of_ble_eq_true rfl) hRf, Nat.le_trans (Nat.le_of_ble_eq_true rfl) hRl⟩) hK hP hS 0 4 rfl rfl rfl hl.1 (Nat.le_of_ble_eq_true rfl) ⟨by omega, by omega⟩ dS_supers_2 rfl (fun H locs hP hS => ?_)
    exact absurd hbad (fun z => z k1 hk1 rfl)
  · subst hQe
    exact kt_V (As := [.int x1]) (rest := []) ⟨hx, hb, hml, hown, hA⟩ (t_checkTerm l hl0 D a kI kL kZ u x1 hN (fun k z1 z2 => hno ⟨k, z1, z2⟩)) (kw_S_44 hA rfl rfl ⟨Nat.le_trans (Nat.le_of_ble_eq_true rfl) hRf, Nat.le_trans (Nat.le_of_ble_eq_true rfl) hRl⟩) hK hP hX hS 0 4 rfl rfl rfl hl.1 (Nat.le_of_ble_eq_true rfl) ⟨by omega, by omega⟩ dS_supers_2 rfl hlocks (covers_of_empty hnh _)
set_option maxHeartbeats 4000000 in
set_option maxRecDepth 100000 in
/-- t_sup -/
theorem t_sup (l : Launch) (hl0 : l.stackTraces = false) (D : va_G) (a : Nat → Nat) (kI kL kZ : ClassId) (u : sU) (x1 x2 : Int32) (hN : u.2.2 0 ≤ 160) (hbad : (∀ k, k < u.2.2 0 → ¬ x1 = nI k)) : tq_MetT l yS_sup (wS_sup :: wA) ({ frames := 7, cells := 1, slots := 6, locals := 135 }) (va_Pc [.ref (a 0), .int x1, .int x2] (tq_rX D vwA (sW a kI kL kZ u) (sT kI kL kZ))) tq_thr 1 6 (fun _ => False) := by
  refine tq_MetT_ofW (cc := bS_sup) (maxL := 5) (ret := (some .int)) (by decide +kernel) rfl ?_
  intro p e s m args below meth c s₁ B1 hml hv
  obtain ⟨rfl, hP, hK, hX⟩ := hv
  have hx := B1.exec
  have hb := B1.bytes
  have hr := B1.returns
  have hA : ∀ w ∈ wA, w.before ([.ref (a 0), .int x1, .int x2] : List Value).toArray s = true := fun w h => atoms_spec (ws := wS_sup :: wA) B1.pre w (List.mem_cons_of_mem _ h)
  have hown : s.vm.findClass RcS = some m.cls := findClass_of_methodNamed B1.named
  have hlocks := B1.notSynchronized
  have hS : va_S (fun _ => False) s.heap s.heap [] := va_S.rf
  have hl := lv_entry ([.ref (a 0), .int x1, .int x2]) (n := 5) (Nat.le_of_ble_eq_true rfl)
  rw [lg_entry_eq]
  generalize (lg_sl ([.ref (a 0), .int x1, .int x2]) ++ List.replicate (5 - (lg_sl ([.ref (a 0), .int x1, .int x2])).length) Slot.unset).toArray = ls at hl ⊢
  have hl : lv_has ls 5 [(0, .ref (a 0)), (1, .int x1), (2, .int x2)] := hl
  refine tq_gen (fun R Q hRe hQe => ?_)
  have hRf : 7 ≤ R.frames := by rw [hRe]; exact Nat.le_of_ble_eq_true rfl
  have hRl : 135 ≤ R.locals := by rw [hRe]; exact Nat.le_of_ble_eq_true rfl
  have hRc : 1 ≤ R.cells := by rw [hRe]; exact Nat.le_of_ble_eq_true rfl
  have hRs : 6 ≤ R.slots := by rw [hRe]; exact Nat.le_of_ble_eq_true rfl
  have hnh := B1.noHandlers (atoms_spec (ws := wS_sup :: wA) B1.pre _ List.mem_cons_self)
  refine lv_aload_n hx hb dS_sup_0 rfl (lv_at hl 0 rfl) ?_
  refine lv_iload_n hx hb dS_sup_1 rfl (lv_at hl 1 rfl) ?_
  rcases Classical.em (∃ k, k < u.2.2 0 ∧ x1 = nI k) with ⟨k1, hk1, rfl⟩ | hno
  · refine ks_rn ⟨hx, hb, hml, hown, hA⟩ (c_checkTerm l D a kI kL kZ u k1 hk1 hN) (kw_S_44 hA rfl rfl ⟨Nat.le_trans (Nat.le_of_ble_eq_true rfl) hRf, Nat.le_trans (Nat.le_of_ble_eq_true rfl) hRl⟩) hK hP hS 0 4 rfl rfl rfl hl.1 (Nat.le_of_ble_eq_true rfl) ⟨by omega, by omega⟩ dS_sup_2 rfl (fun H locs hP hS => ?_)
    exact absurd hbad (fun z => z k1 hk1 rfl)
  · subst hQe
    exact kt_V (As := [.int x1]) (rest := []) ⟨hx, hb, hml, hown, hA⟩ (t_checkTerm l hl0 D a kI kL kZ u x1 hN (fun k z1 z2 => hno ⟨k, z1, z2⟩)) (kw_S_44 hA rfl rfl ⟨Nat.le_trans (Nat.le_of_ble_eq_true rfl) hRf, Nat.le_trans (Nat.le_of_ble_eq_true rfl) hRl⟩) hK hP hX hS 0 4 rfl rfl rfl hl.1 (Nat.le_of_ble_eq_true rfl) ⟨by omega, by omega⟩ dS_sup_2 rfl hlocks (covers_of_empty hnh _)
set_option maxHeartbeats 4000000 in
set_option maxRecDepth 100000 in
/-- t_direct -/
theorem t_direct (l : Launch) (hl0 : l.stackTraces = false) (D : va_G) (a : Nat → Nat) (kI kL kZ : ClassId) (u : sU) (x1 x2 : Int32) (hN : u.2.2 0 ≤ 160) (hbad : (∀ k, k < u.2.2 0 → ¬ x1 = nI k) ∨ (∀ k, k < u.2.2 0 → ¬ x2 = nI k)) : tq_MetT l yS_direct (wS_direct :: wA) ({ frames := 7, cells := 1, slots := 6, locals := 135 }) (va_Pc [.ref (a 0), .int x1, .int x2] (tq_rX D vwA (sW a kI kL kZ u) (sT kI kL kZ))) tq_thr 1 6 (fun _ => False) := by
  refine tq_MetT_ofW (cc := bS_direct) (maxL := 4) (ret := (some .boolean)) (by decide +kernel) rfl ?_
  intro p e s m args below meth c s₁ B1 hml hv
  obtain ⟨rfl, hP, hK, hX⟩ := hv
  have hx := B1.exec
  have hb := B1.bytes
  have hr := B1.returns
  have hA : ∀ w ∈ wA, w.before ([.ref (a 0), .int x1, .int x2] : List Value).toArray s = true := fun w h => atoms_spec (ws := wS_direct :: wA) B1.pre w (List.mem_cons_of_mem _ h)
  have hown : s.vm.findClass RcS = some m.cls := findClass_of_methodNamed B1.named
  have hlocks := B1.notSynchronized
  have hS : va_S (fun _ => False) s.heap s.heap [] := va_S.rf
  have hl := lv_entry ([.ref (a 0), .int x1, .int x2]) (n := 4) (Nat.le_of_ble_eq_true rfl)
  rw [lg_entry_eq]
  generalize (lg_sl ([.ref (a 0), .int x1, .int x2]) ++ List.replicate (4 - (lg_sl ([.ref (a 0), .int x1, .int x2])).length) Slot.unset).toArray = ls at hl ⊢
  have hl : lv_has ls 4 [(0, .ref (a 0)), (1, .int x1), (2, .int x2)] := hl
  refine tq_gen (fun R Q hRe hQe => ?_)
  have hRf : 7 ≤ R.frames := by rw [hRe]; exact Nat.le_of_ble_eq_true rfl
  have hRl : 135 ≤ R.locals := by rw [hRe]; exact Nat.le_of_ble_eq_true rfl
  have hRc : 1 ≤ R.cells := by rw [hRe]; exact Nat.le_of_ble_eq_true rfl
  have hRs : 6 ≤ R.slots := by rw [hRe]; exact Nat.le_of_ble_eq_true rfl
  have hnh := B1.noHandlers (atoms_spec (ws := wS_direct :: wA) B1.pre _ List.mem_cons_self)
  refine lv_aload_n hx hb dS_direct_0 rfl (lv_at hl 0 rfl) ?_
  refine lv_iload_n hx hb dS_direct_1 rfl (lv_at hl 1 rfl) ?_
  rcases Classical.em (∃ k, k < u.2.2 0 ∧ x1 = nI k) with ⟨k1, hk1, rfl⟩ | hno
  · refine ks_rn ⟨hx, hb, hml, hown, hA⟩ (c_checkTerm l D a kI kL kZ u k1 hk1 hN) (kw_S_44 hA rfl rfl ⟨Nat.le_trans (Nat.le_of_ble_eq_true rfl) hRf, Nat.le_trans (Nat.le_of_ble_eq_true rfl) hRl⟩) hK hP hS 0 4 rfl rfl rfl hl.1 (Nat.le_of_ble_eq_true rfl) ⟨by omega, by omega⟩ dS_direct_2 rfl (fun H locs hP hS => ?_)
    refine lv_aload_n hx hb dS_direct_5 rfl (lv_at hl 0 rfl) ?_
    refine lv_iload_n hx hb dS_direct_6 rfl (lv_at hl 2 rfl) ?_
    rcases Classical.em (∃ k, k < u.2.2 0 ∧ x2 = nI k) with ⟨k2, hk2, rfl⟩ | hno
    · refine ks_rn ⟨hx, hb, hml, hown, hA⟩ (c_checkTerm l D a kI kL kZ u k2 hk2 hN) (kw_S_44 hA rfl rfl ⟨Nat.le_trans (Nat.le_of_ble_eq_true rfl) hRf, Nat.le_trans (Nat.le_of_ble_eq_true rfl) hRl⟩) hK hP hS 0 4 rfl rfl rfl hl.1 (Nat.le_of_ble_eq_true rfl) ⟨by omega, by omega⟩ dS_direct_7 rfl (fun H locs hP hS => ?_)
      exact absurd hbad (fun z => z.elim (fun z => z k1 hk1 rfl) (fun z => z k2 hk2 rfl))
    · subst hQe
      exact kt_V (As := [.int x2]) (rest := []) ⟨hx, hb, hml, hown, hA⟩ (t_checkTerm l hl0 D a kI kL kZ u x2 hN (fun k z1 z2 => hno ⟨k, z1, z2⟩)) (kw_S_44 hA rfl rfl ⟨Nat.le_trans (Nat.le_of_ble_eq_true rfl) hRf, Nat.le_trans (Nat.le_of_ble_eq_true rfl) hRl⟩) hK hP hX hS 0 4 rfl rfl rfl hl.1 (Nat.le_of_ble_eq_true rfl) ⟨by omega, by omega⟩ dS_direct_7 rfl hlocks (covers_of_empty hnh _)
  · subst hQe
    exact kt_V (As := [.int x1]) (rest := []) ⟨hx, hb, hml, hown, hA⟩ (t_checkTerm l hl0 D a kI kL kZ u x1 hN (fun k z1 z2 => hno ⟨k, z1, z2⟩)) (kw_S_44 hA rfl rfl ⟨Nat.le_trans (Nat.le_of_ble_eq_true rfl) hRf, Nat.le_trans (Nat.le_of_ble_eq_true rfl) hRl⟩) hK hP hX hS 0 4 rfl rfl rfl hl.1 (Nat.le_of_ble_eq_true rfl) ⟨by omega, by omega⟩ dS_direct_2 rfl hlocks (covers_of_empty hnh _)
set_option maxHeartbeats 4000000 in
set_option maxRecDepth 100000 in
/-- t_twin -/
theorem t_twin (l : Launch) (hl0 : l.stackTraces = false) (D : va_G) (a : Nat → Nat) (kI kL kZ : ClassId) (u : sU) (x1 : Int32) (hN : u.2.2 0 ≤ 160) (hbad : (∀ k, k < u.2.2 0 → ¬ x1 = nI k)) : tq_MetT l yS_twin (wS_twin :: wA) ({ frames := 7, cells := 1, slots := 6, locals := 135 }) (va_Pc [.ref (a 0), .int x1] (tq_rX D vwA (sW a kI kL kZ u) (sT kI kL kZ))) tq_thr 1 6 (fun _ => False) := by
  refine tq_MetT_ofW (cc := bS_twin) (maxL := 2) (ret := (some .int)) (by decide +kernel) rfl ?_
  intro p e s m args below meth c s₁ B1 hml hv
  obtain ⟨rfl, hP, hK, hX⟩ := hv
  have hx := B1.exec
  have hb := B1.bytes
  have hr := B1.returns
  have hA : ∀ w ∈ wA, w.before ([.ref (a 0), .int x1] : List Value).toArray s = true := fun w h => atoms_spec (ws := wS_twin :: wA) B1.pre w (List.mem_cons_of_mem _ h)
  have hown : s.vm.findClass RcS = some m.cls := findClass_of_methodNamed B1.named
  have hlocks := B1.notSynchronized
  have hS : va_S (fun _ => False) s.heap s.heap [] := va_S.rf
  have hl := lv_entry ([.ref (a 0), .int x1]) (n := 2) (Nat.le_of_ble_eq_true rfl)
  rw [lg_entry_eq]
  generalize (lg_sl ([.ref (a 0), .int x1]) ++ List.replicate (2 - (lg_sl ([.ref (a 0), .int x1])).length) Slot.unset).toArray = ls at hl ⊢
  have hl : lv_has ls 2 [(0, .ref (a 0)), (1, .int x1)] := hl
  refine tq_gen (fun R Q hRe hQe => ?_)
  have hRf : 7 ≤ R.frames := by rw [hRe]; exact Nat.le_of_ble_eq_true rfl
  have hRl : 135 ≤ R.locals := by rw [hRe]; exact Nat.le_of_ble_eq_true rfl
  have hRc : 1 ≤ R.cells := by rw [hRe]; exact Nat.le_of_ble_eq_true rfl
  have hRs : 6 ≤ R.slots := by rw [hRe]; exact Nat.le_of_ble_eq_true rfl
  have hnh := B1.noHandlers (atoms_spec (ws := wS_twin :: wA) B1.pre _ List.mem_cons_self)
  refine lv_aload_n hx hb dS_twin_0 rfl (lv_at hl 0 rfl) ?_
  refine lv_iload_n hx hb dS_twin_1 rfl (lv_at hl 1 rfl) ?_
  rcases Classical.em (∃ k, k < u.2.2 0 ∧ x1 = nI k) with ⟨k1, hk1, rfl⟩ | hno
  · refine ks_rn ⟨hx, hb, hml, hown, hA⟩ (c_checkTerm l D a kI kL kZ u k1 hk1 hN) (kw_S_44 hA rfl rfl ⟨Nat.le_trans (Nat.le_of_ble_eq_true rfl) hRf, Nat.le_trans (Nat.le_of_ble_eq_true rfl) hRl⟩) hK hP hS 0 4 rfl rfl rfl hl.1 (Nat.le_of_ble_eq_true rfl) ⟨by omega, by omega⟩ dS_twin_2 rfl (fun H locs hP hS => ?_)
    exact absurd hbad (fun z => z k1 hk1 rfl)
  · subst hQe
    exact kt_V (As := [.int x1]) (rest := []) ⟨hx, hb, hml, hown, hA⟩ (t_checkTerm l hl0 D a kI kL kZ u x1 hN (fun k z1 z2 => hno ⟨k, z1, z2⟩)) (kw_S_44 hA rfl rfl ⟨Nat.le_trans (Nat.le_of_ble_eq_true rfl) hRf, Nat.le_trans (Nat.le_of_ble_eq_true rfl) hRl⟩) hK hP hX hS 0 4 rfl rfl rfl hl.1 (Nat.le_of_ble_eq_true rfl) ⟨by omega, by omega⟩ dS_twin_2 rfl hlocks (covers_of_empty hnh _)
set_option maxHeartbeats 4000000 in
set_option maxRecDepth 100000 in
/-- t_common -/
theorem t_common (l : Launch) (hl0 : l.stackTraces = false) (D : va_G) (a : Nat → Nat) (kI kL kZ : ClassId) (u : sU) (x1 x2 x3 : Int32) (hN : u.2.2 0 ≤ 160) (hbad : (∀ k, k < u.2.2 0 → ¬ x1 = nI k) ∨ (∀ k, k < u.2.2 0 → ¬ x2 = nI k)) : tq_MetT l yS_common (wS_common :: wA) ({ frames := 7, cells := 1, slots := 6, locals := 135 }) (va_Pc [.ref (a 0), .int x1, .int x2, .int x3] (tq_rX D vwA (sW a kI kL kZ u) (sT kI kL kZ))) tq_thr 1 6 (fun _ => False) := by
  refine tq_MetT_ofW (cc := bS_common) (maxL := 6) (ret := (some .int)) (by decide +kernel) rfl ?_
  intro p e s m args below meth c s₁ B1 hml hv
  obtain ⟨rfl, hP, hK, hX⟩ := hv
  have hx := B1.exec
  have hb := B1.bytes
  have hr := B1.returns
  have hA : ∀ w ∈ wA, w.before ([.ref (a 0), .int x1, .int x2, .int x3] : List Value).toArray s = true := fun w h => atoms_spec (ws := wS_common :: wA) B1.pre w (List.mem_cons_of_mem _ h)
  have hown : s.vm.findClass RcS = some m.cls := findClass_of_methodNamed B1.named
  have hlocks := B1.notSynchronized
  have hS : va_S (fun _ => False) s.heap s.heap [] := va_S.rf
  have hl := lv_entry ([.ref (a 0), .int x1, .int x2, .int x3]) (n := 6) (Nat.le_of_ble_eq_true rfl)
  rw [lg_entry_eq]
  generalize (lg_sl ([.ref (a 0), .int x1, .int x2, .int x3]) ++ List.replicate (6 - (lg_sl ([.ref (a 0), .int x1, .int x2, .int x3])).length) Slot.unset).toArray = ls at hl ⊢
  have hl : lv_has ls 6 [(0, .ref (a 0)), (1, .int x1), (2, .int x2), (3, .int x3)] := hl
  refine tq_gen (fun R Q hRe hQe => ?_)
  have hRf : 7 ≤ R.frames := by rw [hRe]; exact Nat.le_of_ble_eq_true rfl
  have hRl : 135 ≤ R.locals := by rw [hRe]; exact Nat.le_of_ble_eq_true rfl
  have hRc : 1 ≤ R.cells := by rw [hRe]; exact Nat.le_of_ble_eq_true rfl
  have hRs : 6 ≤ R.slots := by rw [hRe]; exact Nat.le_of_ble_eq_true rfl
  have hnh := B1.noHandlers (atoms_spec (ws := wS_common :: wA) B1.pre _ List.mem_cons_self)
  refine lv_aload_n hx hb dS_common_0 rfl (lv_at hl 0 rfl) ?_
  refine lv_iload_n hx hb dS_common_1 rfl (lv_at hl 1 rfl) ?_
  rcases Classical.em (∃ k, k < u.2.2 0 ∧ x1 = nI k) with ⟨k1, hk1, rfl⟩ | hno
  · refine ks_rn ⟨hx, hb, hml, hown, hA⟩ (c_checkTerm l D a kI kL kZ u k1 hk1 hN) (kw_S_44 hA rfl rfl ⟨Nat.le_trans (Nat.le_of_ble_eq_true rfl) hRf, Nat.le_trans (Nat.le_of_ble_eq_true rfl) hRl⟩) hK hP hS 0 4 rfl rfl rfl hl.1 (Nat.le_of_ble_eq_true rfl) ⟨by omega, by omega⟩ dS_common_2 rfl (fun H locs hP hS => ?_)
    refine lv_aload_n hx hb dS_common_5 rfl (lv_at hl 0 rfl) ?_
    refine lv_iload_n hx hb dS_common_6 rfl (lv_at hl 2 rfl) ?_
    rcases Classical.em (∃ k, k < u.2.2 0 ∧ x2 = nI k) with ⟨k2, hk2, rfl⟩ | hno
    · refine ks_rn ⟨hx, hb, hml, hown, hA⟩ (c_checkTerm l D a kI kL kZ u k2 hk2 hN) (kw_S_44 hA rfl rfl ⟨Nat.le_trans (Nat.le_of_ble_eq_true rfl) hRf, Nat.le_trans (Nat.le_of_ble_eq_true rfl) hRl⟩) hK hP hS 0 4 rfl rfl rfl hl.1 (Nat.le_of_ble_eq_true rfl) ⟨by omega, by omega⟩ dS_common_7 rfl (fun H locs hP hS => ?_)
      exact absurd hbad (fun z => z.elim (fun z => z k1 hk1 rfl) (fun z => z k2 hk2 rfl))
    · subst hQe
      exact kt_V (As := [.int x2]) (rest := []) ⟨hx, hb, hml, hown, hA⟩ (t_checkTerm l hl0 D a kI kL kZ u x2 hN (fun k z1 z2 => hno ⟨k, z1, z2⟩)) (kw_S_44 hA rfl rfl ⟨Nat.le_trans (Nat.le_of_ble_eq_true rfl) hRf, Nat.le_trans (Nat.le_of_ble_eq_true rfl) hRl⟩) hK hP hX hS 0 4 rfl rfl rfl hl.1 (Nat.le_of_ble_eq_true rfl) ⟨by omega, by omega⟩ dS_common_7 rfl hlocks (covers_of_empty hnh _)
  · subst hQe
    exact kt_V (As := [.int x1]) (rest := []) ⟨hx, hb, hml, hown, hA⟩ (t_checkTerm l hl0 D a kI kL kZ u x1 hN (fun k z1 z2 => hno ⟨k, z1, z2⟩)) (kw_S_44 hA rfl rfl ⟨Nat.le_trans (Nat.le_of_ble_eq_true rfl) hRf, Nat.le_trans (Nat.le_of_ble_eq_true rfl) hRl⟩) hK hP hX hS 0 4 rfl rfl rfl hl.1 (Nat.le_of_ble_eq_true rfl) ⟨by omega, by omega⟩ dS_common_2 rfl hlocks (covers_of_empty hnh _)
set_option maxHeartbeats 4000000 in
set_option maxRecDepth 100000 in
/-- t_why -/
theorem t_why (l : Launch) (hl0 : l.stackTraces = false) (D : va_G) (a : Nat → Nat) (kI kL kZ : ClassId) (u : sU) (x1 x2 : Int32) (hN : u.2.2 0 ≤ 160) (hbad : (∀ k, k < u.2.2 0 → ¬ x1 = nI k) ∨ (∀ k, k < u.2.2 0 → ¬ x2 = nI k)) : tq_MetT l yS_why (wS_why :: wA) ({ frames := 7, cells := 1, slots := 6, locals := 135 }) (va_Pc [.ref (a 0), .int x1, .int x2] (tq_rX D vwA (sW a kI kL kZ u) (sT kI kL kZ))) tq_thr 1 6 (fun _ => False) := by
  refine tq_MetT_ofW (cc := bS_why) (maxL := 5) (ret := (some .int)) (by decide +kernel) rfl ?_
  intro p e s m args below meth c s₁ B1 hml hv
  obtain ⟨rfl, hP, hK, hX⟩ := hv
  have hx := B1.exec
  have hb := B1.bytes
  have hr := B1.returns
  have hA : ∀ w ∈ wA, w.before ([.ref (a 0), .int x1, .int x2] : List Value).toArray s = true := fun w h => atoms_spec (ws := wS_why :: wA) B1.pre w (List.mem_cons_of_mem _ h)
  have hown : s.vm.findClass RcS = some m.cls := findClass_of_methodNamed B1.named
  have hlocks := B1.notSynchronized
  have hS : va_S (fun _ => False) s.heap s.heap [] := va_S.rf
  have hl := lv_entry ([.ref (a 0), .int x1, .int x2]) (n := 5) (Nat.le_of_ble_eq_true rfl)
  rw [lg_entry_eq]
  generalize (lg_sl ([.ref (a 0), .int x1, .int x2]) ++ List.replicate (5 - (lg_sl ([.ref (a 0), .int x1, .int x2])).length) Slot.unset).toArray = ls at hl ⊢
  have hl : lv_has ls 5 [(0, .ref (a 0)), (1, .int x1), (2, .int x2)] := hl
  refine tq_gen (fun R Q hRe hQe => ?_)
  have hRf : 7 ≤ R.frames := by rw [hRe]; exact Nat.le_of_ble_eq_true rfl
  have hRl : 135 ≤ R.locals := by rw [hRe]; exact Nat.le_of_ble_eq_true rfl
  have hRc : 1 ≤ R.cells := by rw [hRe]; exact Nat.le_of_ble_eq_true rfl
  have hRs : 6 ≤ R.slots := by rw [hRe]; exact Nat.le_of_ble_eq_true rfl
  have hnh := B1.noHandlers (atoms_spec (ws := wS_why :: wA) B1.pre _ List.mem_cons_self)
  refine lv_aload_n hx hb dS_why_0 rfl (lv_at hl 0 rfl) ?_
  refine lv_iload_n hx hb dS_why_1 rfl (lv_at hl 1 rfl) ?_
  rcases Classical.em (∃ k, k < u.2.2 0 ∧ x1 = nI k) with ⟨k1, hk1, rfl⟩ | hno
  · refine ks_rn ⟨hx, hb, hml, hown, hA⟩ (c_checkTerm l D a kI kL kZ u k1 hk1 hN) (kw_S_44 hA rfl rfl ⟨Nat.le_trans (Nat.le_of_ble_eq_true rfl) hRf, Nat.le_trans (Nat.le_of_ble_eq_true rfl) hRl⟩) hK hP hS 0 4 rfl rfl rfl hl.1 (Nat.le_of_ble_eq_true rfl) ⟨by omega, by omega⟩ dS_why_2 rfl (fun H locs hP hS => ?_)
    refine lv_aload_n hx hb dS_why_5 rfl (lv_at hl 0 rfl) ?_
    refine lv_iload_n hx hb dS_why_6 rfl (lv_at hl 2 rfl) ?_
    rcases Classical.em (∃ k, k < u.2.2 0 ∧ x2 = nI k) with ⟨k2, hk2, rfl⟩ | hno
    · refine ks_rn ⟨hx, hb, hml, hown, hA⟩ (c_checkTerm l D a kI kL kZ u k2 hk2 hN) (kw_S_44 hA rfl rfl ⟨Nat.le_trans (Nat.le_of_ble_eq_true rfl) hRf, Nat.le_trans (Nat.le_of_ble_eq_true rfl) hRl⟩) hK hP hS 0 4 rfl rfl rfl hl.1 (Nat.le_of_ble_eq_true rfl) ⟨by omega, by omega⟩ dS_why_7 rfl (fun H locs hP hS => ?_)
      exact absurd hbad (fun z => z.elim (fun z => z k1 hk1 rfl) (fun z => z k2 hk2 rfl))
    · subst hQe
      exact kt_V (As := [.int x2]) (rest := []) ⟨hx, hb, hml, hown, hA⟩ (t_checkTerm l hl0 D a kI kL kZ u x2 hN (fun k z1 z2 => hno ⟨k, z1, z2⟩)) (kw_S_44 hA rfl rfl ⟨Nat.le_trans (Nat.le_of_ble_eq_true rfl) hRf, Nat.le_trans (Nat.le_of_ble_eq_true rfl) hRl⟩) hK hP hX hS 0 4 rfl rfl rfl hl.1 (Nat.le_of_ble_eq_true rfl) ⟨by omega, by omega⟩ dS_why_7 rfl hlocks (covers_of_empty hnh _)
  · subst hQe
    exact kt_V (As := [.int x1]) (rest := []) ⟨hx, hb, hml, hown, hA⟩ (t_checkTerm l hl0 D a kI kL kZ u x1 hN (fun k z1 z2 => hno ⟨k, z1, z2⟩)) (kw_S_44 hA rfl rfl ⟨Nat.le_trans (Nat.le_of_ble_eq_true rfl) hRf, Nat.le_trans (Nat.le_of_ble_eq_true rfl) hRl⟩) hK hP hX hS 0 4 rfl rfl rfl hl.1 (Nat.le_of_ble_eq_true rfl) ⟨by omega, by omega⟩ dS_why_2 rfl hlocks (covers_of_empty hnh _)
set_option maxHeartbeats 4000000 in
set_option maxRecDepth 100000 in
/-- t_has -/
theorem t_has (l : Launch) (hl0 : l.stackTraces = false) (D : va_G) (a : Nat → Nat) (kI kL kZ : ClassId) (u : sU) (x1 x2 x3 : Int32) (hN : u.2.2 0 ≤ 160) (hbad : (∀ k, k < u.2.2 0 → ¬ x1 = nI k) ∨ (∀ k, k < 6 → ¬ x2 = nI k) ∨ (∀ k, k < u.2.2 0 → ¬ x3 = nI k)) : tq_MetT l yS_has (wS_has :: wA) ({ frames := 7, cells := 1, slots := 6, locals := 135 }) (va_Pc [.ref (a 0), .int x1, .int x2, .int x3] (tq_rX D vwA (sW a kI kL kZ u) (sT kI kL kZ))) tq_thr 1 6 (fun _ => False) := by
  refine tq_MetT_ofW (cc := bS_has) (maxL := 4) (ret := (some .boolean)) (by decide +kernel) rfl ?_
  intro p e s m args below meth c s₁ B1 hml hv
  obtain ⟨rfl, hP, hK, hX⟩ := hv
  have hx := B1.exec
  have hb := B1.bytes
  have hr := B1.returns
  have hA : ∀ w ∈ wA, w.before ([.ref (a 0), .int x1, .int x2, .int x3] : List Value).toArray s = true := fun w h => atoms_spec (ws := wS_has :: wA) B1.pre w (List.mem_cons_of_mem _ h)
  have hown : s.vm.findClass RcS = some m.cls := findClass_of_methodNamed B1.named
  have hlocks := B1.notSynchronized
  have hS : va_S (fun _ => False) s.heap s.heap [] := va_S.rf
  have hl := lv_entry ([.ref (a 0), .int x1, .int x2, .int x3]) (n := 4) (Nat.le_of_ble_eq_true rfl)
  rw [lg_entry_eq]
  generalize (lg_sl ([.ref (a 0), .int x1, .int x2, .int x3]) ++ List.replicate (4 - (lg_sl ([.ref (a 0), .int x1, .int x2, .int x3])).length) Slot.unset).toArray = ls at hl ⊢
  have hl : lv_has ls 4 [(0, .ref (a 0)), (1, .int x1), (2, .int x2), (3, .int x3)] := hl
  refine tq_gen (fun R Q hRe hQe => ?_)
  have hRf : 7 ≤ R.frames := by rw [hRe]; exact Nat.le_of_ble_eq_true rfl
  have hRl : 135 ≤ R.locals := by rw [hRe]; exact Nat.le_of_ble_eq_true rfl
  have hRc : 1 ≤ R.cells := by rw [hRe]; exact Nat.le_of_ble_eq_true rfl
  have hRs : 6 ≤ R.slots := by rw [hRe]; exact Nat.le_of_ble_eq_true rfl
  have hnh := B1.noHandlers (atoms_spec (ws := wS_has :: wA) B1.pre _ List.mem_cons_self)
  refine lv_aload_n hx hb dS_has_0 rfl (lv_at hl 0 rfl) ?_
  refine lv_iload_n hx hb dS_has_1 rfl (lv_at hl 1 rfl) ?_
  rcases Classical.em (∃ k, k < u.2.2 0 ∧ x1 = nI k) with ⟨k1, hk1, rfl⟩ | hno
  · refine ks_rn ⟨hx, hb, hml, hown, hA⟩ (c_checkTerm l D a kI kL kZ u k1 hk1 hN) (kw_S_44 hA rfl rfl ⟨Nat.le_trans (Nat.le_of_ble_eq_true rfl) hRf, Nat.le_trans (Nat.le_of_ble_eq_true rfl) hRl⟩) hK hP hS 0 4 rfl rfl rfl hl.1 (Nat.le_of_ble_eq_true rfl) ⟨by omega, by omega⟩ dS_has_2 rfl (fun H locs hP hS => ?_)
    refine lv_iload_n hx hb dS_has_5 rfl (lv_at hl 2 rfl) ?_
    rcases Classical.em (∃ k, k < 6 ∧ x2 = nI k) with ⟨k2, hk2, rfl⟩ | hno
    · refine ks_sn ⟨hx, hb, hml, hown, hA⟩ (c_checkRole l k2 hk2) (kw_S_52 hA rfl rfl ⟨Nat.le_trans (Nat.le_of_ble_eq_true rfl) hRf, Nat.le_trans (Nat.le_of_ble_eq_true rfl) hRl⟩) hP hS rfl hl.1 (Nat.le_of_ble_eq_true rfl) ⟨by omega, by omega⟩ dS_has_6 rfl (fun H locs hP hS => ?_)
      refine lv_aload_n hx hb dS_has_9 rfl (lv_at hl 0 rfl) ?_
      refine lv_iload_n hx hb dS_has_10 rfl (lv_at hl 3 rfl) ?_
      rcases Classical.em (∃ k, k < u.2.2 0 ∧ x3 = nI k) with ⟨k3, hk3, rfl⟩ | hno
      · refine ks_rn ⟨hx, hb, hml, hown, hA⟩ (c_checkTerm l D a kI kL kZ u k3 hk3 hN) (kw_S_44 hA rfl rfl ⟨Nat.le_trans (Nat.le_of_ble_eq_true rfl) hRf, Nat.le_trans (Nat.le_of_ble_eq_true rfl) hRl⟩) hK hP hS 0 4 rfl rfl rfl hl.1 (Nat.le_of_ble_eq_true rfl) ⟨by omega, by omega⟩ dS_has_11 rfl (fun H locs hP hS => ?_)
        exact absurd hbad (fun z => z.elim (fun z => z k1 hk1 rfl) (fun z => z.elim (fun z => z k2 hk2 rfl) (fun z => z k3 hk3 rfl)))
      · subst hQe
        exact kt_V (As := [.int x3]) (rest := []) ⟨hx, hb, hml, hown, hA⟩ (t_checkTerm l hl0 D a kI kL kZ u x3 hN (fun k z1 z2 => hno ⟨k, z1, z2⟩)) (kw_S_44 hA rfl rfl ⟨Nat.le_trans (Nat.le_of_ble_eq_true rfl) hRf, Nat.le_trans (Nat.le_of_ble_eq_true rfl) hRl⟩) hK hP hX hS 0 4 rfl rfl rfl hl.1 (Nat.le_of_ble_eq_true rfl) ⟨by omega, by omega⟩ dS_has_11 rfl hlocks (covers_of_empty hnh _)
    · subst hQe
      exact kt_S (As := [.int x2]) (rest := []) ⟨hx, hb, hml, hown, hA⟩ (t_checkRole l hl0 x2 (fun k z1 z2 => hno ⟨k, z1, z2⟩)) (kw_S_52 hA rfl rfl ⟨Nat.le_trans (Nat.le_of_ble_eq_true rfl) hRf, Nat.le_trans (Nat.le_of_ble_eq_true rfl) hRl⟩) hX hS rfl hl.1 (Nat.le_of_ble_eq_true rfl) ⟨by omega, by omega⟩ dS_has_6 rfl hlocks (covers_of_empty hnh _)
  · subst hQe
    exact kt_V (As := [.int x1]) (rest := []) ⟨hx, hb, hml, hown, hA⟩ (t_checkTerm l hl0 D a kI kL kZ u x1 hN (fun k z1 z2 => hno ⟨k, z1, z2⟩)) (kw_S_44 hA rfl rfl ⟨Nat.le_trans (Nat.le_of_ble_eq_true rfl) hRf, Nat.le_trans (Nat.le_of_ble_eq_true rfl) hRl⟩) hK hP hX hS 0 4 rfl rfl rfl hl.1 (Nat.le_of_ble_eq_true rfl) ⟨by omega, by omega⟩ dS_has_2 rfl hlocks (covers_of_empty hnh _)
