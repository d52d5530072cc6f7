/-! TermServer: its public methods where nothing is thrown. Written by wip/whole/gen/genS2.py. -/
set_option maxHeartbeats 4000000 in
set_option maxRecDepth 100000 in
/-- checkTerm -/
theorem c_checkTerm (l : Launch) (D : va_G) (a : Nat → Nat) (kI kL kZ : ClassId) (u : sU) (d : Nat) (hd : d < u.2.2 0) (hN : u.2.2 0 ≤ 160) : Met l yS_checkTerm (wS_checkTerm :: wA) ({ frames := 1, cells := 0, slots := 0, locals := 20 }) (va_Pc [.ref (a 0), .int (nI d)] (tq_rB D vwA (sW a kI kL kZ u) (sT kI kL kZ))) (va_Qv (fun (_ : Unit) => True) (fun _ _ => True) (fun _ => False)) 0 0 (fun _ => False) := by
  refine Met.ofW (cc := bS_checkTerm) (maxL := 2) (ret := none) (by decide +kernel) rfl ?_
  intro p e s m args below meth c s₁ B1 hml hv
  obtain ⟨rfl, hP, hK⟩ := hv
  have hx := B1.exec
  have hb := B1.bytes
  have hr := B1.returns
  have hA : ∀ w ∈ wA, w.before ([.ref (a 0), .int (nI d)] : List Value).toArray s = true := fun w h => atoms_spec (ws := wS_checkTerm :: wA) B1.pre w (List.mem_cons_of_mem _ h)
  have hown : s.vm.findClass RcS = some m.cls := findClass_of_methodNamed B1.named
  have hlocks := B1.notSynchronized
  have hS : va_S (fun _ => False) s.heap s.heap [] := va_S.rf
  have hl := lv_entry ([.ref (a 0), .int (nI d)]) (n := 2) (Nat.le_of_ble_eq_true rfl)
  rw [lg_entry_eq]
  generalize (lg_sl ([.ref (a 0), .int (nI d)]) ++ List.replicate (2 - (lg_sl ([.ref (a 0), .int (nI d)])).length) Slot.unset).toArray = ls at hl ⊢
  have hl : lv_has ls 2 [(0, .ref (a 0)), (1, .int (nI d))] := hl
  refine tq_gen (fun R Q hRe hQe => ?_)
  have hRf : 1 ≤ R.frames := by rw [hRe]; exact Nat.le_of_ble_eq_true rfl
  have hRl : 20 ≤ R.locals := by rw [hRe]; exact Nat.le_of_ble_eq_true rfl
  have hRc : 0 ≤ R.cells := by rw [hRe]; exact Nat.le_of_ble_eq_true rfl
  have hRs : 0 ≤ R.slots := by rw [hRe]; exact Nat.le_of_ble_eq_true rfl
  refine lv_iload_n hx hb dS_checkTerm_0 rfl (lv_at hl 1 rfl) ?_
  refine lv_if_lt hx hb dS_checkTerm_1 (tgt := 15) (by decide) (fun h1 => ?_) (fun h1 => ?_)
  · exact absurd h1 (nI_nn (by omega))
  · refine lv_iload_n hx hb dS_checkTerm_4 rfl (lv_at hl 1 rfl) ?_
    refine lv_aload_n hx hb dS_checkTerm_5 rfl (lv_at hl 0 rfl) ?_
    refine gf_S_10 (v := .ref (a 1)) hx hb hA hown hK hP 0 rfl rfl dS_checkTerm_6 ?_
    refine ks_rv ⟨hx, hb, hml, hown, hA⟩ (c_size l D a kI kL kZ u  ) (kw_S_79 hA rfl rfl ⟨Nat.le_trans (Nat.le_of_ble_eq_true rfl) hRf, Nat.le_trans (Nat.le_of_ble_eq_true rfl) hRl⟩) hK hP hS 1 1 rfl rfl rfl hl.1 (Nat.le_of_ble_eq_true rfl) ⟨by omega, by omega⟩ dS_checkTerm_9 rfl (fun H locs hP hS => ?_)
    refine tq_lt hx hb dS_checkTerm_12 (tgt := 25) (by decide) (by omega) (by omega) (fun h12 => ?_) (fun h12 => ?_)
    · subst hQe
      exact W.vret hx hb hr (fun t ht hW => ⟨⟨(), rfl, trivial, trivial⟩, hS.F ht⟩) hS.2.2 dS_checkTerm_25
    · omega
set_option maxHeartbeats 4000000 in
set_option maxRecDepth 100000 in
/-- checkRole -/
theorem c_checkRole (l : Launch) (i : Nat) (hi : i < 6) : Met l yS_checkRole (wS_checkRole :: wA) ({ frames := 0, cells := 0, slots := 0, locals := 0 }) (va_Pc [.int (nI i)] (fun _ => True)) (va_Qv (fun (_ : Unit) => True) (fun _ _ => True) (fun _ => False)) 0 0 (fun _ => False) := by
  refine Met.ofW (cc := bS_checkRole) (maxL := 1) (ret := none) (by decide +kernel) rfl ?_
  intro p e s m args below meth c s₁ B1 hml hv
  obtain ⟨rfl, -⟩ := hv
  have hx := B1.exec
  have hb := B1.bytes
  have hr := B1.returns
  have hA : ∀ w ∈ wA, w.before ([.int (nI i)] : List Value).toArray s = true := fun w h => atoms_spec (ws := wS_checkRole :: wA) B1.pre w (List.mem_cons_of_mem _ h)
  have hown : s.vm.findClass RcS = some m.cls := findClass_of_methodNamed B1.named
  have hlocks := B1.notSynchronized
  have hS : va_S (fun _ => False) s.heap s.heap [] := va_S.rf
  have hl := lv_entry ([.int (nI i)]) (n := 1) (Nat.le_of_ble_eq_true rfl)
  rw [lg_entry_eq]
  generalize (lg_sl ([.int (nI i)]) ++ List.replicate (1 - (lg_sl ([.int (nI i)])).length) Slot.unset).toArray = ls at hl ⊢
  have hl : lv_has ls 1 [(0, .int (nI i))] := hl
  refine tq_gen (fun R Q hRe hQe => ?_)
  have hRf : 0 ≤ R.frames := by rw [hRe]; exact Nat.le_of_ble_eq_true rfl
  have hRl : 0 ≤ R.locals := by rw [hRe]; exact Nat.le_of_ble_eq_true rfl
  have hRc : 0 ≤ R.cells := by rw [hRe]; exact Nat.le_of_ble_eq_true rfl
  have hRs : 0 ≤ R.slots := by rw [hRe]; exact Nat.le_of_ble_eq_true rfl
  refine lv_iload_n hx hb dS_checkRole_0 rfl (lv_at hl 0 rfl) ?_
  refine lv_if_lt hx hb dS_checkRole_1 (tgt := 10) (by decide) (fun h1 => ?_) (fun h1 => ?_)
  · exact absurd h1 (nI_nn (by omega))
  · refine lv_iload_n hx hb dS_checkRole_4 rfl (lv_at hl 0 rfl) ?_
    refine lv_bipush (v := nI 6) hx hb dS_checkRole_5 (by decide +kernel) ?_
    refine tq_lt hx hb dS_checkRole_7 (tgt := 20) (by decide) (by omega) (by omega) (fun h7 => ?_) (fun h7 => ?_)
    · subst hQe
      exact W.vret hx hb hr (fun t ht hW => ⟨⟨(), rfl, trivial, trivial⟩, hS.F ht⟩) hS.2.2 dS_checkRole_20
    · omega
set_option maxHeartbeats 4000000 in
set_option maxRecDepth 100000 in
/-- c_name -/
theorem c_name (l : Launch) (D : va_G) (a : Nat → Nat) (kI kL kZ : ClassId) (u : sU) (hN : u.2.2 0 ≤ 160) (hN1 : u.2.2 1 ≤ 160) : Met l yS_name (wS_name :: wA) ({ frames := 2, cells := 0, slots := 0, locals := 49 }) (va_Pc [.ref (a 0)] (tq_wB D vwA (sW a kI kL kZ u) (sT kI kL kZ))) (va_Qi (fun r (u' : sU) => (u.2.2 0 < 160 → r = nI (u.2.2 0) ∧ u' = s_name u) ∧ (¬ u.2.2 0 < 160 → r = -1 ∧ u' = u)) (fun u' t => va_P D vwA (sW a kI kL kZ u') t.heap) (sA a)) 0 0 (sA a) := by
  refine Met.ofW (cc := bS_name) (maxL := 1) (ret := (some .int)) (by decide +kernel) rfl ?_
  intro p e s m args below meth c s₁ B1 hml hv
  obtain ⟨rfl, hP, hK, hD0⟩ := hv
  have hx := B1.exec
  have hb := B1.bytes
  have hr := B1.returns
  have hA : ∀ w ∈ wA, w.before ([.ref (a 0)] : List Value).toArray s = true := fun w h => atoms_spec (ws := wS_name :: wA) B1.pre w (List.mem_cons_of_mem _ h)
  have hown : s.vm.findClass RcS = some m.cls := findClass_of_methodNamed B1.named
  have hlocks := B1.notSynchronized
  have hS : va_S (sA a) s.heap s.heap [] := va_S.rf
  have hl := lv_entry ([.ref (a 0)]) (n := 1) (Nat.le_of_ble_eq_true rfl)
  rw [lg_entry_eq]
  generalize (lg_sl ([.ref (a 0)]) ++ List.replicate (1 - (lg_sl ([.ref (a 0)])).length) Slot.unset).toArray = ls at hl ⊢
  have hl : lv_has ls 1 [(0, .ref (a 0))] := hl
  refine tq_gen (fun R Q hRe hQe => ?_)
  have hRf : 2 ≤ R.frames := by rw [hRe]; exact Nat.le_of_ble_eq_true rfl
  have hRl : 49 ≤ R.locals := by rw [hRe]; exact Nat.le_of_ble_eq_true rfl
  have hRc : 0 ≤ R.cells := by rw [hRe]; exact Nat.le_of_ble_eq_true rfl
  have hRs : 0 ≤ R.slots := by rw [hRe]; exact Nat.le_of_ble_eq_true rfl
  have hD := sA_D hD0
  refine lv_aload_n hx hb dS_name_0 rfl (lv_at hl 0 rfl) ?_
  refine gf_S_10 (v := .ref (a 1)) hx hb hA hown hK hP 0 rfl rfl dS_name_1 ?_
  refine lv_iconst (v := nI 1) hx hb dS_name_4 (by decide +kernel) ?_
  refine lv_iconst (v := (-1)) hx hb dS_name_5 (by decide +kernel) ?_
  refine lv_iconst (v := (-1)) hx hb dS_name_6 (by decide +kernel) ?_
  refine ks_i (wf := sW a kI kL kZ) (u := u) ⟨hx, hb, hml, hown, hA⟩ (c_make1 l D a kI kL kZ u (by omega) (by omega)) (kw_S_40 hA rfl rfl ⟨Nat.le_trans (Nat.le_of_ble_eq_true rfl) hRf, Nat.le_trans (Nat.le_of_ble_eq_true rfl) hRl⟩) hK hP hD hS (fun _ h => h) (fun u' => sW_adr u') 1 1 rfl rfl rfl hl.1 (Nat.le_of_ble_eq_true rfl) ⟨by omega, by omega⟩ dS_name_7 rfl (fun r1 u1 H locs hu1 hP hD hS => ?_)
  subst hQe
  exact W.iret (v := r1) hx hb hr (fun t ht hW => ⟨⟨_, u1, rfl, hu1, tq_hp ht hP⟩, hS.F ht⟩) hS.2.2 dS_name_10
set_option maxHeartbeats 4000000 in
set_option maxRecDepth 100000 in
/-- c_both -/
theorem c_both (l : Launch) (D : va_G) (a : Nat → Nat) (kI kL kZ : ClassId) (u : sU) (N : Nat) (kd fa fb : Nat → Nat) (htm : s_tm u N kd fa fb) (d d2 : Nat) (hd : d < N) (hd2 : d2 < N) : Met l yS_both (wS_both :: wA) ({ frames := 3, cells := 0, slots := 0, locals := 69 }) (va_Pc [.ref (a 0), .int (nI d), .int (nI d2)] (tq_wB D vwA (sW a kI kL kZ u) (sT kI kL kZ))) (va_Qi (fun r (u' : sU) => q_made u u' (s_both u d d2) N kd fa fb 2 d d2 r) (fun u' t => va_P D vwA (sW a kI kL kZ u') t.heap) (sA a)) 0 0 (sA a) := by
  refine Met.ofW (cc := bS_both) (maxL := 4) (ret := (some .int)) (by decide +kernel) rfl ?_
  intro p e s m args below meth c s₁ B1 hml hv
  obtain ⟨rfl, hP, hK, hD0⟩ := hv
  have hx := B1.exec
  have hb := B1.bytes
  have hr := B1.returns
  have hA : ∀ w ∈ wA, w.before ([.ref (a 0), .int (nI d), .int (nI d2)] : List Value).toArray s = true := fun w h => atoms_spec (ws := wS_both :: wA) B1.pre w (List.mem_cons_of_mem _ h)
  have hown : s.vm.findClass RcS = some m.cls := findClass_of_methodNamed B1.named
  have hlocks := B1.notSynchronized
  have hS : va_S (sA a) s.heap s.heap [] := va_S.rf
  have hl := lv_entry ([.ref (a 0), .int (nI d), .int (nI d2)]) (n := 4) (Nat.le_of_ble_eq_true rfl)
  rw [lg_entry_eq]
  generalize (lg_sl ([.ref (a 0), .int (nI d), .int (nI d2)]) ++ List.replicate (4 - (lg_sl ([.ref (a 0), .int (nI d), .int (nI d2)])).length) Slot.unset).toArray = ls at hl ⊢
  have hl : lv_has ls 4 [(0, .ref (a 0)), (1, .int (nI d)), (2, .int (nI d2))] := hl
  refine tq_gen (fun R Q hRe hQe => ?_)
  have hRf : 3 ≤ R.frames := by rw [hRe]; exact Nat.le_of_ble_eq_true rfl
  have hRl : 69 ≤ R.locals := by rw [hRe]; exact Nat.le_of_ble_eq_true rfl
  have hRc : 0 ≤ R.cells := by rw [hRe]; exact Nat.le_of_ble_eq_true rfl
  have hRs : 0 ≤ R.slots := by rw [hRe]; exact Nat.le_of_ble_eq_true rfl
  have hD := sA_D hD0
  have hN := tm_N htm
  refine lv_aload_n hx hb dS_both_0 rfl (lv_at hl 0 rfl) ?_
  refine lv_iload_n hx hb dS_both_1 rfl (lv_at hl 1 rfl) ?_
  refine ks_rn ⟨hx, hb, hml, hown, hA⟩ (c_checkTerm l D a kI kL kZ u d (by omega) (by omega)) (kw_S_44 hA rfl rfl ⟨Nat.le_trans (Nat.le_of_ble_eq_true rfl) hRf, Nat.le_trans (Nat.le_of_ble_eq_true rfl) hRl⟩) hK hP hS 0 4 rfl rfl rfl hl.1 (Nat.le_of_ble_eq_true rfl) ⟨by omega, by omega⟩ dS_both_2 rfl (fun H locs hP hS => ?_)
  refine lv_aload_n hx hb dS_both_5 rfl (lv_at hl 0 rfl) ?_
  refine lv_iload_n hx hb dS_both_6 rfl (lv_at hl 2 rfl) ?_
  refine ks_rn ⟨hx, hb, hml, hown, hA⟩ (c_checkTerm l D a kI kL kZ u d2 (by omega) (by omega)) (kw_S_44 hA rfl rfl ⟨Nat.le_trans (Nat.le_of_ble_eq_true rfl) hRf, Nat.le_trans (Nat.le_of_ble_eq_true rfl) hRl⟩) hK hP hS 0 4 rfl rfl rfl hl.1 (Nat.le_of_ble_eq_true rfl) ⟨by omega, by omega⟩ dS_both_7 rfl (fun H locs hP hS => ?_)
  refine lv_aload_n hx hb dS_both_10 rfl (lv_at hl 0 rfl) ?_
  refine gf_S_10 (v := .ref (a 1)) hx hb hA hown hK hP 0 rfl rfl dS_both_11 ?_
  refine lv_iload_n hx hb dS_both_14 rfl (lv_at hl 1 rfl) ?_
  refine lv_iload_n hx hb dS_both_15 rfl (lv_at hl 2 rfl) ?_
  refine ks_r ⟨hx, hb, hml, hown, hA⟩ (c_findBoth0 l D a kI kL kZ u d d2 (by omega) (by omega)) (kw_S_48 hA rfl rfl ⟨Nat.le_trans (Nat.le_of_ble_eq_true rfl) hRf, Nat.le_trans (Nat.le_of_ble_eq_true rfl) hRl⟩) hK hP hS 1 1 rfl rfl rfl hl.1 (Nat.le_of_ble_eq_true rfl) ⟨by omega, by omega⟩ dS_both_16 rfl (fun r1 H locs hr1 hP hS => ?_)
  have hfb := fb_of htm (by omega) (by omega) hr1
  refine lv_istore_n (lv' := [(3, .int r1), (0, .ref (a 0)), (1, .int (nI d)), (2, .int (nI d2))]) hx hb dS_both_19 rfl hl (by decide) rfl (fun ls hl => ?_)
  refine lv_iload_n hx hb dS_both_20 rfl (lv_at hl 0 rfl) ?_
  refine lv_iconst (v := (-1)) hx hb dS_both_21 (by decide +kernel) ?_
  refine lv_icmp_eq hx hb dS_both_22 (tgt := 29) (by decide) (fun h22 => ?_) (fun h22 => ?_)
  · refine lv_aload_n hx hb dS_both_29 rfl (lv_at hl 1 rfl) ?_
    refine gf_S_10 (v := .ref (a 1)) hx hb hA hown hK hP 0 rfl rfl dS_both_30 ?_
    refine lv_iconst (v := nI 2) hx hb dS_both_33 (by decide +kernel) ?_
    refine lv_iload_n hx hb dS_both_34 rfl (lv_at hl 2 rfl) ?_
    refine lv_iload_n hx hb dS_both_35 rfl (lv_at hl 3 rfl) ?_
    refine ks_i (wf := sW a kI kL kZ) (u := u) ⟨hx, hb, hml, hown, hA⟩ (c_make2 l D a kI kL kZ u (by omega) (d) (d2) (by omega) (by omega)) (kw_S_40 hA rfl rfl ⟨Nat.le_trans (Nat.le_of_ble_eq_true rfl) hRf, Nat.le_trans (Nat.le_of_ble_eq_true rfl) hRl⟩) hK hP hD hS (fun _ h => h) (fun u' => sW_adr u') 1 1 rfl rfl rfl hl.1 (Nat.le_of_ble_eq_true rfl) ⟨by omega, by omega⟩ dS_both_36 rfl (fun r2 u2 H locs hu2 hP hD hS => ?_)
    subst hQe
    exact W.iret (v := r2) hx hb hr (fun t ht hW => ⟨⟨_, u2, rfl, made_new hfb h22 hN.1 hN.2.2 hu2, tq_hp ht hP⟩, hS.F ht⟩) hS.2.2 dS_both_39
  · refine lv_iload_n hx hb dS_both_25 rfl (lv_at hl 0 rfl) ?_
    refine lv_goto hx hb dS_both_26 (tgt := 39) (by decide) ?_
    subst hQe
    exact W.iret (v := r1) hx hb hr (fun t ht hW => ⟨⟨_, u, rfl, made_old hfb h22, tq_hp ht hP⟩, hS.F ht⟩) hS.2.2 dS_both_39
set_option maxHeartbeats 4000000 in
set_option maxRecDepth 100000 in
/-- c_some -/
theorem c_some (l : Launch) (D : va_G) (a : Nat → Nat) (kI kL kZ : ClassId) (u : sU) (N : Nat) (kd fa fb : Nat → Nat) (htm : s_tm u N kd fa fb) (i d : Nat) (hi : i < 6) (hd : d < N) : Met l yS_some (wS_some :: wA) ({ frames := 2, cells := 0, slots := 0, locals := 49 }) (va_Pc [.ref (a 0), .int (nI i), .int (nI d)] (tq_wB D vwA (sW a kI kL kZ u) (sT kI kL kZ))) (va_Qi (fun r (u' : sU) => q_made u u' (s_some u i d) N kd fa fb 3 i d r) (fun u' t => va_P D vwA (sW a kI kL kZ u') t.heap) (sA a)) 0 0 (sA a) := by
  refine Met.ofW (cc := bS_some) (maxL := 4) (ret := (some .int)) (by decide +kernel) rfl ?_
  intro p e s m args below meth c s₁ B1 hml hv
  obtain ⟨rfl, hP, hK, hD0⟩ := hv
  have hx := B1.exec
  have hb := B1.bytes
  have hr := B1.returns
  have hA : ∀ w ∈ wA, w.before ([.ref (a 0), .int (nI i), .int (nI d)] : List Value).toArray s = true := fun w h => atoms_spec (ws := wS_some :: wA) B1.pre w (List.mem_cons_of_mem _ h)
  have hown : s.vm.findClass RcS = some m.cls := findClass_of_methodNamed B1.named
  have hlocks := B1.notSynchronized
  have hS : va_S (sA a) s.heap s.heap [] := va_S.rf
  have hl := lv_entry ([.ref (a 0), .int (nI i), .int (nI d)]) (n := 4) (Nat.le_of_ble_eq_true rfl)
  rw [lg_entry_eq]
  generalize (lg_sl ([.ref (a 0), .int (nI i), .int (nI d)]) ++ List.replicate (4 - (lg_sl ([.ref (a 0), .int (nI i), .int (nI d)])).length) Slot.unset).toArray = ls at hl ⊢
  have hl : lv_has ls 4 [(0, .ref (a 0)), (1, .int (nI i)), (2, .int (nI d))] := hl
  refine tq_gen (fun R Q hRe hQe => ?_)
  have hRf : 2 ≤ R.frames := by rw [hRe]; exact Nat.le_of_ble_eq_true rfl
  have hRl : 49 ≤ R.locals := by rw [hRe]; exact Nat.le_of_ble_eq_true rfl
  have hRc : 0 ≤ R.cells := by rw [hRe]; exact Nat.le_of_ble_eq_true rfl
  have hRs : 0 ≤ R.slots := by rw [hRe]; exact Nat.le_of_ble_eq_true rfl
  have hD := sA_D hD0
  have hN := tm_N htm
  have hfb := fs_of htm hi (show d < 160 by omega)
  refine lv_iload_n hx hb dS_some_0 rfl (lv_at hl 1 rfl) ?_
  refine ks_sn ⟨hx, hb, hml, hown, hA⟩ (c_checkRole l i (by omega)) (kw_S_52 hA rfl rfl ⟨Nat.le_trans (Nat.le_of_ble_eq_true rfl) hRf, Nat.le_trans (Nat.le_of_ble_eq_true rfl) hRl⟩) hP hS rfl hl.1 (Nat.le_of_ble_eq_true rfl) ⟨by omega, by omega⟩ dS_some_1 rfl (fun H locs hP hS => ?_)
  refine lv_aload_n hx hb dS_some_4 rfl (lv_at hl 0 rfl) ?_
  refine lv_iload_n hx hb dS_some_5 rfl (lv_at hl 2 rfl) ?_
  refine ks_rn ⟨hx, hb, hml, hown, hA⟩ (c_checkTerm l D a kI kL kZ u d (by omega) (by omega)) (kw_S_44 hA rfl rfl ⟨Nat.le_trans (Nat.le_of_ble_eq_true rfl) hRf, Nat.le_trans (Nat.le_of_ble_eq_true rfl) hRl⟩) hK hP hS 0 4 rfl rfl rfl hl.1 (Nat.le_of_ble_eq_true rfl) ⟨by omega, by omega⟩ dS_some_6 rfl (fun H locs hP hS => ?_)
  refine lv_aload_n hx hb dS_some_9 rfl (lv_at hl 0 rfl) ?_
  refine gf_S_10 (v := .ref (a 1)) hx hb hA hown hK hP 0 rfl rfl dS_some_10 ?_
  refine lv_iload_n hx hb dS_some_13 rfl (lv_at hl 1 rfl) ?_
  refine lv_iload_n hx hb dS_some_14 rfl (lv_at hl 2 rfl) ?_
  refine ks_rv ⟨hx, hb, hml, hown, hA⟩ (c_findSome l D a kI kL kZ u i d (by omega) (by omega)) (kw_S_55 hA rfl rfl ⟨Nat.le_trans (Nat.le_of_ble_eq_true rfl) hRf, Nat.le_trans (Nat.le_of_ble_eq_true rfl) hRl⟩) hK hP hS 1 1 rfl rfl rfl hl.1 (Nat.le_of_ble_eq_true rfl) ⟨by omega, by omega⟩ dS_some_15 rfl (fun H locs hP hS => ?_)
  refine lv_istore_n (lv' := [(3, .int ((u.2.1 3) (i * 160 + d))), (0, .ref (a 0)), (1, .int (nI i)), (2, .int (nI d))]) hx hb dS_some_18 rfl hl (by decide) rfl (fun ls hl => ?_)
  refine lv_iload_n hx hb dS_some_19 rfl (lv_at hl 0 rfl) ?_
  refine lv_iconst (v := (-1)) hx hb dS_some_20 (by decide +kernel) ?_
  refine lv_icmp_eq hx hb dS_some_21 (tgt := 28) (by decide) (fun h21 => ?_) (fun h21 => ?_)
  · refine lv_aload_n hx hb dS_some_28 rfl (lv_at hl 1 rfl) ?_
    refine gf_S_10 (v := .ref (a 1)) hx hb hA hown hK hP 0 rfl rfl dS_some_29 ?_
    refine lv_iconst (v := nI 3) hx hb dS_some_32 (by decide +kernel) ?_
    refine lv_iload_n hx hb dS_some_33 rfl (lv_at hl 2 rfl) ?_
    refine lv_iload_n hx hb dS_some_34 rfl (lv_at hl 3 rfl) ?_
    refine ks_i (wf := sW a kI kL kZ) (u := u) ⟨hx, hb, hml, hown, hA⟩ (c_make3 l D a kI kL kZ u (by omega) (i) (d) (by omega) (by omega)) (kw_S_40 hA rfl rfl ⟨Nat.le_trans (Nat.le_of_ble_eq_true rfl) hRf, Nat.le_trans (Nat.le_of_ble_eq_true rfl) hRl⟩) hK hP hD hS (fun _ h => h) (fun u' => sW_adr u') 1 1 rfl rfl rfl hl.1 (Nat.le_of_ble_eq_true rfl) ⟨by omega, by omega⟩ dS_some_35 rfl (fun r1 u1 H locs hu1 hP hD hS => ?_)
    subst hQe
    exact W.iret (v := r1) hx hb hr (fun t ht hW => ⟨⟨_, u1, rfl, made_new hfb h21 hN.1 hN.2.2 hu1, tq_hp ht hP⟩, hS.F ht⟩) hS.2.2 dS_some_38
  · refine lv_iload_n hx hb dS_some_24 rfl (lv_at hl 0 rfl) ?_
    refine lv_goto hx hb dS_some_25 (tgt := 38) (by decide) ?_
    subst hQe
    exact W.iret (v := (u.2.1 3) (i * 160 + d)) hx hb hr (fun t ht hW => ⟨⟨_, u, rfl, made_old hfb h21, tq_hp ht hP⟩, hS.F ht⟩) hS.2.2 dS_some_38
set_option maxHeartbeats 4000000 in
set_option maxRecDepth 100000 in
/-- c_below -/
theorem c_below (l : Launch) (D : va_G) (a : Nat → Nat) (kI kL kZ : ClassId) (u : sU) (hN : u.2.2 0 ≤ 160) (hT : u.2.2 2 ≤ 100) (hF : u.2.2 3 ≤ 100) (d d2 : Nat) (hd : d < u.2.2 0) (hd2 : d2 < u.2.2 0) : Met l yS_below (wS_below :: wA) ({ frames := 2, cells := 0, slots := 0, locals := 41 }) (va_Pc [.ref (a 0), .int (nI d), .int (nI d2)] (tq_wB D vwA (sW a kI kL kZ u) (sT kI kL kZ))) (va_Qi (fun r (u' : sU) => (u.2.2 2 < 100 → r = nI (u.2.2 2 + 1) ∧ u' = s_tell u (nI 0) (nI d) (nI d2) (-1)) ∧ (¬ u.2.2 2 < 100 → r = -1 ∧ u' = u)) (fun u' t => va_P D vwA (sW a kI kL kZ u') t.heap) (sA a)) 0 0 (sA a) := by
  refine Met.ofW (cc := bS_below) (maxL := 3) (ret := (some .int)) (by decide +kernel) rfl ?_
  intro p e s m args below meth c s₁ B1 hml hv
  obtain ⟨rfl, hP, hK, hD0⟩ := hv
  have hx := B1.exec
  have hb := B1.bytes
  have hr := B1.returns
  have hA : ∀ w ∈ wA, w.before ([.ref (a 0), .int (nI d), .int (nI d2)] : List Value).toArray s = true := fun w h => atoms_spec (ws := wS_below :: wA) B1.pre w (List.mem_cons_of_mem _ h)
  have hown : s.vm.findClass RcS = some m.cls := findClass_of_methodNamed B1.named
  have hlocks := B1.notSynchronized
  have hS : va_S (sA a) s.heap s.heap [] := va_S.rf
  have hl := lv_entry ([.ref (a 0), .int (nI d), .int (nI d2)]) (n := 3) (Nat.le_of_ble_eq_true rfl)
  rw [lg_entry_eq]
  generalize (lg_sl ([.ref (a 0), .int (nI d), .int (nI d2)]) ++ List.replicate (3 - (lg_sl ([.ref (a 0), .int (nI d), .int (nI d2)])).length) Slot.unset).toArray = ls at hl ⊢
  have hl : lv_has ls 3 [(0, .ref (a 0)), (1, .int (nI d)), (2, .int (nI d2))] := hl
  refine tq_gen (fun R Q hRe hQe => ?_)
  have hRf : 2 ≤ R.frames := by rw [hRe]; exact Nat.le_of_ble_eq_true rfl
  have hRl : 41 ≤ R.locals := by rw [hRe]; exact Nat.le_of_ble_eq_true rfl
  have hRc : 0 ≤ R.cells := by rw [hRe]; exact Nat.le_of_ble_eq_true rfl
  have hRs : 0 ≤ R.slots := by rw [hRe]; exact Nat.le_of_ble_eq_true rfl
  have hD := sA_D hD0
  refine lv_aload_n hx hb dS_below_0 rfl (lv_at hl 0 rfl) ?_
  refine lv_iload_n hx hb dS_below_1 rfl (lv_at hl 1 rfl) ?_
  refine ks_rn ⟨hx, hb, hml, hown, hA⟩ (c_checkTerm l D a kI kL kZ u d (by omega) (by omega)) (kw_S_44 hA rfl rfl ⟨Nat.le_trans (Nat.le_of_ble_eq_true rfl) hRf, Nat.le_trans (Nat.le_of_ble_eq_true rfl) hRl⟩) hK hP hS 0 4 rfl rfl rfl hl.1 (Nat.le_of_ble_eq_true rfl) ⟨by omega, by omega⟩ dS_below_2 rfl (fun H locs hP hS => ?_)
  refine lv_aload_n hx hb dS_below_5 rfl (lv_at hl 0 rfl) ?_
  refine lv_iload_n hx hb dS_below_6 rfl (lv_at hl 2 rfl) ?_
  refine ks_rn ⟨hx, hb, hml, hown, hA⟩ (c_checkTerm l D a kI kL kZ u d2 (by omega) (by omega)) (kw_S_44 hA rfl rfl ⟨Nat.le_trans (Nat.le_of_ble_eq_true rfl) hRf, Nat.le_trans (Nat.le_of_ble_eq_true rfl) hRl⟩) hK hP hS 0 4 rfl rfl rfl hl.1 (Nat.le_of_ble_eq_true rfl) ⟨by omega, by omega⟩ dS_below_7 rfl (fun H locs hP hS => ?_)
  refine lv_aload_n hx hb dS_below_10 rfl (lv_at hl 0 rfl) ?_
  refine gf_S_19 (v := .ref (a 2)) hx hb hA hown hK hP 0 rfl rfl dS_below_11 ?_
  refine lv_iconst (v := nI 0) hx hb dS_below_14 (by decide +kernel) ?_
  refine lv_iload_n hx hb dS_below_15 rfl (lv_at hl 1 rfl) ?_
  refine lv_iload_n hx hb dS_below_16 rfl (lv_at hl 2 rfl) ?_
  refine lv_iconst (v := (-1)) hx hb dS_below_17 (by decide +kernel) ?_
  refine ks_i (wf := sW a kI kL kZ) (u := u) ⟨hx, hb, hml, hown, hA⟩ (c_tell l D a kI kL kZ u (nI 0) (nI d) (nI d2) (-1) hT hF) (kw_S_58 hA rfl rfl ⟨Nat.le_trans (Nat.le_of_ble_eq_true rfl) hRf, Nat.le_trans (Nat.le_of_ble_eq_true rfl) hRl⟩) hK hP hD hS (fun _ h => h) (fun u' => sW_adr u') 2 2 rfl rfl rfl hl.1 (Nat.le_of_ble_eq_true rfl) ⟨by omega, by omega⟩ dS_below_18 rfl (fun r1 u1 H locs hu1 hP hD hS => ?_)
  subst hQe
  exact W.iret (v := r1) hx hb hr (fun t ht hW => ⟨⟨_, u1, rfl, hu1, tq_hp ht hP⟩, hS.F ht⟩) hS.2.2 dS_below_21
set_option maxHeartbeats 4000000 in
set_option maxRecDepth 100000 in
/-- c_equal -/
theorem c_equal (l : Launch) (D : va_G) (a : Nat → Nat) (kI kL kZ : ClassId) (u : sU) (hN : u.2.2 0 ≤ 160) (hT : u.2.2 2 ≤ 100) (hF : u.2.2 3 ≤ 100) (d d2 : Nat) (hd : d < u.2.2 0) (hd2 : d2 < u.2.2 0) : Met l yS_equal (wS_equal :: wA) ({ frames := 2, cells := 0, slots := 0, locals := 41 }) (va_Pc [.ref (a 0), .int (nI d), .int (nI d2)] (tq_wB D vwA (sW a kI kL kZ u) (sT kI kL kZ))) (va_Qi (fun r (u' : sU) => (u.2.2 2 < 100 → r = nI (u.2.2 2 + 1) ∧ u' = s_tell u (nI 1) (nI d) (nI d2) (-1)) ∧ (¬ u.2.2 2 < 100 → r = -1 ∧ u' = u)) (fun u' t => va_P D vwA (sW a kI kL kZ u') t.heap) (sA a)) 0 0 (sA a) := by
  refine Met.ofW (cc := bS_equal) (maxL := 3) (ret := (some .int)) (by decide +kernel) rfl ?_
  intro p e s m args below meth c s₁ B1 hml hv
  obtain ⟨rfl, hP, hK, hD0⟩ := hv
  have hx := B1.exec
  have hb := B1.bytes
  have hr := B1.returns
  have hA : ∀ w ∈ wA, w.before ([.ref (a 0), .int (nI d), .int (nI d2)] : List Value).toArray s = true := fun w h => atoms_spec (ws := wS_equal :: wA) B1.pre w (List.mem_cons_of_mem _ h)
  have hown : s.vm.findClass RcS = some m.cls := findClass_of_methodNamed B1.named
  have hlocks := B1.notSynchronized
  have hS : va_S (sA a) s.heap s.heap [] := va_S.rf
  have hl := lv_entry ([.ref (a 0), .int (nI d), .int (nI d2)]) (n := 3) (Nat.le_of_ble_eq_true rfl)
  rw [lg_entry_eq]
  generalize (lg_sl ([.ref (a 0), .int (nI d), .int (nI d2)]) ++ List.replicate (3 - (lg_sl ([.ref (a 0), .int (nI d), .int (nI d2)])).length) Slot.unset).toArray = ls at hl ⊢
  have hl : lv_has ls 3 [(0, .ref (a 0)), (1, .int (nI d)), (2, .int (nI d2))] := hl
  refine tq_gen (fun R Q hRe hQe => ?_)
  have hRf : 2 ≤ R.frames := by rw [hRe]; exact Nat.le_of_ble_eq_true rfl
  have hRl : 41 ≤ R.locals := by rw [hRe]; exact Nat.le_of_ble_eq_true rfl
  have hRc : 0 ≤ R.cells := by rw [hRe]; exact Nat.le_of_ble_eq_true rfl
  have hRs : 0 ≤ R.slots := by rw [hRe]; exact Nat.le_of_ble_eq_true rfl
  have hD := sA_D hD0
  refine lv_aload_n hx hb dS_equal_0 rfl (lv_at hl 0 rfl) ?_
  refine lv_iload_n hx hb dS_equal_1 rfl (lv_at hl 1 rfl) ?_
  refine ks_rn ⟨hx, hb, hml, hown, hA⟩ (c_checkTerm l D a kI kL kZ u d (by omega) (by omega)) (kw_S_44 hA rfl rfl ⟨Nat.le_trans (Nat.le_of_ble_eq_true rfl) hRf, Nat.le_trans (Nat.le_of_ble_eq_true rfl) hRl⟩) hK hP hS 0 4 rfl rfl rfl hl.1 (Nat.le_of_ble_eq_true rfl) ⟨by omega, by omega⟩ dS_equal_2 rfl (fun H locs hP hS => ?_)
  refine lv_aload_n hx hb dS_equal_5 rfl (lv_at hl 0 rfl) ?_
  refine lv_iload_n hx hb dS_equal_6 rfl (lv_at hl 2 rfl) ?_
  refine ks_rn ⟨hx, hb, hml, hown, hA⟩ (c_checkTerm l D a kI kL kZ u d2 (by omega) (by omega)) (kw_S_44 hA rfl rfl ⟨Nat.le_trans (Nat.le_of_ble_eq_true rfl) hRf, Nat.le_trans (Nat.le_of_ble_eq_true rfl) hRl⟩) hK hP hS 0 4 rfl rfl rfl hl.1 (Nat.le_of_ble_eq_true rfl) ⟨by omega, by omega⟩ dS_equal_7 rfl (fun H locs hP hS => ?_)
  refine lv_aload_n hx hb dS_equal_10 rfl (lv_at hl 0 rfl) ?_
  refine gf_S_19 (v := .ref (a 2)) hx hb hA hown hK hP 0 rfl rfl dS_equal_11 ?_
  refine lv_iconst (v := nI 1) hx hb dS_equal_14 (by decide +kernel) ?_
  refine lv_iload_n hx hb dS_equal_15 rfl (lv_at hl 1 rfl) ?_
  refine lv_iload_n hx hb dS_equal_16 rfl (lv_at hl 2 rfl) ?_
  refine lv_iconst (v := (-1)) hx hb dS_equal_17 (by decide +kernel) ?_
  refine ks_i (wf := sW a kI kL kZ) (u := u) ⟨hx, hb, hml, hown, hA⟩ (c_tell l D a kI kL kZ u (nI 1) (nI d) (nI d2) (-1) hT hF) (kw_S_58 hA rfl rfl ⟨Nat.le_trans (Nat.le_of_ble_eq_true rfl) hRf, Nat.le_trans (Nat.le_of_ble_eq_true rfl) hRl⟩) hK hP hD hS (fun _ h => h) (fun u' => sW_adr u') 2 2 rfl rfl rfl hl.1 (Nat.le_of_ble_eq_true rfl) ⟨by omega, by omega⟩ dS_equal_18 rfl (fun r1 u1 H locs hu1 hP hD hS => ?_)
  subst hQe
  exact W.iret (v := r1) hx hb hr (fun t ht hW => ⟨⟨_, u1, rfl, hu1, tq_hp ht hP⟩, hS.F ht⟩) hS.2.2 dS_equal_21
set_option maxHeartbeats 4000000 in
set_option maxRecDepth 100000 in
/-- c_roleBelow -/
theorem c_roleBelow (l : Launch) (D : va_G) (a : Nat → Nat) (kI kL kZ : ClassId) (u : sU)  (hT : u.2.2 2 ≤ 100) (hF : u.2.2 3 ≤ 100) (d d2 : Nat) (hd : d < 6) (hd2 : d2 < 6) : Met l yS_roleBelow (wS_roleBelow :: wA) ({ frames := 1, cells := 0, slots := 0, locals := 24 }) (va_Pc [.ref (a 0), .int (nI d), .int (nI d2)] (tq_wB D vwA (sW a kI kL kZ u) (sT kI kL kZ))) (va_Qi (fun r (u' : sU) => (u.2.2 2 < 100 → r = nI (u.2.2 2 + 1) ∧ u' = s_tell u (nI 2) (nI d) (nI d2) (-1)) ∧ (¬ u.2.2 2 < 100 → r = -1 ∧ u' = u)) (fun u' t => va_P D vwA (sW a kI kL kZ u') t.heap) (sA a)) 0 0 (sA a) := by
  refine Met.ofW (cc := bS_roleBelow) (maxL := 3) (ret := (some .int)) (by decide +kernel) rfl ?_
  intro p e s m args below meth c s₁ B1 hml hv
  obtain ⟨rfl, hP, hK, hD0⟩ := hv
  have hx := B1.exec
  have hb := B1.bytes
  have hr := B1.returns
  have hA : ∀ w ∈ wA, w.before ([.ref (a 0), .int (nI d), .int (nI d2)] : List Value).toArray s = true := fun w h => atoms_spec (ws := wS_roleBelow :: wA) B1.pre w (List.mem_cons_of_mem _ h)
  have hown : s.vm.findClass RcS = some m.cls := findClass_of_methodNamed B1.named
  have hlocks := B1.notSynchronized
  have hS : va_S (sA a) s.heap s.heap [] := va_S.rf
  have hl := lv_entry ([.ref (a 0), .int (nI d), .int (nI d2)]) (n := 3) (Nat.le_of_ble_eq_true rfl)
  rw [lg_entry_eq]
  generalize (lg_sl ([.ref (a 0), .int (nI d), .int (nI d2)]) ++ List.replicate (3 - (lg_sl ([.ref (a 0), .int (nI d), .int (nI d2)])).length) Slot.unset).toArray = ls at hl ⊢
  have hl : lv_has ls 3 [(0, .ref (a 0)), (1, .int (nI d)), (2, .int (nI d2))] := hl
  refine tq_gen (fun R Q hRe hQe => ?_)
  have hRf : 1 ≤ R.frames := by rw [hRe]; exact Nat.le_of_ble_eq_true rfl
  have hRl : 24 ≤ R.locals := by rw [hRe]; exact Nat.le_of_ble_eq_true rfl
  have hRc : 0 ≤ R.cells := by rw [hRe]; exact Nat.le_of_ble_eq_true rfl
  have hRs : 0 ≤ R.slots := by rw [hRe]; exact Nat.le_of_ble_eq_true rfl
  have hD := sA_D hD0
  refine lv_iload_n hx hb dS_roleBelow_0 rfl (lv_at hl 1 rfl) ?_
  refine ks_sn ⟨hx, hb, hml, hown, hA⟩ (c_checkRole l d (by omega)) (kw_S_52 hA rfl rfl ⟨Nat.le_trans (Nat.le_of_ble_eq_true rfl) hRf, Nat.le_trans (Nat.le_of_ble_eq_true rfl) hRl⟩) hP hS rfl hl.1 (Nat.le_of_ble_eq_true rfl) ⟨by omega, by omega⟩ dS_roleBelow_1 rfl (fun H locs hP hS => ?_)
  refine lv_iload_n hx hb dS_roleBelow_4 rfl (lv_at hl 2 rfl) ?_
  refine ks_sn ⟨hx, hb, hml, hown, hA⟩ (c_checkRole l d2 (by omega)) (kw_S_52 hA rfl rfl ⟨Nat.le_trans (Nat.le_of_ble_eq_true rfl) hRf, Nat.le_trans (Nat.le_of_ble_eq_true rfl) hRl⟩) hP hS rfl hl.1 (Nat.le_of_ble_eq_true rfl) ⟨by omega, by omega⟩ dS_roleBelow_5 rfl (fun H locs hP hS => ?_)
  refine lv_aload_n hx hb dS_roleBelow_8 rfl (lv_at hl 0 rfl) ?_
  refine gf_S_19 (v := .ref (a 2)) hx hb hA hown hK hP 0 rfl rfl dS_roleBelow_9 ?_
  refine lv_iconst (v := nI 2) hx hb dS_roleBelow_12 (by decide +kernel) ?_
  refine lv_iload_n hx hb dS_roleBelow_13 rfl (lv_at hl 1 rfl) ?_
  refine lv_iload_n hx hb dS_roleBelow_14 rfl (lv_at hl 2 rfl) ?_
  refine lv_iconst (v := (-1)) hx hb dS_roleBelow_15 (by decide +kernel) ?_
  refine ks_i (wf := sW a kI kL kZ) (u := u) ⟨hx, hb, hml, hown, hA⟩ (c_tell l D a kI kL kZ u (nI 2) (nI d) (nI d2) (-1) hT hF) (kw_S_58 hA rfl rfl ⟨Nat.le_trans (Nat.le_of_ble_eq_true rfl) hRf, Nat.le_trans (Nat.le_of_ble_eq_true rfl) hRl⟩) hK hP hD hS (fun _ h => h) (fun u' => sW_adr u') 2 2 rfl rfl rfl hl.1 (Nat.le_of_ble_eq_true rfl) ⟨by omega, by omega⟩ dS_roleBelow_16 rfl (fun r1 u1 H locs hu1 hP hD hS => ?_)
  subst hQe
  exact W.iret (v := r1) hx hb hr (fun t ht hW => ⟨⟨_, u1, rfl, hu1, tq_hp ht hP⟩, hS.F ht⟩) hS.2.2 dS_roleBelow_19
set_option maxHeartbeats 4000000 in
set_option maxRecDepth 100000 in
/-- c_chain -/
theorem c_chain (l : Launch) (D : va_G) (a : Nat → Nat) (kI kL kZ : ClassId) (u : sU)  (hT : u.2.2 2 ≤ 100) (hF : u.2.2 3 ≤ 100) (d d2 d3 : Nat) (hd : d < 6) (hd2 : d2 < 6) (hd3 : d3 < 6) : Met l yS_chain (wS_chain :: wA) ({ frames := 1, cells := 0, slots := 0, locals := 24 }) (va_Pc [.ref (a 0), .int (nI d), .int (nI d2), .int (nI d3)] (tq_wB D vwA (sW a kI kL kZ u) (sT kI kL kZ))) (va_Qi (fun r (u' : sU) => (u.2.2 2 < 100 → r = nI (u.2.2 2 + 1) ∧ u' = s_tell u (nI 3) (nI d) (nI d2) (nI d3)) ∧ (¬ u.2.2 2 < 100 → r = -1 ∧ u' = u)) (fun u' t => va_P D vwA (sW a kI kL kZ u') t.heap) (sA a)) 0 0 (sA a) := by
  refine Met.ofW (cc := bS_chain) (maxL := 4) (ret := (some .int)) (by decide +kernel) rfl ?_
  intro p e s m args below meth c s₁ B1 hml hv
  obtain ⟨rfl, hP, hK, hD0⟩ := hv
  have hx := B1.exec
  have hb := B1.bytes
  have hr := B1.returns
  have hA : ∀ w ∈ wA, w.before ([.ref (a 0), .int (nI d), .int (nI d2), .int (nI d3)] : List Value).toArray s = true := fun w h => atoms_spec (ws := wS_chain :: wA) B1.pre w (List.mem_cons_of_mem _ h)
  have hown : s.vm.findClass RcS = some m.cls := findClass_of_methodNamed B1.named
  have hlocks := B1.notSynchronized
  have hS : va_S (sA a) s.heap s.heap [] := va_S.rf
  have hl := lv_entry ([.ref (a 0), .int (nI d), .int (nI d2), .int (nI d3)]) (n := 4) (Nat.le_of_ble_eq_true rfl)
  rw [lg_entry_eq]
  generalize (lg_sl ([.ref (a 0), .int (nI d), .int (nI d2), .int (nI d3)]) ++ List.replicate (4 - (lg_sl ([.ref (a 0), .int (nI d), .int (nI d2), .int (nI d3)])).length) Slot.unset).toArray = ls at hl ⊢
  have hl : lv_has ls 4 [(0, .ref (a 0)), (1, .int (nI d)), (2, .int (nI d2)), (3, .int (nI d3))] := hl
  refine tq_gen (fun R Q hRe hQe => ?_)
  have hRf : 1 ≤ R.frames := by rw [hRe]; exact Nat.le_of_ble_eq_true rfl
  have hRl : 24 ≤ R.locals := by rw [hRe]; exact Nat.le_of_ble_eq_true rfl
  have hRc : 0 ≤ R.cells := by rw [hRe]; exact Nat.le_of_ble_eq_true rfl
  have hRs : 0 ≤ R.slots := by rw [hRe]; exact Nat.le_of_ble_eq_true rfl
  have hD := sA_D hD0
  refine lv_iload_n hx hb dS_chain_0 rfl (lv_at hl 1 rfl) ?_
  refine ks_sn ⟨hx, hb, hml, hown, hA⟩ (c_checkRole l d (by omega)) (kw_S_52 hA rfl rfl ⟨Nat.le_trans (Nat.le_of_ble_eq_true rfl) hRf, Nat.le_trans (Nat.le_of_ble_eq_true rfl) hRl⟩) hP hS rfl hl.1 (Nat.le_of_ble_eq_true rfl) ⟨by omega, by omega⟩ dS_chain_1 rfl (fun H locs hP hS => ?_)
  refine lv_iload_n hx hb dS_chain_4 rfl (lv_at hl 2 rfl) ?_
  refine ks_sn ⟨hx, hb, hml, hown, hA⟩ (c_checkRole l d2 (by omega)) (kw_S_52 hA rfl rfl ⟨Nat.le_trans (Nat.le_of_ble_eq_true rfl) hRf, Nat.le_trans (Nat.le_of_ble_eq_true rfl) hRl⟩) hP hS rfl hl.1 (Nat.le_of_ble_eq_true rfl) ⟨by omega, by omega⟩ dS_chain_5 rfl (fun H locs hP hS => ?_)
  refine lv_iload_n hx hb dS_chain_8 rfl (lv_at hl 3 rfl) ?_
  refine ks_sn ⟨hx, hb, hml, hown, hA⟩ (c_checkRole l d3 (by omega)) (kw_S_52 hA rfl rfl ⟨Nat.le_trans (Nat.le_of_ble_eq_true rfl) hRf, Nat.le_trans (Nat.le_of_ble_eq_true rfl) hRl⟩) hP hS rfl hl.1 (Nat.le_of_ble_eq_true rfl) ⟨by omega, by omega⟩ dS_chain_9 rfl (fun H locs hP hS => ?_)
  refine lv_aload_n hx hb dS_chain_12 rfl (lv_at hl 0 rfl) ?_
  refine gf_S_19 (v := .ref (a 2)) hx hb hA hown hK hP 0 rfl rfl dS_chain_13 ?_
  refine lv_iconst (v := nI 3) hx hb dS_chain_16 (by decide +kernel) ?_
  refine lv_iload_n hx hb dS_chain_17 rfl (lv_at hl 1 rfl) ?_
  refine lv_iload_n hx hb dS_chain_18 rfl (lv_at hl 2 rfl) ?_
  refine lv_iload_n hx hb dS_chain_19 rfl (lv_at hl 3 rfl) ?_
  refine ks_i (wf := sW a kI kL kZ) (u := u) ⟨hx, hb, hml, hown, hA⟩ (c_tell l D a kI kL kZ u (nI 3) (nI d) (nI d2) (nI d3) hT hF) (kw_S_58 hA rfl rfl ⟨Nat.le_trans (Nat.le_of_ble_eq_true rfl) hRf, Nat.le_trans (Nat.le_of_ble_eq_true rfl) hRl⟩) hK hP hD hS (fun _ h => h) (fun u' => sW_adr u') 2 2 rfl rfl rfl hl.1 (Nat.le_of_ble_eq_true rfl) ⟨by omega, by omega⟩ dS_chain_20 rfl (fun r1 u1 H locs hu1 hP hD hS => ?_)
  subst hQe
  exact W.iret (v := r1) hx hb hr (fun t ht hW => ⟨⟨_, u1, rfl, hu1, tq_hp ht hP⟩, hS.F ht⟩) hS.2.2 dS_chain_23
set_option maxHeartbeats 4000000 in
set_option maxRecDepth 100000 in
/-- c_retract -/
theorem c_retract (l : Launch) (D : va_G) (a : Nat → Nat) (kI kL kZ : ClassId) (u : sU) (x : Int32) (hT : u.2.2 2 ≤ 100) (hF : s_inf u x = true → 1 ≤ u.2.2 3) (hF2 : u.2.2 3 ≤ 100) : Met l yS_retract (wS_retract :: wA) ({ frames := 1, cells := 0, slots := 0, locals := 21 }) (va_Pc [.ref (a 0), .int x] (tq_wB D vwA (sW a kI kL kZ u) (sT kI kL kZ))) (va_Qi (fun r (u' : sU) => (s_inf u x = false ∧ r = bI false ∧ u' = u) ∨ (∃ k, 1 ≤ k ∧ k ≤ u.2.2 2 ∧ x = nI k ∧ x_inf u k ∧ r = bI true ∧ u' = s_spoil (s_back u k))) (fun u' t => va_P D vwA (sW a kI kL kZ u') t.heap) (sA a)) 0 0 (sA a) := by
  refine Met.ofW (cc := bS_retract) (maxL := 2) (ret := (some .boolean)) (by decide +kernel) rfl ?_
  intro p e s m args below meth c s₁ B1 hml hv
  obtain ⟨rfl, hP, hK, hD0⟩ := hv
  have hx := B1.exec
  have hb := B1.bytes
  have hr := B1.returns
  have hA : ∀ w ∈ wA, w.before ([.ref (a 0), .int x] : List Value).toArray s = true := fun w h => atoms_spec (ws := wS_retract :: wA) B1.pre w (List.mem_cons_of_mem _ h)
  have hown : s.vm.findClass RcS = some m.cls := findClass_of_methodNamed B1.named
  have hlocks := B1.notSynchronized
  have hS : va_S (sA a) s.heap s.heap [] := va_S.rf
  have hl := lv_entry ([.ref (a 0), .int x]) (n := 2) (Nat.le_of_ble_eq_true rfl)
  rw [lg_entry_eq]
  generalize (lg_sl ([.ref (a 0), .int x]) ++ List.replicate (2 - (lg_sl ([.ref (a 0), .int x])).length) Slot.unset).toArray = ls at hl ⊢
  have hl : lv_has ls 2 [(0, .ref (a 0)), (1, .int x)] := hl
  refine tq_gen (fun R Q hRe hQe => ?_)
  have hRf : 1 ≤ R.frames := by rw [hRe]; exact Nat.le_of_ble_eq_true rfl
  have hRl : 21 ≤ R.locals := by rw [hRe]; exact Nat.le_of_ble_eq_true rfl
  have hRc : 0 ≤ R.cells := by rw [hRe]; exact Nat.le_of_ble_eq_true rfl
  have hRs : 0 ≤ R.slots := by rw [hRe]; exact Nat.le_of_ble_eq_true rfl
  have hD := sA_D hD0
  refine lv_aload_n hx hb dS_retract_0 rfl (lv_at hl 0 rfl) ?_
  refine gf_S_19 (v := .ref (a 2)) hx hb hA hown hK hP 0 rfl rfl dS_retract_1 ?_
  refine lv_iload_n hx hb dS_retract_4 rfl (lv_at hl 1 rfl) ?_
  refine ks_rv ⟨hx, hb, hml, hown, hA⟩ (c_isInForce l D a kI kL kZ u (x) (by omega)) (kw_S_62 hA rfl rfl ⟨Nat.le_trans (Nat.le_of_ble_eq_true rfl) hRf, Nat.le_trans (Nat.le_of_ble_eq_true rfl) hRl⟩) hK hP hS 2 2 rfl rfl rfl hl.1 (Nat.le_of_ble_eq_true rfl) ⟨by omega, by omega⟩ dS_retract_5 rfl (fun H locs hP hS => ?_)
  refine tq_bt hx hb dS_retract_8 (tgt := 13) (by decide) (fun h8 => ?_) (fun h8 => ?_)
  · obtain ⟨k, hk1, hk2, rfl, hk3⟩ := s_inf_t h8 hT
    have hF3 := hF h8
    refine lv_aload_n hx hb dS_retract_13 rfl (lv_at hl 0 rfl) ?_
    refine gf_S_19 (v := .ref (a 2)) hx hb hA hown hK hP 0 rfl rfl dS_retract_14 ?_
    refine lv_iload_n hx hb dS_retract_17 rfl (lv_at hl 1 rfl) ?_
    refine ks_v (wf := sW a kI kL kZ) (u := u) ⟨hx, hb, hml, hown, hA⟩ (c_takeBack l D a kI kL kZ u k (by omega) (by omega) (by omega) (by omega)) (kw_S_66 hA rfl rfl ⟨Nat.le_trans (Nat.le_of_ble_eq_true rfl) hRf, Nat.le_trans (Nat.le_of_ble_eq_true rfl) hRl⟩) hK hP hD hS (fun _ h => h) (fun u' => sW_adr u') 2 2 rfl rfl rfl hl.1 (Nat.le_of_ble_eq_true rfl) ⟨by omega, by omega⟩ dS_retract_18 rfl (fun u1 H locs hu1 hP hD hS => ?_)
    refine lv_aload_n hx hb dS_retract_21 rfl (lv_at hl 0 rfl) ?_
    refine gf_S_28 (v := .ref (a 3)) hx hb hA hown hK hP 0 rfl rfl dS_retract_22 ?_
    refine ks_v (wf := sW a kI kL kZ) (u := u1) ⟨hx, hb, hml, hown, hA⟩ (c_spoil l D a kI kL kZ u1  ) (kw_S_69 hA rfl rfl ⟨Nat.le_trans (Nat.le_of_ble_eq_true rfl) hRf, Nat.le_trans (Nat.le_of_ble_eq_true rfl) hRl⟩) hK hP hD hS (fun _ h => h) (fun u' => sW_adr u') 3 3 rfl rfl rfl hl.1 (Nat.le_of_ble_eq_true rfl) ⟨by omega, by omega⟩ dS_retract_25 rfl (fun u2 H locs hu2 hP hD hS => ?_)
    refine lv_iconst (v := nI 1) hx hb dS_retract_28 (by decide +kernel) ?_
    subst hQe
    exact W.zret (v := nI 1) (ty := .boolean) hx hb hr rfl (fun t ht hW => ⟨⟨_, u2, rfl, Or.inr ⟨k, hk1, hk2, rfl, hk3, rfl, by rw [hu2, hu1]⟩, tq_hp ht hP⟩, hS.F ht⟩) hS.2.2 dS_retract_29
  · refine lv_iconst (v := nI 0) hx hb dS_retract_11 (by decide +kernel) ?_
    subst hQe
    exact W.zret (v := nI 0) (ty := .boolean) hx hb hr rfl (fun t ht hW => ⟨⟨_, u, rfl, Or.inl ⟨h8, rfl, rfl⟩, tq_hp ht hP⟩, hS.F ht⟩) hS.2.2 dS_retract_12
set_option maxHeartbeats 4000000 in
set_option maxRecDepth 100000 in
/-- c_isBelow -/
theorem c_isBelow (l : Launch) (D : va_G) (a : Nat → Nat) (kI kL kZ : ClassId) (u : sU) (N : Nat) (kd fa fb : Nat → Nat) (T : Nat) (so xa xb xc : Nat → Nat) (hc : s_cinv u N kd fa fb T so xa xb xc) (d d2 : Nat) (hd : d < N) (hd2 : d2 < N) : Met l yS_isBelow (wS_isBelow :: wA) ({ frames := 6, cells := 0, slots := 0, locals := 148 }) (va_Pc [.ref (a 0), .int (nI d), .int (nI d2)] (tq_wB D vwA (sW a kI kL kZ u) (sT kI kL kZ))) (va_Qi (fun r (u' : sU) => r = bI (s_cv u' d d2) ∧ s_full u u' N kd fa fb T so xa xb xc ∧ u'.1 0 (d * 7 + 6) d = true) (fun u' t => va_P D vwA (sW a kI kL kZ u') t.heap) (sA a)) 0 0 (sA a) := by
  refine Met.ofW (cc := bS_isBelow) (maxL := 3) (ret := (some .boolean)) (by decide +kernel) rfl ?_
  intro p e s m args below meth c s₁ B1 hml hv
  obtain ⟨rfl, hP, hK, hD0⟩ := hv
  have hx := B1.exec
  have hb := B1.bytes
  have hr := B1.returns
  have hA : ∀ w ∈ wA, w.before ([.ref (a 0), .int (nI d), .int (nI d2)] : List Value).toArray s = true := fun w h => atoms_spec (ws := wS_isBelow :: wA) B1.pre w (List.mem_cons_of_mem _ h)
  have hown : s.vm.findClass RcS = some m.cls := findClass_of_methodNamed B1.named
  have hlocks := B1.notSynchronized
  have hS : va_S (sA a) s.heap s.heap [] := va_S.rf
  have hl := lv_entry ([.ref (a 0), .int (nI d), .int (nI d2)]) (n := 3) (Nat.le_of_ble_eq_true rfl)
  rw [lg_entry_eq]
  generalize (lg_sl ([.ref (a 0), .int (nI d), .int (nI d2)]) ++ List.replicate (3 - (lg_sl ([.ref (a 0), .int (nI d), .int (nI d2)])).length) Slot.unset).toArray = ls at hl ⊢
  have hl : lv_has ls 3 [(0, .ref (a 0)), (1, .int (nI d)), (2, .int (nI d2))] := hl
  refine tq_gen (fun R Q hRe hQe => ?_)
  have hRf : 6 ≤ R.frames := by rw [hRe]; exact Nat.le_of_ble_eq_true rfl
  have hRl : 148 ≤ R.locals := by rw [hRe]; exact Nat.le_of_ble_eq_true rfl
  have hRc : 0 ≤ R.cells := by rw [hRe]; exact Nat.le_of_ble_eq_true rfl
  have hRs : 0 ≤ R.slots := by rw [hRe]; exact Nat.le_of_ble_eq_true rfl
  have hD := sA_D hD0

  have hN := tm_N hc.1.1
  have hT1 := hc.2.2.1.1
  have hT2 := hc.2.2.1.2.1
  refine lv_aload_n hx hb dS_isBelow_0 rfl (lv_at hl 0 rfl) ?_
  refine lv_iload_n hx hb dS_isBelow_1 rfl (lv_at hl 1 rfl) ?_
  refine ks_rn ⟨hx, hb, hml, hown, hA⟩ (c_checkTerm l D a kI kL kZ u d (by omega) (by omega)) (kw_S_44 hA rfl rfl ⟨Nat.le_trans (Nat.le_of_ble_eq_true rfl) hRf, Nat.le_trans (Nat.le_of_ble_eq_true rfl) hRl⟩) hK hP hS 0 4 rfl rfl rfl hl.1 (Nat.le_of_ble_eq_true rfl) ⟨by omega, by omega⟩ dS_isBelow_2 rfl (fun H locs hP hS => ?_)
  refine lv_aload_n hx hb dS_isBelow_5 rfl (lv_at hl 0 rfl) ?_
  refine lv_iload_n hx hb dS_isBelow_6 rfl (lv_at hl 2 rfl) ?_
  refine ks_rn ⟨hx, hb, hml, hown, hA⟩ (c_checkTerm l D a kI kL kZ u d2 (by omega) (by omega)) (kw_S_44 hA rfl rfl ⟨Nat.le_trans (Nat.le_of_ble_eq_true rfl) hRf, Nat.le_trans (Nat.le_of_ble_eq_true rfl) hRl⟩) hK hP hS 0 4 rfl rfl rfl hl.1 (Nat.le_of_ble_eq_true rfl) ⟨by omega, by omega⟩ dS_isBelow_7 rfl (fun H locs hP hS => ?_)
  refine lv_aload_n hx hb dS_isBelow_10 rfl (lv_at hl 0 rfl) ?_
  refine gf_S_28 (v := .ref (a 3)) hx hb hA hown hK hP 0 rfl rfl dS_isBelow_11 ?_
  refine lv_iload_n hx hb dS_isBelow_14 rfl (lv_at hl 1 rfl) ?_
  refine ks_v (wf := sW a kI kL kZ) (u := u) ⟨hx, hb, hml, hown, hA⟩ (c_place l D a kI kL kZ u N kd fa fb T so xa xb xc hc d (by omega)) (kw_S_72 hA rfl rfl ⟨Nat.le_trans (Nat.le_of_ble_eq_true rfl) hRf, Nat.le_trans (Nat.le_of_ble_eq_true rfl) hRl⟩) hK hP hD hS (fun _ h => h) (fun u' => sW_adr u') 3 3 rfl rfl rfl hl.1 (Nat.le_of_ble_eq_true rfl) ⟨by omega, by omega⟩ dS_isBelow_15 rfl (fun u1 H locs hu1 hP hD hS => ?_)
  refine lv_aload_n hx hb dS_isBelow_18 rfl (lv_at hl 0 rfl) ?_
  refine gf_S_28 (v := .ref (a 3)) hx hb hA hown hK hP 0 rfl rfl dS_isBelow_19 ?_
  refine lv_iload_n hx hb dS_isBelow_22 rfl (lv_at hl 1 rfl) ?_
  refine lv_iload_n hx hb dS_isBelow_23 rfl (lv_at hl 2 rfl) ?_
  refine ks_rv ⟨hx, hb, hml, hown, hA⟩ (c_covers l D a kI kL kZ u1 d d2 (by omega) (by omega)) (kw_S_75 hA rfl rfl ⟨Nat.le_trans (Nat.le_of_ble_eq_true rfl) hRf, Nat.le_trans (Nat.le_of_ble_eq_true rfl) hRl⟩) hK hP hS 3 3 rfl rfl rfl hl.1 (Nat.le_of_ble_eq_true rfl) ⟨by omega, by omega⟩ dS_isBelow_24 rfl (fun H locs hP hS => ?_)
  refine tq_i (y := bI (s_cv u1 d d2)) rfl ?_
  subst hQe
  exact W.zret (v := bI (s_cv u1 d d2)) (ty := .boolean) hx hb hr (tq_nz _) (fun t ht hW => ⟨⟨_, u1, rfl, ⟨rfl, hu1.1, hu1.2.1⟩, tq_hp ht hP⟩, hS.F ht⟩) hS.2.2 dS_isBelow_27
set_option maxHeartbeats 4000000 in
set_option maxRecDepth 100000 in
/-- c_supers -/
theorem c_supers (l : Launch) (D : va_G) (a : Nat → Nat) (kI kL kZ : ClassId) (u : sU) (N : Nat) (kd fa fb : Nat → Nat) (T : Nat) (so xa xb xc : Nat → Nat) (hc : s_cinv u N kd fa fb T so xa xb xc) (d : Nat) (hd : d < N) : Met l yS_supers (wS_supers :: wA) ({ frames := 6, cells := 0, slots := 0, locals := 148 }) (va_Pc [.ref (a 0), .int (nI d)] (tq_wB D vwA (sW a kI kL kZ u) (sT kI kL kZ))) (va_Qi (fun r (u' : sU) => r = nI (tm_cnt (s_na u' d) N) ∧ s_full u u' N kd fa fb T so xa xb xc ∧ u'.1 0 (d * 7 + 6) d = true) (fun u' t => va_P D vwA (sW a kI kL kZ u') t.heap) (sA a)) 0 0 (sA a) := by
  refine Met.ofW (cc := bS_supers) (maxL := 4) (ret := (some .int)) (by decide +kernel) rfl ?_
  intro p e s m args below meth c s₁ B1 hml hv
  obtain ⟨rfl, hP, hK, hD0⟩ := hv
  have hx := B1.exec
  have hb := B1.bytes
  have hr := B1.returns
  have hA : ∀ w ∈ wA, w.before ([.ref (a 0), .int (nI d)] : List Value).toArray s = true := fun w h => atoms_spec (ws := wS_supers :: wA) B1.pre w (List.mem_cons_of_mem _ h)
  have hown : s.vm.findClass RcS = some m.cls := findClass_of_methodNamed B1.named
  have hlocks := B1.notSynchronized
  have hS : va_S (sA a) s.heap s.heap [] := va_S.rf
  have hl := lv_entry ([.ref (a 0), .int (nI d)]) (n := 4) (Nat.le_of_ble_eq_true rfl)
  rw [lg_entry_eq]
  generalize (lg_sl ([.ref (a 0), .int (nI d)]) ++ List.replicate (4 - (lg_sl ([.ref (a 0), .int (nI d)])).length) Slot.unset).toArray = ls at hl ⊢
  have hl : lv_has ls 4 [(0, .ref (a 0)), (1, .int (nI d))] := hl
  refine tq_gen (fun R Q hRe hQe => ?_)
  have hRf : 6 ≤ R.frames := by rw [hRe]; exact Nat.le_of_ble_eq_true rfl
  have hRl : 148 ≤ R.locals := by rw [hRe]; exact Nat.le_of_ble_eq_true rfl
  have hRc : 0 ≤ R.cells := by rw [hRe]; exact Nat.le_of_ble_eq_true rfl
  have hRs : 0 ≤ R.slots := by rw [hRe]; exact Nat.le_of_ble_eq_true rfl
  have hD := sA_D hD0

  have hN := tm_N hc.1.1
  have hT1 := hc.2.2.1.1
  have hT2 := hc.2.2.1.2.1
  refine lv_aload_n hx hb dS_supers_0 rfl (lv_at hl 0 rfl) ?_
  refine lv_iload_n hx hb dS_supers_1 rfl (lv_at hl 1 rfl) ?_
  refine ks_rn ⟨hx, hb, hml, hown, hA⟩ (c_checkTerm l D a kI kL kZ u d (by omega) (by omega)) (kw_S_44 hA rfl rfl ⟨Nat.le_trans (Nat.le_of_ble_eq_true rfl) hRf, Nat.le_trans (Nat.le_of_ble_eq_true rfl) hRl⟩) hK hP hS 0 4 rfl rfl rfl hl.1 (Nat.le_of_ble_eq_true rfl) ⟨by omega, by omega⟩ dS_supers_2 rfl (fun H locs hP hS => ?_)
  refine lv_aload_n hx hb dS_supers_5 rfl (lv_at hl 0 rfl) ?_
  refine gf_S_28 (v := .ref (a 3)) hx hb hA hown hK hP 0 rfl rfl dS_supers_6 ?_
  refine lv_iload_n hx hb dS_supers_9 rfl (lv_at hl 1 rfl) ?_
  refine ks_v (wf := sW a kI kL kZ) (u := u) ⟨hx, hb, hml, hown, hA⟩ (c_place l D a kI kL kZ u N kd fa fb T so xa xb xc hc d (by omega)) (kw_S_72 hA rfl rfl ⟨Nat.le_trans (Nat.le_of_ble_eq_true rfl) hRf, Nat.le_trans (Nat.le_of_ble_eq_true rfl) hRl⟩) hK hP hD hS (fun _ h => h) (fun u' => sW_adr u') 3 3 rfl rfl rfl hl.1 (Nat.le_of_ble_eq_true rfl) ⟨by omega, by omega⟩ dS_supers_10 rfl (fun u1 H locs hu1 hP hD hS => ?_)
  have hz := tm_N hu1.1.1.1
  refine lv_iconst (v := nI 0) hx hb dS_supers_13 (by decide +kernel) ?_
  refine lv_istore_n (lv' := [(2, .int (nI 0)), (0, .ref (a 0)), (1, .int (nI d))]) hx hb dS_supers_14 rfl hl (by decide) rfl (fun ls hl => ?_)
  refine lv_iconst (v := nI 0) hx hb dS_supers_15 (by decide +kernel) ?_
  refine lv_istore_n (lv' := [(3, .int (nI 0)), (2, .int (nI 0)), (0, .ref (a 0)), (1, .int (nI d))]) hx hb dS_supers_16 rfl hl (by decide) rfl (fun ls hl => ?_)
  have lp : ∀ (fu : Nat) (q n : Nat) (ls : Array Slot) (H : Heap) (locs : List Loc), q = tm_cnt (s_na u1 d) n → n ≤ N → va_P D vwA (sW a kI kL kZ u1) H → va_D (sA a) (sW a kI kL kZ u1) → va_S (sA a) s.heap H locs → N - n < fu → lv_has ls 4 [(3, .int (nI n)), (2, .int (nI q)), (0, .ref (a 0)), (1, .int (nI d))] → W p l e R s m ([.ref (a 0), .int (nI d)] : List Value).toArray below meth c H locs 0 0 Q (F0 m 17 ls []) := by
    intro fu
    induction fu with
    | zero => intros; omega
    | succ fu ih17 =>
      intro q n ls H locs g1 g2 hP hD hS hfu hl
      have hq9 := tm_cnt_le (s_na u1 d) n
      refine lv_iload_n hx hb dS_supers_17 rfl (lv_at hl 0 rfl) ?_
      refine lv_aload_n hx hb dS_supers_18 rfl (lv_at hl 2 rfl) ?_
      refine gf_S_10 (v := .ref (a 1)) hx hb hA hown hK hP 0 rfl rfl dS_supers_19 ?_
      refine ks_rv ⟨hx, hb, hml, hown, hA⟩ (c_size l D a kI kL kZ u1  ) (kw_S_79 hA rfl rfl ⟨Nat.le_trans (Nat.le_of_ble_eq_true rfl) hRf, Nat.le_trans (Nat.le_of_ble_eq_true rfl) hRl⟩) hK hP hS 1 1 rfl rfl rfl hl.1 (Nat.le_of_ble_eq_true rfl) ⟨by omega, by omega⟩ dS_supers_22 rfl (fun H locs hP hS => ?_)
      refine tq_ge hx hb dS_supers_25 (tgt := 46) (by decide) (by omega) (by omega) (fun h25 => ?_) (fun h25 => ?_)
      · refine lv_iload_n hx hb dS_supers_46 rfl (lv_at hl 1 rfl) ?_
        subst hQe
        exact W.iret (v := nI q) hx hb hr (fun t ht hW => ⟨⟨_, u1, rfl, ⟨by rw [g1, show n = N by omega], hu1.1, hu1.2.1⟩, tq_hp ht hP⟩, hS.F ht⟩) hS.2.2 dS_supers_47
      · refine lv_aload_n hx hb dS_supers_28 rfl (lv_at hl 2 rfl) ?_
        refine lv_iload_n hx hb dS_supers_29 rfl (lv_at hl 3 rfl) ?_
        refine lv_iload_n hx hb dS_supers_30 rfl (lv_at hl 0 rfl) ?_
        refine ks_rv ⟨hx, hb, hml, hown, hA⟩ (c_isNameAbove l D a kI kL kZ u1 d n (by omega) (by omega)) (kw_S_83 hA rfl rfl ⟨Nat.le_trans (Nat.le_of_ble_eq_true rfl) hRf, Nat.le_trans (Nat.le_of_ble_eq_true rfl) hRl⟩) hK hP hS 0 4 rfl rfl rfl hl.1 (Nat.le_of_ble_eq_true rfl) ⟨by omega, by omega⟩ dS_supers_31 rfl (fun H locs hP hS => ?_)
        refine tq_bf hx hb dS_supers_34 (tgt := 40) (by decide) (fun h34 => ?_) (fun h34 => ?_)
        · have hstep : q = tm_cnt (s_na u1 d) (n + 1) := by rw [cnt_no (p := (s_na u1 d)) h34]; exact g1
          refine lv_iinc (k := 0) (lv' := [(3, .int (nI (n + 1))), (2, .int (nI q)), (0, .ref (a 0)), (1, .int (nI d))]) hx hb dS_supers_40 hl rfl (nI_1 _) (by decide) rfl (fun ls hl => ?_)
          refine lv_goto hx hb dS_supers_43 (tgt := 17) (by decide) ?_
          exact ih17 q (n + 1) ls H locs (hstep) (by omega) hP hD hS (by omega) (lv_sub hl [0, 1, 2, 3] rfl)
        · have hstep : q + 1 = tm_cnt (s_na u1 d) (n + 1) := by rw [cnt_yes (p := (s_na u1 d)) h34, g1]
          refine lv_iinc (k := 1) (lv' := [(2, .int (nI (q + 1))), (3, .int (nI n)), (0, .ref (a 0)), (1, .int (nI d))]) hx hb dS_supers_37 hl rfl (nI_1 _) (by decide) rfl (fun ls hl => ?_)
          refine lv_iinc (k := 1) (lv' := [(3, .int (nI (n + 1))), (2, .int (nI (q + 1))), (0, .ref (a 0)), (1, .int (nI d))]) hx hb dS_supers_40 hl rfl (nI_1 _) (by decide) rfl (fun ls hl => ?_)
          refine lv_goto hx hb dS_supers_43 (tgt := 17) (by decide) ?_
          exact ih17 (q + 1) (n + 1) ls H locs (hstep) (by omega) hP hD hS (by omega) (lv_sub hl [0, 1, 2, 3] rfl)
  exact lp _ 0 0 ls _ _ rfl (by omega) hP hD hS (Nat.lt_succ_self _) (lv_sub hl [0, 1, 2, 3] rfl)
set_option maxHeartbeats 4000000 in
set_option maxRecDepth 100000 in
/-- c_sup -/
theorem c_sup (l : Launch) (D : va_G) (a : Nat → Nat) (kI kL kZ : ClassId) (u : sU) (N : Nat) (kd fa fb : Nat → Nat) (T : Nat) (so xa xb xc : Nat → Nat) (hc : s_cinv u N kd fa fb T so xa xb xc) (d : Nat) (x : Int32) (hd : d < N) : Met l yS_sup (wS_sup :: wA) ({ frames := 6, cells := 0, slots := 0, locals := 148 }) (va_Pc [.ref (a 0), .int (nI d), .int x] (tq_wB D vwA (sW a kI kL kZ u) (sT kI kL kZ))) (va_Qi (fun r (u' : sU) => q_sup (s_na u' d) N x r ∧ s_full u u' N kd fa fb T so xa xb xc ∧ u'.1 0 (d * 7 + 6) d = true) (fun u' t => va_P D vwA (sW a kI kL kZ u') t.heap) (sA a)) 0 0 (sA a) := by
  refine Met.ofW (cc := bS_sup) (maxL := 5) (ret := (some .int)) (by decide +kernel) rfl ?_
  intro p e s m args below meth c s₁ B1 hml hv
  obtain ⟨rfl, hP, hK, hD0⟩ := hv
  have hx := B1.exec
  have hb := B1.bytes
  have hr := B1.returns
  have hA : ∀ w ∈ wA, w.before ([.ref (a 0), .int (nI d), .int x] : List Value).toArray s = true := fun w h => atoms_spec (ws := wS_sup :: wA) B1.pre w (List.mem_cons_of_mem _ h)
  have hown : s.vm.findClass RcS = some m.cls := findClass_of_methodNamed B1.named
  have hlocks := B1.notSynchronized
  have hS : va_S (sA a) s.heap s.heap [] := va_S.rf
  have hl := lv_entry ([.ref (a 0), .int (nI d), .int x]) (n := 5) (Nat.le_of_ble_eq_true rfl)
  rw [lg_entry_eq]
  generalize (lg_sl ([.ref (a 0), .int (nI d), .int x]) ++ List.replicate (5 - (lg_sl ([.ref (a 0), .int (nI d), .int x])).length) Slot.unset).toArray = ls at hl ⊢
  have hl : lv_has ls 5 [(0, .ref (a 0)), (1, .int (nI d)), (2, .int x)] := hl
  refine tq_gen (fun R Q hRe hQe => ?_)
  have hRf : 6 ≤ R.frames := by rw [hRe]; exact Nat.le_of_ble_eq_true rfl
  have hRl : 148 ≤ R.locals := by rw [hRe]; exact Nat.le_of_ble_eq_true rfl
  have hRc : 0 ≤ R.cells := by rw [hRe]; exact Nat.le_of_ble_eq_true rfl
  have hRs : 0 ≤ R.slots := by rw [hRe]; exact Nat.le_of_ble_eq_true rfl
  have hD := sA_D hD0

  have hN := tm_N hc.1.1
  have hT1 := hc.2.2.1.1
  have hT2 := hc.2.2.1.2.1
  refine lv_aload_n hx hb dS_sup_0 rfl (lv_at hl 0 rfl) ?_
  refine lv_iload_n hx hb dS_sup_1 rfl (lv_at hl 1 rfl) ?_
  refine ks_rn ⟨hx, hb, hml, hown, hA⟩ (c_checkTerm l D a kI kL kZ u d (by omega) (by omega)) (kw_S_44 hA rfl rfl ⟨Nat.le_trans (Nat.le_of_ble_eq_true rfl) hRf, Nat.le_trans (Nat.le_of_ble_eq_true rfl) hRl⟩) hK hP hS 0 4 rfl rfl rfl hl.1 (Nat.le_of_ble_eq_true rfl) ⟨by omega, by omega⟩ dS_sup_2 rfl (fun H locs hP hS => ?_)
  refine lv_aload_n hx hb dS_sup_5 rfl (lv_at hl 0 rfl) ?_
  refine gf_S_28 (v := .ref (a 3)) hx hb hA hown hK hP 0 rfl rfl dS_sup_6 ?_
  refine lv_iload_n hx hb dS_sup_9 rfl (lv_at hl 1 rfl) ?_
  refine ks_v (wf := sW a kI kL kZ) (u := u) ⟨hx, hb, hml, hown, hA⟩ (c_place l D a kI kL kZ u N kd fa fb T so xa xb xc hc d (by omega)) (kw_S_72 hA rfl rfl ⟨Nat.le_trans (Nat.le_of_ble_eq_true rfl) hRf, Nat.le_trans (Nat.le_of_ble_eq_true rfl) hRl⟩) hK hP hD hS (fun _ h => h) (fun u' => sW_adr u') 3 3 rfl rfl rfl hl.1 (Nat.le_of_ble_eq_true rfl) ⟨by omega, by omega⟩ dS_sup_10 rfl (fun u1 H locs hu1 hP hD hS => ?_)
  have hz := tm_N hu1.1.1.1
  refine lv_iconst (v := nI 0) hx hb dS_sup_13 (by decide +kernel) ?_
  refine lv_istore_n (lv' := [(3, .int (nI 0)), (0, .ref (a 0)), (1, .int (nI d)), (2, .int x)]) hx hb dS_sup_14 rfl hl (by decide) rfl (fun ls hl => ?_)
  refine lv_iconst (v := nI 0) hx hb dS_sup_15 (by decide +kernel) ?_
  refine lv_istore (lv' := [(4, .int (nI 0)), (3, .int (nI 0)), (0, .ref (a 0)), (1, .int (nI d)), (2, .int x)]) hx hb dS_sup_16 hl (by decide) rfl (fun ls hl => ?_)
  have lp : ∀ (fu : Nat) (q n : Nat) (ls : Array Slot) (H : Heap) (locs : List Loc), q = tm_cnt (s_na u1 d) n → n ≤ N → (∀ b, b < n → ((s_na u1 d) b = true → ¬ nI (tm_cnt (s_na u1 d) b) = x)) → va_P D vwA (sW a kI kL kZ u1) H → va_D (sA a) (sW a kI kL kZ u1) → va_S (sA a) s.heap H locs → N - n < fu → lv_has ls 5 [(4, .int (nI n)), (3, .int (nI q)), (0, .ref (a 0)), (1, .int (nI d)), (2, .int x)] → W p l e R s m ([.ref (a 0), .int (nI d), .int x] : List Value).toArray below meth c H locs 0 0 Q (F0 m 18 ls []) := by
    intro fu
    induction fu with
    | zero => intros; omega
    | succ fu ih18 =>
      intro q n ls H locs g1 g2 g3 hP hD hS hfu hl
      have hq9 := tm_cnt_le (s_na u1 d) n
      refine lv_iload hx hb dS_sup_18 (lv_at hl 0 rfl) ?_
      refine lv_aload_n hx hb dS_sup_20 rfl (lv_at hl 2 rfl) ?_
      refine gf_S_10 (v := .ref (a 1)) hx hb hA hown hK hP 0 rfl rfl dS_sup_21 ?_
      refine ks_rv ⟨hx, hb, hml, hown, hA⟩ (c_size l D a kI kL kZ u1  ) (kw_S_79 hA rfl rfl ⟨Nat.le_trans (Nat.le_of_ble_eq_true rfl) hRf, Nat.le_trans (Nat.le_of_ble_eq_true rfl) hRl⟩) hK hP hS 1 1 rfl rfl rfl hl.1 (Nat.le_of_ble_eq_true rfl) ⟨by omega, by omega⟩ dS_sup_24 rfl (fun H locs hP hS => ?_)
      refine tq_ge hx hb dS_sup_27 (tgt := 57) (by decide) (by omega) (by omega) (fun h27 => ?_) (fun h27 => ?_)
      · refine lv_iconst (v := (-1)) hx hb dS_sup_57 (by decide +kernel) ?_
        subst hQe
        exact W.iret (v := (-1)) hx hb hr (fun t ht hW => ⟨⟨_, u1, rfl, ⟨Or.inr ⟨rfl, fun b z => g3 b (by omega)⟩, hu1.1, hu1.2.1⟩, tq_hp ht hP⟩, hS.F ht⟩) hS.2.2 dS_sup_58
      · refine lv_aload_n hx hb dS_sup_30 rfl (lv_at hl 2 rfl) ?_
        refine lv_iload_n hx hb dS_sup_31 rfl (lv_at hl 3 rfl) ?_
        refine lv_iload hx hb dS_sup_32 (lv_at hl 0 rfl) ?_
        refine ks_rv ⟨hx, hb, hml, hown, hA⟩ (c_isNameAbove l D a kI kL kZ u1 d n (by omega) (by omega)) (kw_S_83 hA rfl rfl ⟨Nat.le_trans (Nat.le_of_ble_eq_true rfl) hRf, Nat.le_trans (Nat.le_of_ble_eq_true rfl) hRl⟩) hK hP hS 0 4 rfl rfl rfl hl.1 (Nat.le_of_ble_eq_true rfl) ⟨by omega, by omega⟩ dS_sup_34 rfl (fun H locs hP hS => ?_)
        refine tq_bf hx hb dS_sup_37 (tgt := 51) (by decide) (fun h37 => ?_) (fun h37 => ?_)
        · have hpn : (s_na u1 d) n = false := h37
          have hstep : q = tm_cnt (s_na u1 d) (n + 1) := by rw [cnt_no (p := (s_na u1 d)) hpn]; exact g1
          have hno : (fun b => ((s_na u1 d) b = true → ¬ nI (tm_cnt (s_na u1 d) b) = x)) n := fun z => absurd z (by rw [hpn]; decide)
          refine lv_iinc (k := 0) (lv' := [(4, .int (nI (n + 1))), (3, .int (nI q)), (0, .ref (a 0)), (1, .int (nI d)), (2, .int x)]) hx hb dS_sup_51 hl rfl (nI_1 _) (by decide) rfl (fun ls hl => ?_)
          refine lv_goto hx hb dS_sup_54 (tgt := 18) (by decide) ?_
          exact ih18 q (n + 1) ls H locs (hstep) (by omega) (lt_s (p := fun b => ((s_na u1 d) b = true → ¬ nI (tm_cnt (s_na u1 d) b) = x)) g3 hno) hP hD hS (by omega) (lv_sub hl [0, 1, 2, 3, 4] rfl)
        · refine lv_iload_n hx hb dS_sup_40 rfl (lv_at hl 1 rfl) ?_
          refine lv_iload_n hx hb dS_sup_41 rfl (lv_at hl 4 rfl) ?_
          refine lv_icmp_ne hx hb dS_sup_42 (tgt := 48) (by decide) (fun h42 => ?_) (fun h42 => ?_)
          · have hpn : (s_na u1 d) n = true := h37
            have hstep : q + 1 = tm_cnt (s_na u1 d) (n + 1) := by rw [cnt_yes (p := (s_na u1 d)) hpn, g1]
            have hno : (fun b => ((s_na u1 d) b = true → ¬ nI (tm_cnt (s_na u1 d) b) = x)) n := fun _ z => h42 (by rw [g1]; exact z)
            refine lv_iinc (k := 1) (lv' := [(3, .int (nI (q + 1))), (4, .int (nI n)), (0, .ref (a 0)), (1, .int (nI d)), (2, .int x)]) hx hb dS_sup_48 hl rfl (nI_1 _) (by decide) rfl (fun ls hl => ?_)
            refine lv_iinc (k := 1) (lv' := [(4, .int (nI (n + 1))), (3, .int (nI (q + 1))), (0, .ref (a 0)), (1, .int (nI d)), (2, .int x)]) hx hb dS_sup_51 hl rfl (nI_1 _) (by decide) rfl (fun ls hl => ?_)
            refine lv_goto hx hb dS_sup_54 (tgt := 18) (by decide) ?_
            exact ih18 (q + 1) (n + 1) ls H locs (hstep) (by omega) (lt_s (p := fun b => ((s_na u1 d) b = true → ¬ nI (tm_cnt (s_na u1 d) b) = x)) g3 hno) hP hD hS (by omega) (lv_sub hl [0, 1, 2, 3, 4] rfl)
          · refine lv_iload hx hb dS_sup_45 (lv_at hl 0 rfl) ?_
            subst hQe
            exact W.iret (v := nI n) hx hb hr (fun t ht hW => ⟨⟨_, u1, rfl, ⟨Or.inl ⟨n, by omega, h37, by rw [← g1]; exact h42, rfl⟩, hu1.1, hu1.2.1⟩, tq_hp ht hP⟩, hS.F ht⟩) hS.2.2 dS_sup_47
  exact lp _ 0 0 ls _ _ rfl (by omega) (fun b z => absurd z (Nat.not_lt_zero b)) hP hD hS (Nat.lt_succ_self _) (lv_sub hl [0, 1, 2, 3, 4] rfl)
set_option maxHeartbeats 4000000 in
set_option maxRecDepth 100000 in
/-- c_direct -/
theorem c_direct (l : Launch) (D : va_G) (a : Nat → Nat) (kI kL kZ : ClassId) (u : sU) (N : Nat) (kd fa fb : Nat → Nat) (T : Nat) (so xa xb xc : Nat → Nat) (hc : s_cinv u N kd fa fb T so xa xb xc) (d d2 : Nat) (hd : d < N) (hd2 : d2 < N) : Met l yS_direct (wS_direct :: wA) ({ frames := 6, cells := 0, slots := 0, locals := 149 }) (va_Pc [.ref (a 0), .int (nI d), .int (nI d2)] (tq_wB D vwA (sW a kI kL kZ u) (sT kI kL kZ))) (va_Qi (fun r (u' : sU) => r = bI (s_dir u' d d2) ∧ s_full u u' N kd fa fb T so xa xb xc ∧ u'.1 0 (d * 7 + 6) d = true ∧ ∀ b, b < N → b_Bel N kd fa fb so xa xb xc (x_inf u) d b → u'.1 0 (b * 7 + 6) b = true) (fun u' t => va_P D vwA (sW a kI kL kZ u') t.heap) (sA a)) 0 0 (sA a) := by
  refine Met.ofW (cc := bS_direct) (maxL := 4) (ret := (some .boolean)) (by decide +kernel) rfl ?_
  intro p e s m args below meth c s₁ B1 hml hv
  obtain ⟨rfl, hP, hK, hD0⟩ := hv
  have hx := B1.exec
  have hb := B1.bytes
  have hr := B1.returns
  have hA : ∀ w ∈ wA, w.before ([.ref (a 0), .int (nI d), .int (nI d2)] : List Value).toArray s = true := fun w h => atoms_spec (ws := wS_direct :: wA) B1.pre w (List.mem_cons_of_mem _ h)
  have hown : s.vm.findClass RcS = some m.cls := findClass_of_methodNamed B1.named
  have hlocks := B1.notSynchronized
  have hS : va_S (sA a) s.heap s.heap [] := va_S.rf
  have hl := lv_entry ([.ref (a 0), .int (nI d), .int (nI d2)]) (n := 4) (Nat.le_of_ble_eq_true rfl)
  rw [lg_entry_eq]
  generalize (lg_sl ([.ref (a 0), .int (nI d), .int (nI d2)]) ++ List.replicate (4 - (lg_sl ([.ref (a 0), .int (nI d), .int (nI d2)])).length) Slot.unset).toArray = ls at hl ⊢
  have hl : lv_has ls 4 [(0, .ref (a 0)), (1, .int (nI d)), (2, .int (nI d2))] := hl
  refine tq_gen (fun R Q hRe hQe => ?_)
  have hRf : 6 ≤ R.frames := by rw [hRe]; exact Nat.le_of_ble_eq_true rfl
  have hRl : 149 ≤ R.locals := by rw [hRe]; exact Nat.le_of_ble_eq_true rfl
  have hRc : 0 ≤ R.cells := by rw [hRe]; exact Nat.le_of_ble_eq_true rfl
  have hRs : 0 ≤ R.slots := by rw [hRe]; exact Nat.le_of_ble_eq_true rfl
  have hD := sA_D hD0

  have hN := tm_N hc.1.1
  have hT1 := hc.2.2.1.1
  have hT2 := hc.2.2.1.2.1
  refine lv_aload_n hx hb dS_direct_0 rfl (lv_at hl 0 rfl) ?_
  refine lv_iload_n hx hb dS_direct_1 rfl (lv_at hl 1 rfl) ?_
  refine ks_rn ⟨hx, hb, hml, hown, hA⟩ (c_checkTerm l D a kI kL kZ u d (by omega) (by omega)) (kw_S_44 hA rfl rfl ⟨Nat.le_trans (Nat.le_of_ble_eq_true rfl) hRf, Nat.le_trans (Nat.le_of_ble_eq_true rfl) hRl⟩) hK hP hS 0 4 rfl rfl rfl hl.1 (Nat.le_of_ble_eq_true rfl) ⟨by omega, by omega⟩ dS_direct_2 rfl (fun H locs hP hS => ?_)
  refine lv_aload_n hx hb dS_direct_5 rfl (lv_at hl 0 rfl) ?_
  refine lv_iload_n hx hb dS_direct_6 rfl (lv_at hl 2 rfl) ?_
  refine ks_rn ⟨hx, hb, hml, hown, hA⟩ (c_checkTerm l D a kI kL kZ u d2 (by omega) (by omega)) (kw_S_44 hA rfl rfl ⟨Nat.le_trans (Nat.le_of_ble_eq_true rfl) hRf, Nat.le_trans (Nat.le_of_ble_eq_true rfl) hRl⟩) hK hP hS 0 4 rfl rfl rfl hl.1 (Nat.le_of_ble_eq_true rfl) ⟨by omega, by omega⟩ dS_direct_7 rfl (fun H locs hP hS => ?_)
  refine lv_aload_n hx hb dS_direct_10 rfl (lv_at hl 0 rfl) ?_
  refine gf_S_28 (v := .ref (a 3)) hx hb hA hown hK hP 0 rfl rfl dS_direct_11 ?_
  refine lv_iload_n hx hb dS_direct_14 rfl (lv_at hl 1 rfl) ?_
  refine ks_v (wf := sW a kI kL kZ) (u := u) ⟨hx, hb, hml, hown, hA⟩ (c_placeWithAbove l D a kI kL kZ u N kd fa fb T so xa xb xc hc d (by omega)) (kw_S_86 hA rfl rfl ⟨Nat.le_trans (Nat.le_of_ble_eq_true rfl) hRf, Nat.le_trans (Nat.le_of_ble_eq_true rfl) hRl⟩) hK hP hD hS (fun _ h => h) (fun u' => sW_adr u') 3 3 rfl rfl rfl hl.1 (Nat.le_of_ble_eq_true rfl) ⟨by omega, by omega⟩ dS_direct_15 rfl (fun u1 H locs hu1 hP hD hS => ?_)
  have hz := tm_N hu1.1.1.1
  refine lv_aload_n hx hb dS_direct_18 rfl (lv_at hl 0 rfl) ?_
  refine lv_iload_n hx hb dS_direct_19 rfl (lv_at hl 1 rfl) ?_
  refine lv_iload_n hx hb dS_direct_20 rfl (lv_at hl 2 rfl) ?_
  refine ks_rv ⟨hx, hb, hml, hown, hA⟩ (c_isStrictlyBelow l D a kI kL kZ u1 d d2 (by omega) (by omega)) (kw_S_89 hA rfl rfl ⟨Nat.le_trans (Nat.le_of_ble_eq_true rfl) hRf, Nat.le_trans (Nat.le_of_ble_eq_true rfl) hRl⟩) hK hP hS 0 4 rfl rfl rfl hl.1 (Nat.le_of_ble_eq_true rfl) ⟨by omega, by omega⟩ dS_direct_21 rfl (fun H locs hP hS => ?_)
  refine tq_bt hx hb dS_direct_24 (tgt := 29) (by decide) (fun h24 => ?_) (fun h24 => ?_)
  · refine lv_iconst (v := nI 0) hx hb dS_direct_29 (by decide +kernel) ?_
    refine lv_istore_n (lv' := [(3, .int (nI 0)), (0, .ref (a 0)), (1, .int (nI d)), (2, .int (nI d2))]) hx hb dS_direct_30 rfl hl (by decide) rfl (fun ls hl => ?_)
    have lp : ∀ (fu : Nat) (n : Nat) (ls : Array Slot) (H : Heap) (locs : List Loc), (∀ b, b < n → ¬ (s_sb u1 d b = true ∧ s_sb u1 b d2 = true)) → n ≤ N → va_P D vwA (sW a kI kL kZ u1) H → va_D (sA a) (sW a kI kL kZ u1) → va_S (sA a) s.heap H locs → N - n < fu → lv_has ls 4 [(3, .int (nI n)), (0, .ref (a 0)), (1, .int (nI d)), (2, .int (nI d2))] → W p l e R s m ([.ref (a 0), .int (nI d), .int (nI d2)] : List Value).toArray below meth c H locs 0 0 Q (F0 m 31 ls []) := by
      intro fu
      induction fu with
      | zero => intros; omega
      | succ fu ih31 =>
        intro n ls H locs g1 g2 hP hD hS hfu hl
        refine lv_iload_n hx hb dS_direct_31 rfl (lv_at hl 0 rfl) ?_
        refine lv_aload_n hx hb dS_direct_32 rfl (lv_at hl 1 rfl) ?_
        refine gf_S_10 (v := .ref (a 1)) hx hb hA hown hK hP 0 rfl rfl dS_direct_33 ?_
        refine ks_rv ⟨hx, hb, hml, hown, hA⟩ (c_size l D a kI kL kZ u1  ) (kw_S_79 hA rfl rfl ⟨Nat.le_trans (Nat.le_of_ble_eq_true rfl) hRf, Nat.le_trans (Nat.le_of_ble_eq_true rfl) hRl⟩) hK hP hS 1 1 rfl rfl rfl hl.1 (Nat.le_of_ble_eq_true rfl) ⟨by omega, by omega⟩ dS_direct_36 rfl (fun H locs hP hS => ?_)
        refine tq_ge hx hb dS_direct_39 (tgt := 68) (by decide) (by omega) (by omega) (fun h39 => ?_) (fun h39 => ?_)
        · refine lv_iconst (v := nI 1) hx hb dS_direct_68 (by decide +kernel) ?_
          subst hQe
          exact W.zret (v := nI 1) (ty := .boolean) hx hb hr rfl (fun t ht hW => ⟨⟨_, u1, rfl, ⟨by rw [s_dir_t h24 (fun b z => g1 b (by omega))]; rfl, hu1⟩, tq_hp ht hP⟩, hS.F ht⟩) hS.2.2 dS_direct_69
        · refine lv_aload_n hx hb dS_direct_42 rfl (lv_at hl 1 rfl) ?_
          refine lv_iload_n hx hb dS_direct_43 rfl (lv_at hl 2 rfl) ?_
          refine lv_iload_n hx hb dS_direct_44 rfl (lv_at hl 0 rfl) ?_
          refine ks_rv ⟨hx, hb, hml, hown, hA⟩ (c_isStrictlyBelow l D a kI kL kZ u1 d n (by omega) (by omega)) (kw_S_89 hA rfl rfl ⟨Nat.le_trans (Nat.le_of_ble_eq_true rfl) hRf, Nat.le_trans (Nat.le_of_ble_eq_true rfl) hRl⟩) hK hP hS 0 4 rfl rfl rfl hl.1 (Nat.le_of_ble_eq_true rfl) ⟨by omega, by omega⟩ dS_direct_45 rfl (fun H locs hP hS => ?_)
          refine tq_bf hx hb dS_direct_48 (tgt := 62) (by decide) (fun h48 => ?_) (fun h48 => ?_)
          · have hno : (fun b => ¬ (s_sb u1 d b = true ∧ s_sb u1 b d2 = true)) n := fun z => absurd z.1 (by rw [h48]; decide)
            refine lv_iinc (k := 0) (lv' := [(3, .int (nI (n + 1))), (0, .ref (a 0)), (1, .int (nI d)), (2, .int (nI d2))]) hx hb dS_direct_62 hl rfl (nI_1 _) (by decide) rfl (fun ls hl => ?_)
            refine lv_goto hx hb dS_direct_65 (tgt := 31) (by decide) ?_
            exact ih31 (n + 1) ls H locs (lt_s (p := fun b => ¬ (s_sb u1 d b = true ∧ s_sb u1 b d2 = true)) g1 hno) (by omega) hP hD hS (by omega) (lv_sub hl [0, 1, 2, 3] rfl)
          · refine lv_aload_n hx hb dS_direct_51 rfl (lv_at hl 1 rfl) ?_
            refine lv_iload_n hx hb dS_direct_52 rfl (lv_at hl 0 rfl) ?_
            refine lv_iload_n hx hb dS_direct_53 rfl (lv_at hl 3 rfl) ?_
            refine ks_rv ⟨hx, hb, hml, hown, hA⟩ (c_isStrictlyBelow l D a kI kL kZ u1 n d2 (by omega) (by omega)) (kw_S_89 hA rfl rfl ⟨Nat.le_trans (Nat.le_of_ble_eq_true rfl) hRf, Nat.le_trans (Nat.le_of_ble_eq_true rfl) hRl⟩) hK hP hS 0 4 rfl rfl rfl hl.1 (Nat.le_of_ble_eq_true rfl) ⟨by omega, by omega⟩ dS_direct_54 rfl (fun H locs hP hS => ?_)
            refine tq_bf hx hb dS_direct_57 (tgt := 62) (by decide) (fun h57 => ?_) (fun h57 => ?_)
            · have hno : (fun b => ¬ (s_sb u1 d b = true ∧ s_sb u1 b d2 = true)) n := fun z => absurd z.2 (by rw [h57]; decide)
              refine lv_iinc (k := 0) (lv' := [(3, .int (nI (n + 1))), (0, .ref (a 0)), (1, .int (nI d)), (2, .int (nI d2))]) hx hb dS_direct_62 hl rfl (nI_1 _) (by decide) rfl (fun ls hl => ?_)
              refine lv_goto hx hb dS_direct_65 (tgt := 31) (by decide) ?_
              exact ih31 (n + 1) ls H locs (lt_s (p := fun b => ¬ (s_sb u1 d b = true ∧ s_sb u1 b d2 = true)) g1 hno) (by omega) hP hD hS (by omega) (lv_sub hl [0, 1, 2, 3] rfl)
            · refine lv_iconst (v := nI 0) hx hb dS_direct_60 (by decide +kernel) ?_
              subst hQe
              exact W.zret (v := nI 0) (ty := .boolean) hx hb hr rfl (fun t ht hW => ⟨⟨_, u1, rfl, ⟨by rw [s_dir_f (by omega) h48 h57]; rfl, hu1⟩, tq_hp ht hP⟩, hS.F ht⟩) hS.2.2 dS_direct_61
    exact lp _ 0 ls _ _ (fun b z => absurd z (Nat.not_lt_zero b)) (by omega) hP hD hS (Nat.lt_succ_self _) (lv_sub hl [0, 1, 2, 3] rfl)
  · refine lv_iconst (v := nI 0) hx hb dS_direct_27 (by decide +kernel) ?_
    subst hQe
    exact W.zret (v := nI 0) (ty := .boolean) hx hb hr rfl (fun t ht hW => ⟨⟨_, u1, rfl, ⟨by rw [s_dir_f0 h24]; rfl, hu1⟩, tq_hp ht hP⟩, hS.F ht⟩) hS.2.2 dS_direct_28
set_option maxHeartbeats 4000000 in
set_option maxRecDepth 100000 in
/-- c_twin -/
theorem c_twin (l : Launch) (D : va_G) (a : Nat → Nat) (kI kL kZ : ClassId) (u : sU) (N : Nat) (kd fa fb : Nat → Nat) (T : Nat) (so xa xb xc : Nat → Nat) (hc : s_cinv u N kd fa fb T so xa xb xc) (d : Nat) (hd : d < N) : Met l yS_twin (wS_twin :: wA) ({ frames := 6, cells := 0, slots := 0, locals := 149 }) (va_Pc [.ref (a 0), .int (nI d)] (tq_wB D vwA (sW a kI kL kZ u) (sT kI kL kZ))) (va_Qi (fun r (u' : sU) => r = nI (s_le u' d) ∧ s_full u u' N kd fa fb T so xa xb xc ∧ u'.1 0 (d * 7 + 6) d = true ∧ ∀ b, b < N → b_Bel N kd fa fb so xa xb xc (x_inf u) d b → u'.1 0 (b * 7 + 6) b = true) (fun u' t => va_P D vwA (sW a kI kL kZ u') t.heap) (sA a)) 0 0 (sA a) := by
  refine Met.ofW (cc := bS_twin) (maxL := 2) (ret := (some .int)) (by decide +kernel) rfl ?_
  intro p e s m args below meth c s₁ B1 hml hv
  obtain ⟨rfl, hP, hK, hD0⟩ := hv
  have hx := B1.exec
  have hb := B1.bytes
  have hr := B1.returns
  have hA : ∀ w ∈ wA, w.before ([.ref (a 0), .int (nI d)] : List Value).toArray s = true := fun w h => atoms_spec (ws := wS_twin :: wA) B1.pre w (List.mem_cons_of_mem _ h)
  have hown : s.vm.findClass RcS = some m.cls := findClass_of_methodNamed B1.named
  have hlocks := B1.notSynchronized
  have hS : va_S (sA a) s.heap s.heap [] := va_S.rf
  have hl := lv_entry ([.ref (a 0), .int (nI d)]) (n := 2) (Nat.le_of_ble_eq_true rfl)
  rw [lg_entry_eq]
  generalize (lg_sl ([.ref (a 0), .int (nI d)]) ++ List.replicate (2 - (lg_sl ([.ref (a 0), .int (nI d)])).length) Slot.unset).toArray = ls at hl ⊢
  have hl : lv_has ls 2 [(0, .ref (a 0)), (1, .int (nI d))] := hl
  refine tq_gen (fun R Q hRe hQe => ?_)
  have hRf : 6 ≤ R.frames := by rw [hRe]; exact Nat.le_of_ble_eq_true rfl
  have hRl : 149 ≤ R.locals := by rw [hRe]; exact Nat.le_of_ble_eq_true rfl
  have hRc : 0 ≤ R.cells := by rw [hRe]; exact Nat.le_of_ble_eq_true rfl
  have hRs : 0 ≤ R.slots := by rw [hRe]; exact Nat.le_of_ble_eq_true rfl
  have hD := sA_D hD0

  have hN := tm_N hc.1.1
  have hT1 := hc.2.2.1.1
  have hT2 := hc.2.2.1.2.1
  refine lv_aload_n hx hb dS_twin_0 rfl (lv_at hl 0 rfl) ?_
  refine lv_iload_n hx hb dS_twin_1 rfl (lv_at hl 1 rfl) ?_
  refine ks_rn ⟨hx, hb, hml, hown, hA⟩ (c_checkTerm l D a kI kL kZ u d (by omega) (by omega)) (kw_S_44 hA rfl rfl ⟨Nat.le_trans (Nat.le_of_ble_eq_true rfl) hRf, Nat.le_trans (Nat.le_of_ble_eq_true rfl) hRl⟩) hK hP hS 0 4 rfl rfl rfl hl.1 (Nat.le_of_ble_eq_true rfl) ⟨by omega, by omega⟩ dS_twin_2 rfl (fun H locs hP hS => ?_)
  refine lv_aload_n hx hb dS_twin_5 rfl (lv_at hl 0 rfl) ?_
  refine gf_S_28 (v := .ref (a 3)) hx hb hA hown hK hP 0 rfl rfl dS_twin_6 ?_
  refine lv_iload_n hx hb dS_twin_9 rfl (lv_at hl 1 rfl) ?_
  refine ks_v (wf := sW a kI kL kZ) (u := u) ⟨hx, hb, hml, hown, hA⟩ (c_placeWithAbove l D a kI kL kZ u N kd fa fb T so xa xb xc hc d (by omega)) (kw_S_86 hA rfl rfl ⟨Nat.le_trans (Nat.le_of_ble_eq_true rfl) hRf, Nat.le_trans (Nat.le_of_ble_eq_true rfl) hRl⟩) hK hP hD hS (fun _ h => h) (fun u' => sW_adr u') 3 3 rfl rfl rfl hl.1 (Nat.le_of_ble_eq_true rfl) ⟨by omega, by omega⟩ dS_twin_10 rfl (fun u1 H locs hu1 hP hD hS => ?_)
  refine lv_aload_n hx hb dS_twin_13 rfl (lv_at hl 0 rfl) ?_
  refine lv_iload_n hx hb dS_twin_14 rfl (lv_at hl 1 rfl) ?_
  refine ks_rv ⟨hx, hb, hml, hown, hA⟩ (c_leastEqual l D a kI kL kZ u1 d (by omega)) (kw_S_92 hA rfl rfl ⟨Nat.le_trans (Nat.le_of_ble_eq_true rfl) hRf, Nat.le_trans (Nat.le_of_ble_eq_true rfl) hRl⟩) hK hP hS 0 4 rfl rfl rfl hl.1 (Nat.le_of_ble_eq_true rfl) ⟨by omega, by omega⟩ dS_twin_15 rfl (fun H locs hP hS => ?_)
  subst hQe
  exact W.iret (v := nI (s_le u1 d)) hx hb hr (fun t ht hW => ⟨⟨_, u1, rfl, ⟨rfl, hu1⟩, tq_hp ht hP⟩, hS.F ht⟩) hS.2.2 dS_twin_18
set_option maxHeartbeats 4000000 in
set_option maxRecDepth 100000 in
/-- c_common -/
theorem c_common (l : Launch) (D : va_G) (a : Nat → Nat) (kI kL kZ : ClassId) (u : sU) (N : Nat) (kd fa fb : Nat → Nat) (T : Nat) (so xa xb xc : Nat → Nat) (hc : s_cinv u N kd fa fb T so xa xb xc) (d d2 : Nat) (x : Int32) (hd : d < N) (hd2 : d2 < N) : Met l yS_common (wS_common :: wA) ({ frames := 6, cells := 0, slots := 0, locals := 149 }) (va_Pc [.ref (a 0), .int (nI d), .int (nI d2), .int x] (tq_wB D vwA (sW a kI kL kZ u) (sT kI kL kZ))) (va_Qi (fun r (u' : sU) => ∃ u1 : sU, q_sup (fun k => s_nb u' d d2 k && s_lo u' d d2 k) N x r ∧ (s_full u u1 N kd fa fb T so xa xb xc ∧ u1.1 0 (d * 7 + 6) d = true ∧ ∀ b, b < N → b_Bel N kd fa fb so xa xb xc (x_inf u) d b → u1.1 0 (b * 7 + 6) b = true) ∧ s_full u1 u' N kd fa fb T so xa xb xc ∧ u'.1 0 (d2 * 7 + 6) d2 = true ∧ (u1.2.2 6 = 0 → ∀ y b, u1.1 0 y b = true → u'.1 0 y b = true)) (fun u' t => va_P D vwA (sW a kI kL kZ u') t.heap) (sA a)) 0 0 (sA a) := by
  refine Met.ofW (cc := bS_common) (maxL := 6) (ret := (some .int)) (by decide +kernel) rfl ?_
  intro p e s m args below meth c s₁ B1 hml hv
  obtain ⟨rfl, hP, hK, hD0⟩ := hv
  have hx := B1.exec
  have hb := B1.bytes
  have hr := B1.returns
  have hA : ∀ w ∈ wA, w.before ([.ref (a 0), .int (nI d), .int (nI d2), .int x] : List Value).toArray s = true := fun w h => atoms_spec (ws := wS_common :: wA) B1.pre w (List.mem_cons_of_mem _ h)
  have hown : s.vm.findClass RcS = some m.cls := findClass_of_methodNamed B1.named
  have hlocks := B1.notSynchronized
  have hS : va_S (sA a) s.heap s.heap [] := va_S.rf
  have hl := lv_entry ([.ref (a 0), .int (nI d), .int (nI d2), .int x]) (n := 6) (Nat.le_of_ble_eq_true rfl)
  rw [lg_entry_eq]
  generalize (lg_sl ([.ref (a 0), .int (nI d), .int (nI d2), .int x]) ++ List.replicate (6 - (lg_sl ([.ref (a 0), .int (nI d), .int (nI d2), .int x])).length) Slot.unset).toArray = ls at hl ⊢
  have hl : lv_has ls 6 [(0, .ref (a 0)), (1, .int (nI d)), (2, .int (nI d2)), (3, .int x)] := hl
  refine tq_gen (fun R Q hRe hQe => ?_)
  have hRf : 6 ≤ R.frames := by rw [hRe]; exact Nat.le_of_ble_eq_true rfl
  have hRl : 149 ≤ R.locals := by rw [hRe]; exact Nat.le_of_ble_eq_true rfl
  have hRc : 0 ≤ R.cells := by rw [hRe]; exact Nat.le_of_ble_eq_true rfl
  have hRs : 0 ≤ R.slots := by rw [hRe]; exact Nat.le_of_ble_eq_true rfl
  have hD := sA_D hD0

  have hN := tm_N hc.1.1
  have hT1 := hc.2.2.1.1
  have hT2 := hc.2.2.1.2.1
  refine lv_aload_n hx hb dS_common_0 rfl (lv_at hl 0 rfl) ?_
  refine lv_iload_n hx hb dS_common_1 rfl (lv_at hl 1 rfl) ?_
  refine ks_rn ⟨hx, hb, hml, hown, hA⟩ (c_checkTerm l D a kI kL kZ u d (by omega) (by omega)) (kw_S_44 hA rfl rfl ⟨Nat.le_trans (Nat.le_of_ble_eq_true rfl) hRf, Nat.le_trans (Nat.le_of_ble_eq_true rfl) hRl⟩) hK hP hS 0 4 rfl rfl rfl hl.1 (Nat.le_of_ble_eq_true rfl) ⟨by omega, by omega⟩ dS_common_2 rfl (fun H locs hP hS => ?_)
  refine lv_aload_n hx hb dS_common_5 rfl (lv_at hl 0 rfl) ?_
  refine lv_iload_n hx hb dS_common_6 rfl (lv_at hl 2 rfl) ?_
  refine ks_rn ⟨hx, hb, hml, hown, hA⟩ (c_checkTerm l D a kI kL kZ u d2 (by omega) (by omega)) (kw_S_44 hA rfl rfl ⟨Nat.le_trans (Nat.le_of_ble_eq_true rfl) hRf, Nat.le_trans (Nat.le_of_ble_eq_true rfl) hRl⟩) hK hP hS 0 4 rfl rfl rfl hl.1 (Nat.le_of_ble_eq_true rfl) ⟨by omega, by omega⟩ dS_common_7 rfl (fun H locs hP hS => ?_)
  refine lv_aload_n hx hb dS_common_10 rfl (lv_at hl 0 rfl) ?_
  refine gf_S_28 (v := .ref (a 3)) hx hb hA hown hK hP 0 rfl rfl dS_common_11 ?_
  refine lv_iload_n hx hb dS_common_14 rfl (lv_at hl 1 rfl) ?_
  refine ks_v (wf := sW a kI kL kZ) (u := u) ⟨hx, hb, hml, hown, hA⟩ (c_placeWithAbove l D a kI kL kZ u N kd fa fb T so xa xb xc hc d (by omega)) (kw_S_86 hA rfl rfl ⟨Nat.le_trans (Nat.le_of_ble_eq_true rfl) hRf, Nat.le_trans (Nat.le_of_ble_eq_true rfl) hRl⟩) hK hP hD hS (fun _ h => h) (fun u' => sW_adr u') 3 3 rfl rfl rfl hl.1 (Nat.le_of_ble_eq_true rfl) ⟨by omega, by omega⟩ dS_common_15 rfl (fun u1 H locs hu1 hP hD hS => ?_)
  have hz0 := tm_N hu1.1.1.1
  refine lv_aload_n hx hb dS_common_18 rfl (lv_at hl 0 rfl) ?_
  refine gf_S_28 (v := .ref (a 3)) hx hb hA hown hK hP 0 rfl rfl dS_common_19 ?_
  refine lv_iload_n hx hb dS_common_22 rfl (lv_at hl 2 rfl) ?_
  refine ks_v (wf := sW a kI kL kZ) (u := u1) ⟨hx, hb, hml, hown, hA⟩ (c_place l D a kI kL kZ u1 N kd fa fb T so xa xb xc (full_cinv hc hu1.1) d2 (by omega)) (kw_S_72 hA rfl rfl ⟨Nat.le_trans (Nat.le_of_ble_eq_true rfl) hRf, Nat.le_trans (Nat.le_of_ble_eq_true rfl) hRl⟩) hK hP hD hS (fun _ h => h) (fun u' => sW_adr u') 3 3 rfl rfl rfl hl.1 (Nat.le_of_ble_eq_true rfl) ⟨by omega, by omega⟩ dS_common_23 rfl (fun u2 H locs hu2 hP hD hS => ?_)
  have hz := tm_N hu2.1.1.1
  refine lv_iconst (v := nI 0) hx hb dS_common_26 (by decide +kernel) ?_
  refine lv_istore (lv' := [(4, .int (nI 0)), (0, .ref (a 0)), (1, .int (nI d)), (2, .int (nI d2)), (3, .int x)]) hx hb dS_common_27 hl (by decide) rfl (fun ls hl => ?_)
  refine lv_iconst (v := nI 0) hx hb dS_common_29 (by decide +kernel) ?_
  refine lv_istore (lv' := [(5, .int (nI 0)), (4, .int (nI 0)), (0, .ref (a 0)), (1, .int (nI d)), (2, .int (nI d2)), (3, .int x)]) hx hb dS_common_30 hl (by decide) rfl (fun ls hl => ?_)
  have lp : ∀ (fu : Nat) (q n : Nat) (ls : Array Slot) (H : Heap) (locs : List Loc), q = tm_cnt (fun k => s_nb u2 d d2 k && s_lo u2 d d2 k) n → n ≤ N → (∀ b, b < n → ((fun k => s_nb u2 d d2 k && s_lo u2 d d2 k) b = true → ¬ nI (tm_cnt (fun k => s_nb u2 d d2 k && s_lo u2 d d2 k) b) = x)) → va_P D vwA (sW a kI kL kZ u2) H → va_D (sA a) (sW a kI kL kZ u2) → va_S (sA a) s.heap H locs → N - n < fu → lv_has ls 6 [(5, .int (nI n)), (4, .int (nI q)), (0, .ref (a 0)), (1, .int (nI d)), (2, .int (nI d2)), (3, .int x)] → W p l e R s m ([.ref (a 0), .int (nI d), .int (nI d2), .int x] : List Value).toArray below meth c H locs 0 0 Q (F0 m 32 ls []) := by
    intro fu
    induction fu with
    | zero => intros; omega
    | succ fu ih32 =>
      intro q n ls H locs g1 g2 g3 hP hD hS hfu hl
      have hq9 := tm_cnt_le (fun k => s_nb u2 d d2 k && s_lo u2 d d2 k) n
      refine lv_iload hx hb dS_common_32 (lv_at hl 0 rfl) ?_
      refine lv_aload_n hx hb dS_common_34 rfl (lv_at hl 2 rfl) ?_
      refine gf_S_10 (v := .ref (a 1)) hx hb hA hown hK hP 0 rfl rfl dS_common_35 ?_
      refine ks_rv ⟨hx, hb, hml, hown, hA⟩ (c_size l D a kI kL kZ u2  ) (kw_S_79 hA rfl rfl ⟨Nat.le_trans (Nat.le_of_ble_eq_true rfl) hRf, Nat.le_trans (Nat.le_of_ble_eq_true rfl) hRl⟩) hK hP hS 1 1 rfl rfl rfl hl.1 (Nat.le_of_ble_eq_true rfl) ⟨by omega, by omega⟩ dS_common_38 rfl (fun H locs hP hS => ?_)
      refine tq_ge hx hb dS_common_41 (tgt := 84) (by decide) (by omega) (by omega) (fun h41 => ?_) (fun h41 => ?_)
      · refine lv_iconst (v := (-1)) hx hb dS_common_84 (by decide +kernel) ?_
        subst hQe
        exact W.iret (v := (-1)) hx hb hr (fun t ht hW => ⟨⟨_, u2, rfl, ⟨u1, Or.inr ⟨rfl, fun b z => g3 b (by omega)⟩, hu1, hu2⟩, tq_hp ht hP⟩, hS.F ht⟩) hS.2.2 dS_common_85
      · refine lv_aload_n hx hb dS_common_44 rfl (lv_at hl 2 rfl) ?_
        refine lv_iload_n hx hb dS_common_45 rfl (lv_at hl 3 rfl) ?_
        refine lv_iload_n hx hb dS_common_46 rfl (lv_at hl 4 rfl) ?_
        refine lv_iload hx hb dS_common_47 (lv_at hl 0 rfl) ?_
        refine ks_rv ⟨hx, hb, hml, hown, hA⟩ (c_isNameAboveBoth l D a kI kL kZ u2 d d2 n (by omega) (by omega) (by omega)) (kw_S_96 hA rfl rfl ⟨Nat.le_trans (Nat.le_of_ble_eq_true rfl) hRf, Nat.le_trans (Nat.le_of_ble_eq_true rfl) hRl⟩) hK hP hS 0 4 rfl rfl rfl hl.1 (Nat.le_of_ble_eq_true rfl) ⟨by omega, by omega⟩ dS_common_49 rfl (fun H locs hP hS => ?_)
        refine tq_bf hx hb dS_common_52 (tgt := 78) (by decide) (fun h52 => ?_) (fun h52 => ?_)
        · have hpn : (fun k => s_nb u2 d d2 k && s_lo u2 d d2 k) n = false := by show (_ && _) = false; rw [h52]; rfl
          have hstep : q = tm_cnt (fun k => s_nb u2 d d2 k && s_lo u2 d d2 k) (n + 1) := by rw [cnt_no (p := (fun k => s_nb u2 d d2 k && s_lo u2 d d2 k)) hpn]; exact g1
          have hno : (fun b => ((fun k => s_nb u2 d d2 k && s_lo u2 d d2 k) b = true → ¬ nI (tm_cnt (fun k => s_nb u2 d d2 k && s_lo u2 d d2 k) b) = x)) n := fun z => absurd z (by rw [hpn]; decide)
          refine lv_iinc (k := 0) (lv' := [(5, .int (nI (n + 1))), (4, .int (nI q)), (0, .ref (a 0)), (1, .int (nI d)), (2, .int (nI d2)), (3, .int x)]) hx hb dS_common_78 hl rfl (nI_1 _) (by decide) rfl (fun ls hl => ?_)
          refine lv_goto hx hb dS_common_81 (tgt := 32) (by decide) ?_
          exact ih32 q (n + 1) ls H locs (hstep) (by omega) (lt_s (p := fun b => ((fun k => s_nb u2 d d2 k && s_lo u2 d d2 k) b = true → ¬ nI (tm_cnt (fun k => s_nb u2 d d2 k && s_lo u2 d d2 k) b) = x)) g3 hno) hP hD hS (by omega) (lv_sub hl [0, 1, 2, 3, 4, 5] rfl)
        · refine lv_aload_n hx hb dS_common_55 rfl (lv_at hl 2 rfl) ?_
          refine lv_iload_n hx hb dS_common_56 rfl (lv_at hl 3 rfl) ?_
          refine lv_iload_n hx hb dS_common_57 rfl (lv_at hl 4 rfl) ?_
          refine lv_iload hx hb dS_common_58 (lv_at hl 0 rfl) ?_
          refine ks_rv ⟨hx, hb, hml, hown, hA⟩ (c_isLowestAboveBoth l D a kI kL kZ u2 d d2 n (by omega) (by omega) (by omega) (by omega)) (kw_S_100 hA rfl rfl ⟨Nat.le_trans (Nat.le_of_ble_eq_true rfl) hRf, Nat.le_trans (Nat.le_of_ble_eq_true rfl) hRl⟩) hK hP hS 0 4 rfl rfl rfl hl.1 (Nat.le_of_ble_eq_true rfl) ⟨by omega, by omega⟩ dS_common_60 rfl (fun H locs hP hS => ?_)
          refine tq_bf hx hb dS_common_63 (tgt := 78) (by decide) (fun h63 => ?_) (fun h63 => ?_)
          · have hpn : (fun k => s_nb u2 d d2 k && s_lo u2 d d2 k) n = false := by show (_ && _) = false; rw [h63, Bool.and_false]
            have hstep : q = tm_cnt (fun k => s_nb u2 d d2 k && s_lo u2 d d2 k) (n + 1) := by rw [cnt_no (p := (fun k => s_nb u2 d d2 k && s_lo u2 d d2 k)) hpn]; exact g1
            have hno : (fun b => ((fun k => s_nb u2 d d2 k && s_lo u2 d d2 k) b = true → ¬ nI (tm_cnt (fun k => s_nb u2 d d2 k && s_lo u2 d d2 k) b) = x)) n := fun z => absurd z (by rw [hpn]; decide)
            refine lv_iinc (k := 0) (lv' := [(5, .int (nI (n + 1))), (4, .int (nI q)), (0, .ref (a 0)), (1, .int (nI d)), (2, .int (nI d2)), (3, .int x)]) hx hb dS_common_78 hl rfl (nI_1 _) (by decide) rfl (fun ls hl => ?_)
            refine lv_goto hx hb dS_common_81 (tgt := 32) (by decide) ?_
            exact ih32 q (n + 1) ls H locs (hstep) (by omega) (lt_s (p := fun b => ((fun k => s_nb u2 d d2 k && s_lo u2 d d2 k) b = true → ¬ nI (tm_cnt (fun k => s_nb u2 d d2 k && s_lo u2 d d2 k) b) = x)) g3 hno) hP hD hS (by omega) (lv_sub hl [0, 1, 2, 3, 4, 5] rfl)
          · refine lv_iload hx hb dS_common_66 (lv_at hl 1 rfl) ?_
            refine lv_iload_n hx hb dS_common_68 rfl (lv_at hl 5 rfl) ?_
            refine lv_icmp_ne hx hb dS_common_69 (tgt := 75) (by decide) (fun h69 => ?_) (fun h69 => ?_)
            · have hpn : (fun k => s_nb u2 d d2 k && s_lo u2 d d2 k) n = true := by show (_ && _) = true; rw [h52, h63]; rfl
              have hstep : q + 1 = tm_cnt (fun k => s_nb u2 d d2 k && s_lo u2 d d2 k) (n + 1) := by rw [cnt_yes (p := (fun k => s_nb u2 d d2 k && s_lo u2 d d2 k)) hpn, g1]
              have hno : (fun b => ((fun k => s_nb u2 d d2 k && s_lo u2 d d2 k) b = true → ¬ nI (tm_cnt (fun k => s_nb u2 d d2 k && s_lo u2 d d2 k) b) = x)) n := fun _ z => h69 (by rw [g1]; exact z)
              refine lv_iinc (k := 1) (lv' := [(4, .int (nI (q + 1))), (5, .int (nI n)), (0, .ref (a 0)), (1, .int (nI d)), (2, .int (nI d2)), (3, .int x)]) hx hb dS_common_75 hl rfl (nI_1 _) (by decide) rfl (fun ls hl => ?_)
              refine lv_iinc (k := 1) (lv' := [(5, .int (nI (n + 1))), (4, .int (nI (q + 1))), (0, .ref (a 0)), (1, .int (nI d)), (2, .int (nI d2)), (3, .int x)]) hx hb dS_common_78 hl rfl (nI_1 _) (by decide) rfl (fun ls hl => ?_)
              refine lv_goto hx hb dS_common_81 (tgt := 32) (by decide) ?_
              exact ih32 (q + 1) (n + 1) ls H locs (hstep) (by omega) (lt_s (p := fun b => ((fun k => s_nb u2 d d2 k && s_lo u2 d d2 k) b = true → ¬ nI (tm_cnt (fun k => s_nb u2 d d2 k && s_lo u2 d d2 k) b) = x)) g3 hno) hP hD hS (by omega) (lv_sub hl [0, 1, 2, 3, 4, 5] rfl)
            · refine lv_iload hx hb dS_common_72 (lv_at hl 0 rfl) ?_
              subst hQe
              exact W.iret (v := nI n) hx hb hr (fun t ht hW => ⟨⟨_, u2, rfl, ⟨u1, Or.inl ⟨n, by omega, by show (_ && _) = true; rw [h52, h63]; rfl, by rw [← g1]; exact h69, rfl⟩, hu1, hu2⟩, tq_hp ht hP⟩, hS.F ht⟩) hS.2.2 dS_common_74
  exact lp _ 0 0 ls _ _ rfl (by omega) (fun b z => absurd z (Nat.not_lt_zero b)) hP hD hS (Nat.lt_succ_self _) (lv_sub hl [0, 1, 2, 3, 4, 5] rfl)
set_option maxHeartbeats 4000000 in
set_option maxRecDepth 100000 in
/-- c_has -/
theorem c_has (l : Launch) (D : va_G) (a : Nat → Nat) (kI kL kZ : ClassId) (u : sU) (N : Nat) (kd fa fb : Nat → Nat) (T : Nat) (so xa xb xc : Nat → Nat) (hc : s_cinv u N kd fa fb T so xa xb xc) (x i y : Nat) (hx1 : x < N) (hi : i < 6) (hy : y < N) : Met l yS_has (wS_has :: wA) ({ frames := 6, cells := 0, slots := 0, locals := 148 }) (va_Pc [.ref (a 0), .int (nI x), .int (nI i), .int (nI y)] (tq_wB D vwA (sW a kI kL kZ u) (sT kI kL kZ))) (va_Qi (fun r (u' : sU) => ∃ b : Bool, r = bI b ∧ (b = true ↔ u'.1 0 (x * 7 + 6) 1 = true ∨ ∃ d, d < 160 ∧ u'.1 0 (x * 7 + i) d = true ∧ u'.1 0 (d * 7 + 6) y = true) ∧ s_full u u' N kd fa fb T so xa xb xc ∧ u'.1 0 (x * 7 + 6) x = true) (fun u' t => va_P D vwA (sW a kI kL kZ u') t.heap) (sA a)) 0 0 (sA a) := by
  refine Met.ofW (cc := bS_has) (maxL := 4) (ret := (some .boolean)) (by decide +kernel) rfl ?_
  intro p e s m args below meth c s₁ B1 hml hv
  obtain ⟨rfl, hP, hK, hD0⟩ := hv
  have hx := B1.exec
  have hb := B1.bytes
  have hr := B1.returns
  have hA : ∀ w ∈ wA, w.before ([.ref (a 0), .int (nI x), .int (nI i), .int (nI y)] : List Value).toArray s = true := fun w h => atoms_spec (ws := wS_has :: wA) B1.pre w (List.mem_cons_of_mem _ h)
  have hown : s.vm.findClass RcS = some m.cls := findClass_of_methodNamed B1.named
  have hlocks := B1.notSynchronized
  have hS : va_S (sA a) s.heap s.heap [] := va_S.rf
  have hl := lv_entry ([.ref (a 0), .int (nI x), .int (nI i), .int (nI y)]) (n := 4) (Nat.le_of_ble_eq_true rfl)
  rw [lg_entry_eq]
  generalize (lg_sl ([.ref (a 0), .int (nI x), .int (nI i), .int (nI y)]) ++ List.replicate (4 - (lg_sl ([.ref (a 0), .int (nI x), .int (nI i), .int (nI y)])).length) Slot.unset).toArray = ls at hl ⊢
  have hl : lv_has ls 4 [(0, .ref (a 0)), (1, .int (nI x)), (2, .int (nI i)), (3, .int (nI y))] := hl
  refine tq_gen (fun R Q hRe hQe => ?_)
  have hRf : 6 ≤ R.frames := by rw [hRe]; exact Nat.le_of_ble_eq_true rfl
  have hRl : 148 ≤ R.locals := by rw [hRe]; exact Nat.le_of_ble_eq_true rfl
  have hRc : 0 ≤ R.cells := by rw [hRe]; exact Nat.le_of_ble_eq_true rfl
  have hRs : 0 ≤ R.slots := by rw [hRe]; exact Nat.le_of_ble_eq_true rfl
  have hD := sA_D hD0

  have hN := tm_N hc.1.1
  have hT1 := hc.2.2.1.1
  have hT2 := hc.2.2.1.2.1
  refine lv_aload_n hx hb dS_has_0 rfl (lv_at hl 0 rfl) ?_
  refine lv_iload_n hx hb dS_has_1 rfl (lv_at hl 1 rfl) ?_
  refine ks_rn ⟨hx, hb, hml, hown, hA⟩ (c_checkTerm l D a kI kL kZ u x (by omega) (by omega)) (kw_S_44 hA rfl rfl ⟨Nat.le_trans (Nat.le_of_ble_eq_true rfl) hRf, Nat.le_trans (Nat.le_of_ble_eq_true rfl) hRl⟩) hK hP hS 0 4 rfl rfl rfl hl.1 (Nat.le_of_ble_eq_true rfl) ⟨by omega, by omega⟩ dS_has_2 rfl (fun H locs hP hS => ?_)
  refine lv_iload_n hx hb dS_has_5 rfl (lv_at hl 2 rfl) ?_
  refine ks_sn ⟨hx, hb, hml, hown, hA⟩ (c_checkRole l i (by omega)) (kw_S_52 hA rfl rfl ⟨Nat.le_trans (Nat.le_of_ble_eq_true rfl) hRf, Nat.le_trans (Nat.le_of_ble_eq_true rfl) hRl⟩) hP hS rfl hl.1 (Nat.le_of_ble_eq_true rfl) ⟨by omega, by omega⟩ dS_has_6 rfl (fun H locs hP hS => ?_)
  refine lv_aload_n hx hb dS_has_9 rfl (lv_at hl 0 rfl) ?_
  refine lv_iload_n hx hb dS_has_10 rfl (lv_at hl 3 rfl) ?_
  refine ks_rn ⟨hx, hb, hml, hown, hA⟩ (c_checkTerm l D a kI kL kZ u y (by omega) (by omega)) (kw_S_44 hA rfl rfl ⟨Nat.le_trans (Nat.le_of_ble_eq_true rfl) hRf, Nat.le_trans (Nat.le_of_ble_eq_true rfl) hRl⟩) hK hP hS 0 4 rfl rfl rfl hl.1 (Nat.le_of_ble_eq_true rfl) ⟨by omega, by omega⟩ dS_has_11 rfl (fun H locs hP hS => ?_)
  refine lv_aload_n hx hb dS_has_14 rfl (lv_at hl 0 rfl) ?_
  refine gf_S_28 (v := .ref (a 3)) hx hb hA hown hK hP 0 rfl rfl dS_has_15 ?_
  refine lv_iload_n hx hb dS_has_18 rfl (lv_at hl 1 rfl) ?_
  refine ks_v (wf := sW a kI kL kZ) (u := u) ⟨hx, hb, hml, hown, hA⟩ (c_place l D a kI kL kZ u N kd fa fb T so xa xb xc hc x (by omega)) (kw_S_72 hA rfl rfl ⟨Nat.le_trans (Nat.le_of_ble_eq_true rfl) hRf, Nat.le_trans (Nat.le_of_ble_eq_true rfl) hRl⟩) hK hP hD hS (fun _ h => h) (fun u' => sW_adr u') 3 3 rfl rfl rfl hl.1 (Nat.le_of_ble_eq_true rfl) ⟨by omega, by omega⟩ dS_has_19 rfl (fun u1 H locs hu1 hP hD hS => ?_)
  refine lv_aload_n hx hb dS_has_22 rfl (lv_at hl 0 rfl) ?_
  refine gf_S_28 (v := .ref (a 3)) hx hb hA hown hK hP 0 rfl rfl dS_has_23 ?_
  refine lv_iload_n hx hb dS_has_26 rfl (lv_at hl 1 rfl) ?_
  refine lv_iload_n hx hb dS_has_27 rfl (lv_at hl 2 rfl) ?_
  refine lv_iload_n hx hb dS_has_28 rfl (lv_at hl 3 rfl) ?_
  refine ks_r ⟨hx, hb, hml, hown, hA⟩ (c_reaches l D a kI kL kZ u1 x i y (by omega) (by omega) (by omega)) (kw_S_109 hA rfl rfl ⟨Nat.le_trans (Nat.le_of_ble_eq_true rfl) hRf, Nat.le_trans (Nat.le_of_ble_eq_true rfl) hRl⟩) hK hP hS 3 3 rfl rfl rfl hl.1 (Nat.le_of_ble_eq_true rfl) ⟨by omega, by omega⟩ dS_has_29 rfl (fun r2 H locs hr2 hP hS => ?_)
  obtain ⟨b9, rfl, hb9⟩ := hr2
  subst hQe
  exact W.zret (v := bI b9) (ty := .boolean) hx hb hr (tq_nz _) (fun t ht hW => ⟨⟨_, u1, rfl, ⟨b9, rfl, hb9, hu1.1, hu1.2.1⟩, tq_hp ht hP⟩, hS.F ht⟩) hS.2.2 dS_has_32
theorem tq_in {x : Int32} {M : Nat} (h0 : ¬ x < 0) (h : ¬ nI M ≤ x) (hM : M < 2 ^ 31) : ∃ k, k < M ∧ x = nI k := by
  rw [Int32.lt_iff_toInt_lt] at h0
  rw [Int32.le_iff_toInt_le, nI_toInt hM] at h
  have e : (0 : Int32).toInt = 0 := by decide
  refine ⟨x.toInt.toNat, by omega, Int32.toInt_inj.mp ?_⟩
  rw [nI_toInt (by omega)]
  omega
theorem tq_out {x : Int32} {M : Nat} (h : x < 0 ∨ nI M ≤ x) (hM : M < 2 ^ 31) : ∀ k, k < M → ¬ x = nI k := fun k hk z => by
  subst z
  rw [Int32.lt_iff_toInt_lt, Int32.le_iff_toInt_le, nI_toInt hM, nI_toInt (by omega)] at h
  have e : (0 : Int32).toInt = 0 := by decide
  omega
set_option maxHeartbeats 4000000 in
set_option maxRecDepth 100000 in
/-- c_reason -/
theorem c_reason (l : Launch) (D : va_G) (a : Nat → Nat) (kI kL kZ : ClassId) (u : sU) (x : Int32) (hM : u.2.2 7 ≤ 100) : Met l yS_reason (wS_reason :: wA) ({ frames := 0, cells := 0, slots := 0, locals := 0 }) (va_Pc [.ref (a 0), .int x] (tq_wB D vwA (sW a kI kL kZ u) (sT kI kL kZ))) (va_Qi (fun r (u' : sU) => ((∃ k, k < u.2.2 7 ∧ x = nI k ∧ r = u.2.1 9 (u.2.2 7 - 1 - k)) ∨ (r = -1 ∧ ∀ k, k < u.2.2 7 → ¬ x = nI k)) ∧ u' = u) (fun u' t => va_P D vwA (sW a kI kL kZ u') t.heap) (sA a)) 0 0 (sA a) := by
  refine Met.ofW (cc := bS_reason) (maxL := 2) (ret := (some .int)) (by decide +kernel) rfl ?_
  intro p e s m args below meth c s₁ B1 hml hv
  obtain ⟨rfl, hP, hK, hD0⟩ := hv
  have hx := B1.exec
  have hb := B1.bytes
  have hr := B1.returns
  have hA : ∀ w ∈ wA, w.before ([.ref (a 0), .int x] : List Value).toArray s = true := fun w h => atoms_spec (ws := wS_reason :: wA) B1.pre w (List.mem_cons_of_mem _ h)
  have hown : s.vm.findClass RcS = some m.cls := findClass_of_methodNamed B1.named
  have hlocks := B1.notSynchronized
  have hS : va_S (sA a) s.heap s.heap [] := va_S.rf
  have hl := lv_entry ([.ref (a 0), .int x]) (n := 2) (Nat.le_of_ble_eq_true rfl)
  rw [lg_entry_eq]
  generalize (lg_sl ([.ref (a 0), .int x]) ++ List.replicate (2 - (lg_sl ([.ref (a 0), .int x])).length) Slot.unset).toArray = ls at hl ⊢
  have hl : lv_has ls 2 [(0, .ref (a 0)), (1, .int x)] := hl
  refine tq_gen (fun R Q hRe hQe => ?_)
  have hRf : 0 ≤ R.frames := by rw [hRe]; exact Nat.le_of_ble_eq_true rfl
  have hRl : 0 ≤ R.locals := by rw [hRe]; exact Nat.le_of_ble_eq_true rfl
  have hRc : 0 ≤ R.cells := by rw [hRe]; exact Nat.le_of_ble_eq_true rfl
  have hRs : 0 ≤ R.slots := by rw [hRe]; exact Nat.le_of_ble_eq_true rfl
  have hD := sA_D hD0
  refine lv_iload_n hx hb dS_reason_0 rfl (lv_at hl 1 rfl) ?_
  refine lv_if_lt hx hb dS_reason_1 (tgt := 28) (by decide) (fun h1 => ?_) (fun h1 => ?_)
  · refine lv_iconst (v := (-1)) hx hb dS_reason_28 (by decide +kernel) ?_
    subst hQe
    exact W.iret (v := (-1)) hx hb hr (fun t ht hW => ⟨⟨_, u, rfl, ⟨Or.inr ⟨rfl, tq_out (by first | exact Or.inl h1 | exact Or.inr h9) (by omega)⟩, rfl⟩, tq_hp ht hP⟩, hS.F ht⟩) hS.2.2 dS_reason_29
  · refine lv_iload_n hx hb dS_reason_4 rfl (lv_at hl 1 rfl) ?_
    refine lv_aload_n hx hb dS_reason_5 rfl (lv_at hl 0 rfl) ?_
    refine gf_S_36 (v := .int (nI (u.2.2 7))) hx hb hA hown hK hP 0 rfl rfl dS_reason_6 ?_
    refine lv_icmp_ge hx hb dS_reason_9 (tgt := 28) (by decide) (fun h9 => ?_) (fun h9 => ?_)
    · refine lv_iconst (v := (-1)) hx hb dS_reason_28 (by decide +kernel) ?_
      subst hQe
      exact W.iret (v := (-1)) hx hb hr (fun t ht hW => ⟨⟨_, u, rfl, ⟨Or.inr ⟨rfl, tq_out (by first | exact Or.inl h1 | exact Or.inr h9) (by omega)⟩, rfl⟩, tq_hp ht hP⟩, hS.F ht⟩) hS.2.2 dS_reason_29
    · obtain ⟨k, hk1, rfl⟩ := tq_in h1 h9 (by omega)
      refine lv_aload_n hx hb dS_reason_12 rfl (lv_at hl 0 rfl) ?_
      refine gf_S_32 (v := .ref (a 4)) hx hb hA hown hK hP 0 rfl rfl dS_reason_13 ?_
      refine lv_aload_n hx hb dS_reason_16 rfl (lv_at hl 0 rfl) ?_
      refine gf_S_36 (v := .int (nI (u.2.2 7))) hx hb hA hown hK hP 0 rfl rfl dS_reason_17 ?_
      refine lv_iconst (v := nI 1) hx hb dS_reason_20 (by decide +kernel) ?_
      refine tq_isub hx hb dS_reason_21 (by omega) ?_
      refine lv_iload_n hx hb dS_reason_22 rfl (lv_at hl 1 rfl) ?_
      refine tq_isub hx hb dS_reason_23 (by omega) ?_
      refine tq_iald hx hb hK hP 4 0 rfl rfl (by omega) (by omega) dS_reason_24 ?_
      refine lv_goto hx hb dS_reason_25 (tgt := 29) (by decide) ?_
      subst hQe
      exact W.iret (v := (u.2.1 9) (((u.2.2 7) - 1) - k)) hx hb hr (fun t ht hW => ⟨⟨_, u, rfl, ⟨Or.inl ⟨k, hk1, rfl, rfl⟩, rfl⟩, tq_hp ht hP⟩, hS.F ht⟩) hS.2.2 dS_reason_29
set_option maxHeartbeats 4000000 in
set_option maxRecDepth 100000 in
/-- c_count0 -/
theorem c_count0 (l : Launch) (D : va_G) (a : Nat → Nat) (kI kL kZ : ClassId) (u : sU)  : Met l yS_count (wS_count :: wA) ({ frames := 6, cells := 0, slots := 0, locals := 148 }) (va_Pc [.ref (a 0), .int (nI 0)] (tq_wB D vwA (sW a kI kL kZ u) (sT kI kL kZ))) (va_Qi (fun r (u' : sU) => r = nI (u.2.2 0) ∧ u' = u) (fun u' t => va_P D vwA (sW a kI kL kZ u') t.heap) (sA a)) 0 0 (sA a) := by
  refine Met.ofW (cc := bS_count) (maxL := 2) (ret := (some .int)) (by decide +kernel) rfl ?_
  intro p e s m args below meth c s₁ B1 hml hv
  obtain ⟨rfl, hP, hK, hD0⟩ := hv
  have hx := B1.exec
  have hb := B1.bytes
  have hr := B1.returns
  have hA : ∀ w ∈ wA, w.before ([.ref (a 0), .int (nI 0)] : List Value).toArray s = true := fun w h => atoms_spec (ws := wS_count :: wA) B1.pre w (List.mem_cons_of_mem _ h)
  have hown : s.vm.findClass RcS = some m.cls := findClass_of_methodNamed B1.named
  have hlocks := B1.notSynchronized
  have hS : va_S (sA a) s.heap s.heap [] := va_S.rf
  have hl := lv_entry ([.ref (a 0), .int (nI 0)]) (n := 2) (Nat.le_of_ble_eq_true rfl)
  rw [lg_entry_eq]
  generalize (lg_sl ([.ref (a 0), .int (nI 0)]) ++ List.replicate (2 - (lg_sl ([.ref (a 0), .int (nI 0)])).length) Slot.unset).toArray = ls at hl ⊢
  have hl : lv_has ls 2 [(0, .ref (a 0)), (1, .int (nI 0))] := hl
  refine tq_gen (fun R Q hRe hQe => ?_)
  have hRf : 6 ≤ R.frames := by rw [hRe]; exact Nat.le_of_ble_eq_true rfl
  have hRl : 148 ≤ R.locals := by rw [hRe]; exact Nat.le_of_ble_eq_true rfl
  have hRc : 0 ≤ R.cells := by rw [hRe]; exact Nat.le_of_ble_eq_true rfl
  have hRs : 0 ≤ R.slots := by rw [hRe]; exact Nat.le_of_ble_eq_true rfl
  have hD := sA_D hD0
  refine lv_iload_n hx hb dS_count_0 rfl (lv_at hl 1 rfl) ?_
  refine lv_iconst (v := nI 4) hx hb dS_count_1 (by decide +kernel) ?_
  refine tq_lt hx hb dS_count_2 (tgt := 18) (by decide) (by omega) (by omega) (fun h2 => ?_) (fun h2 => ?_)
  · refine lv_iload_n hx hb dS_count_18 rfl (lv_at hl 1 rfl) ?_
    refine lv_tableIn hx hb dS_count_19 (off := 41) (tgt := 60) (by decide +kernel) (by decide +kernel) (by decide +kernel) (by decide) ?_
    refine lv_aload_n hx hb dS_count_60 rfl (lv_at hl 0 rfl) ?_
    refine gf_S_10 (v := .ref (a 1)) hx hb hA hown hK hP 0 rfl rfl dS_count_61 ?_
    refine ks_rv ⟨hx, hb, hml, hown, hA⟩ (c_size l D a kI kL kZ u  ) (kw_S_79 hA rfl rfl ⟨Nat.le_trans (Nat.le_of_ble_eq_true rfl) hRf, Nat.le_trans (Nat.le_of_ble_eq_true rfl) hRl⟩) hK hP hS 1 1 rfl rfl rfl hl.1 (Nat.le_of_ble_eq_true rfl) ⟨by omega, by omega⟩ dS_count_64 rfl (fun H locs hP hS => ?_)
    subst hQe
    exact W.iret (v := nI (u.2.2 0)) hx hb hr (fun t ht hW => ⟨⟨_, u, rfl, ⟨rfl, rfl⟩, tq_hp ht hP⟩, hS.F ht⟩) hS.2.2 dS_count_67
  · omega
set_option maxHeartbeats 4000000 in
set_option maxRecDepth 100000 in
/-- c_count1 -/
theorem c_count1 (l : Launch) (D : va_G) (a : Nat → Nat) (kI kL kZ : ClassId) (u : sU)  : Met l yS_count (wS_count :: wA) ({ frames := 6, cells := 0, slots := 0, locals := 148 }) (va_Pc [.ref (a 0), .int (nI 1)] (tq_wB D vwA (sW a kI kL kZ u) (sT kI kL kZ))) (va_Qi (fun r (u' : sU) => r = nI (u.2.2 1) ∧ u' = u) (fun u' t => va_P D vwA (sW a kI kL kZ u') t.heap) (sA a)) 0 0 (sA a) := by
  refine Met.ofW (cc := bS_count) (maxL := 2) (ret := (some .int)) (by decide +kernel) rfl ?_
  intro p e s m args below meth c s₁ B1 hml hv
  obtain ⟨rfl, hP, hK, hD0⟩ := hv
  have hx := B1.exec
  have hb := B1.bytes
  have hr := B1.returns
  have hA : ∀ w ∈ wA, w.before ([.ref (a 0), .int (nI 1)] : List Value).toArray s = true := fun w h => atoms_spec (ws := wS_count :: wA) B1.pre w (List.mem_cons_of_mem _ h)
  have hown : s.vm.findClass RcS = some m.cls := findClass_of_methodNamed B1.named
  have hlocks := B1.notSynchronized
  have hS : va_S (sA a) s.heap s.heap [] := va_S.rf
  have hl := lv_entry ([.ref (a 0), .int (nI 1)]) (n := 2) (Nat.le_of_ble_eq_true rfl)
  rw [lg_entry_eq]
  generalize (lg_sl ([.ref (a 0), .int (nI 1)]) ++ List.replicate (2 - (lg_sl ([.ref (a 0), .int (nI 1)])).length) Slot.unset).toArray = ls at hl ⊢
  have hl : lv_has ls 2 [(0, .ref (a 0)), (1, .int (nI 1))] := hl
  refine tq_gen (fun R Q hRe hQe => ?_)
  have hRf : 6 ≤ R.frames := by rw [hRe]; exact Nat.le_of_ble_eq_true rfl
  have hRl : 148 ≤ R.locals := by rw [hRe]; exact Nat.le_of_ble_eq_true rfl
  have hRc : 0 ≤ R.cells := by rw [hRe]; exact Nat.le_of_ble_eq_true rfl
  have hRs : 0 ≤ R.slots := by rw [hRe]; exact Nat.le_of_ble_eq_true rfl
  have hD := sA_D hD0
  refine lv_iload_n hx hb dS_count_0 rfl (lv_at hl 1 rfl) ?_
  refine lv_iconst (v := nI 4) hx hb dS_count_1 (by decide +kernel) ?_
  refine tq_lt hx hb dS_count_2 (tgt := 18) (by decide) (by omega) (by omega) (fun h2 => ?_) (fun h2 => ?_)
  · refine lv_iload_n hx hb dS_count_18 rfl (lv_at hl 1 rfl) ?_
    refine lv_tableIn hx hb dS_count_19 (off := 49) (tgt := 68) (by decide +kernel) (by decide +kernel) (by decide +kernel) (by decide) ?_
    refine lv_aload_n hx hb dS_count_68 rfl (lv_at hl 0 rfl) ?_
    refine gf_S_10 (v := .ref (a 1)) hx hb hA hown hK hP 0 rfl rfl dS_count_69 ?_
    refine ks_rv ⟨hx, hb, hml, hown, hA⟩ (c_names l D a kI kL kZ u  ) (kw_S_115 hA rfl rfl ⟨Nat.le_trans (Nat.le_of_ble_eq_true rfl) hRf, Nat.le_trans (Nat.le_of_ble_eq_true rfl) hRl⟩) hK hP hS 1 1 rfl rfl rfl hl.1 (Nat.le_of_ble_eq_true rfl) ⟨by omega, by omega⟩ dS_count_72 rfl (fun H locs hP hS => ?_)
    subst hQe
    exact W.iret (v := nI (u.2.2 1)) hx hb hr (fun t ht hW => ⟨⟨_, u, rfl, ⟨rfl, rfl⟩, tq_hp ht hP⟩, hS.F ht⟩) hS.2.2 dS_count_75
  · omega
set_option maxHeartbeats 4000000 in
set_option maxRecDepth 100000 in
/-- c_count2 -/
theorem c_count2 (l : Launch) (D : va_G) (a : Nat → Nat) (kI kL kZ : ClassId) (u : sU)  : Met l yS_count (wS_count :: wA) ({ frames := 6, cells := 0, slots := 0, locals := 148 }) (va_Pc [.ref (a 0), .int (nI 2)] (tq_wB D vwA (sW a kI kL kZ u) (sT kI kL kZ))) (va_Qi (fun r (u' : sU) => r = nI (u.2.2 2) ∧ u' = u) (fun u' t => va_P D vwA (sW a kI kL kZ u') t.heap) (sA a)) 0 0 (sA a) := by
  refine Met.ofW (cc := bS_count) (maxL := 2) (ret := (some .int)) (by decide +kernel) rfl ?_
  intro p e s m args below meth c s₁ B1 hml hv
  obtain ⟨rfl, hP, hK, hD0⟩ := hv
  have hx := B1.exec
  have hb := B1.bytes
  have hr := B1.returns
  have hA : ∀ w ∈ wA, w.before ([.ref (a 0), .int (nI 2)] : List Value).toArray s = true := fun w h => atoms_spec (ws := wS_count :: wA) B1.pre w (List.mem_cons_of_mem _ h)
  have hown : s.vm.findClass RcS = some m.cls := findClass_of_methodNamed B1.named
  have hlocks := B1.notSynchronized
  have hS : va_S (sA a) s.heap s.heap [] := va_S.rf
  have hl := lv_entry ([.ref (a 0), .int (nI 2)]) (n := 2) (Nat.le_of_ble_eq_true rfl)
  rw [lg_entry_eq]
  generalize (lg_sl ([.ref (a 0), .int (nI 2)]) ++ List.replicate (2 - (lg_sl ([.ref (a 0), .int (nI 2)])).length) Slot.unset).toArray = ls at hl ⊢
  have hl : lv_has ls 2 [(0, .ref (a 0)), (1, .int (nI 2))] := hl
  refine tq_gen (fun R Q hRe hQe => ?_)
  have hRf : 6 ≤ R.frames := by rw [hRe]; exact Nat.le_of_ble_eq_true rfl
  have hRl : 148 ≤ R.locals := by rw [hRe]; exact Nat.le_of_ble_eq_true rfl
  have hRc : 0 ≤ R.cells := by rw [hRe]; exact Nat.le_of_ble_eq_true rfl
  have hRs : 0 ≤ R.slots := by rw [hRe]; exact Nat.le_of_ble_eq_true rfl
  have hD := sA_D hD0
  refine lv_iload_n hx hb dS_count_0 rfl (lv_at hl 1 rfl) ?_
  refine lv_iconst (v := nI 4) hx hb dS_count_1 (by decide +kernel) ?_
  refine tq_lt hx hb dS_count_2 (tgt := 18) (by decide) (by omega) (by omega) (fun h2 => ?_) (fun h2 => ?_)
  · refine lv_iload_n hx hb dS_count_18 rfl (lv_at hl 1 rfl) ?_
    refine lv_tableIn hx hb dS_count_19 (off := 57) (tgt := 76) (by decide +kernel) (by decide +kernel) (by decide +kernel) (by decide) ?_
    refine lv_aload_n hx hb dS_count_76 rfl (lv_at hl 0 rfl) ?_
    refine gf_S_19 (v := .ref (a 2)) hx hb hA hown hK hP 0 rfl rfl dS_count_77 ?_
    refine ks_rv ⟨hx, hb, hml, hown, hA⟩ (c_told l D a kI kL kZ u  ) (kw_S_103 hA rfl rfl ⟨Nat.le_trans (Nat.le_of_ble_eq_true rfl) hRf, Nat.le_trans (Nat.le_of_ble_eq_true rfl) hRl⟩) hK hP hS 2 2 rfl rfl rfl hl.1 (Nat.le_of_ble_eq_true rfl) ⟨by omega, by omega⟩ dS_count_80 rfl (fun H locs hP hS => ?_)
    subst hQe
    exact W.iret (v := nI (u.2.2 2)) hx hb hr (fun t ht hW => ⟨⟨_, u, rfl, ⟨rfl, rfl⟩, tq_hp ht hP⟩, hS.F ht⟩) hS.2.2 dS_count_83
  · omega
set_option maxHeartbeats 4000000 in
set_option maxRecDepth 100000 in
/-- c_count3 -/
theorem c_count3 (l : Launch) (D : va_G) (a : Nat → Nat) (kI kL kZ : ClassId) (u : sU)  : Met l yS_count (wS_count :: wA) ({ frames := 6, cells := 0, slots := 0, locals := 148 }) (va_Pc [.ref (a 0), .int (nI 3)] (tq_wB D vwA (sW a kI kL kZ u) (sT kI kL kZ))) (va_Qi (fun r (u' : sU) => r = nI (u.2.2 3) ∧ u' = u) (fun u' t => va_P D vwA (sW a kI kL kZ u') t.heap) (sA a)) 0 0 (sA a) := by
  refine Met.ofW (cc := bS_count) (maxL := 2) (ret := (some .int)) (by decide +kernel) rfl ?_
  intro p e s m args below meth c s₁ B1 hml hv
  obtain ⟨rfl, hP, hK, hD0⟩ := hv
  have hx := B1.exec
  have hb := B1.bytes
  have hr := B1.returns
  have hA : ∀ w ∈ wA, w.before ([.ref (a 0), .int (nI 3)] : List Value).toArray s = true := fun w h => atoms_spec (ws := wS_count :: wA) B1.pre w (List.mem_cons_of_mem _ h)
  have hown : s.vm.findClass RcS = some m.cls := findClass_of_methodNamed B1.named
  have hlocks := B1.notSynchronized
  have hS : va_S (sA a) s.heap s.heap [] := va_S.rf
  have hl := lv_entry ([.ref (a 0), .int (nI 3)]) (n := 2) (Nat.le_of_ble_eq_true rfl)
  rw [lg_entry_eq]
  generalize (lg_sl ([.ref (a 0), .int (nI 3)]) ++ List.replicate (2 - (lg_sl ([.ref (a 0), .int (nI 3)])).length) Slot.unset).toArray = ls at hl ⊢
  have hl : lv_has ls 2 [(0, .ref (a 0)), (1, .int (nI 3))] := hl
  refine tq_gen (fun R Q hRe hQe => ?_)
  have hRf : 6 ≤ R.frames := by rw [hRe]; exact Nat.le_of_ble_eq_true rfl
  have hRl : 148 ≤ R.locals := by rw [hRe]; exact Nat.le_of_ble_eq_true rfl
  have hRc : 0 ≤ R.cells := by rw [hRe]; exact Nat.le_of_ble_eq_true rfl
  have hRs : 0 ≤ R.slots := by rw [hRe]; exact Nat.le_of_ble_eq_true rfl
  have hD := sA_D hD0
  refine lv_iload_n hx hb dS_count_0 rfl (lv_at hl 1 rfl) ?_
  refine lv_iconst (v := nI 4) hx hb dS_count_1 (by decide +kernel) ?_
  refine tq_lt hx hb dS_count_2 (tgt := 18) (by decide) (by omega) (by omega) (fun h2 => ?_) (fun h2 => ?_)
  · refine lv_iload_n hx hb dS_count_18 rfl (lv_at hl 1 rfl) ?_
    refine lv_tableIn hx hb dS_count_19 (off := 65) (tgt := 84) (by decide +kernel) (by decide +kernel) (by decide +kernel) (by decide) ?_
    refine lv_aload_n hx hb dS_count_84 rfl (lv_at hl 0 rfl) ?_
    refine gf_S_19 (v := .ref (a 2)) hx hb hA hown hK hP 0 rfl rfl dS_count_85 ?_
    refine ks_rv ⟨hx, hb, hml, hown, hA⟩ (c_inForce l D a kI kL kZ u  ) (kw_S_118 hA rfl rfl ⟨Nat.le_trans (Nat.le_of_ble_eq_true rfl) hRf, Nat.le_trans (Nat.le_of_ble_eq_true rfl) hRl⟩) hK hP hS 2 2 rfl rfl rfl hl.1 (Nat.le_of_ble_eq_true rfl) ⟨by omega, by omega⟩ dS_count_88 rfl (fun H locs hP hS => ?_)
    subst hQe
    exact W.iret (v := nI (u.2.2 3)) hx hb hr (fun t ht hW => ⟨⟨_, u, rfl, ⟨rfl, rfl⟩, tq_hp ht hP⟩, hS.F ht⟩) hS.2.2 dS_count_91
  · omega
set_option maxHeartbeats 4000000 in
set_option maxRecDepth 100000 in
/-- c_count4 -/
theorem c_count4 (l : Launch) (D : va_G) (a : Nat → Nat) (kI kL kZ : ClassId) (u : sU) (N : Nat) (kd fa fb : Nat → Nat) (T : Nat) (so xa xb xc : Nat → Nat) (hc : s_cinv u N kd fa fb T so xa xb xc) : Met l yS_count (wS_count :: wA) ({ frames := 6, cells := 0, slots := 0, locals := 148 }) (va_Pc [.ref (a 0), .int (nI 4)] (tq_wB D vwA (sW a kI kL kZ u) (sT kI kL kZ))) (va_Qi (fun r (u' : sU) => r = nI (tm_sum (fun n => tm_cnt (fun e => !(n == e) && s_cv u' n e) N) N) ∧ s_full u u' N kd fa fb T so xa xb xc ∧ ∀ b, b < N → u'.1 0 (b * 7 + 6) b = true) (fun u' t => va_P D vwA (sW a kI kL kZ u') t.heap) (sA a)) 0 0 (sA a) := by
  refine Met.ofW (cc := bS_count) (maxL := 2) (ret := (some .int)) (by decide +kernel) rfl ?_
  intro p e s m args below meth c s₁ B1 hml hv
  obtain ⟨rfl, hP, hK, hD0⟩ := hv
  have hx := B1.exec
  have hb := B1.bytes
  have hr := B1.returns
  have hA : ∀ w ∈ wA, w.before ([.ref (a 0), .int (nI 4)] : List Value).toArray s = true := fun w h => atoms_spec (ws := wS_count :: wA) B1.pre w (List.mem_cons_of_mem _ h)
  have hown : s.vm.findClass RcS = some m.cls := findClass_of_methodNamed B1.named
  have hlocks := B1.notSynchronized
  have hS : va_S (sA a) s.heap s.heap [] := va_S.rf
  have hl := lv_entry ([.ref (a 0), .int (nI 4)]) (n := 2) (Nat.le_of_ble_eq_true rfl)
  rw [lg_entry_eq]
  generalize (lg_sl ([.ref (a 0), .int (nI 4)]) ++ List.replicate (2 - (lg_sl ([.ref (a 0), .int (nI 4)])).length) Slot.unset).toArray = ls at hl ⊢
  have hl : lv_has ls 2 [(0, .ref (a 0)), (1, .int (nI 4))] := hl
  refine tq_gen (fun R Q hRe hQe => ?_)
  have hRf : 6 ≤ R.frames := by rw [hRe]; exact Nat.le_of_ble_eq_true rfl
  have hRl : 148 ≤ R.locals := by rw [hRe]; exact Nat.le_of_ble_eq_true rfl
  have hRc : 0 ≤ R.cells := by rw [hRe]; exact Nat.le_of_ble_eq_true rfl
  have hRs : 0 ≤ R.slots := by rw [hRe]; exact Nat.le_of_ble_eq_true rfl
  have hD := sA_D hD0

  have hN := tm_N hc.1.1
  have hT1 := hc.2.2.1.1
  have hT2 := hc.2.2.1.2.1
  refine lv_iload_n hx hb dS_count_0 rfl (lv_at hl 1 rfl) ?_
  refine lv_iconst (v := nI 4) hx hb dS_count_1 (by decide +kernel) ?_
  refine tq_lt hx hb dS_count_2 (tgt := 18) (by decide) (by omega) (by omega) (fun h2 => ?_) (fun h2 => ?_)
  · omega
  · refine lv_iload_n hx hb dS_count_5 rfl (lv_at hl 1 rfl) ?_
    refine lv_bipush (v := nI 6) hx hb dS_count_6 (by decide +kernel) ?_
    refine tq_gt hx hb dS_count_8 (tgt := 18) (by decide) (by omega) (by omega) (fun h8 => ?_) (fun h8 => ?_)
    · omega
    · refine lv_aload_n hx hb dS_count_11 rfl (lv_at hl 0 rfl) ?_
      refine gf_S_28 (v := .ref (a 3)) hx hb hA hown hK hP 0 rfl rfl dS_count_12 ?_
      refine ks_v (wf := sW a kI kL kZ) (u := u) ⟨hx, hb, hml, hown, hA⟩ (c_placeAll l D a kI kL kZ u N kd fa fb T so xa xb xc hc  ) (kw_S_112 hA rfl rfl ⟨Nat.le_trans (Nat.le_of_ble_eq_true rfl) hRf, Nat.le_trans (Nat.le_of_ble_eq_true rfl) hRl⟩) hK hP hD hS (fun _ h => h) (fun u' => sW_adr u') 3 3 rfl rfl rfl hl.1 (Nat.le_of_ble_eq_true rfl) ⟨by omega, by omega⟩ dS_count_15 rfl (fun u1 H locs hu1 hP hD hS => ?_)
      have hz := tm_N hu1.1.1.1
      refine lv_iload_n hx hb dS_count_18 rfl (lv_at hl 1 rfl) ?_
      refine lv_tableIn hx hb dS_count_19 (off := 73) (tgt := 92) (by decide +kernel) (by decide +kernel) (by decide +kernel) (by decide) ?_
      refine lv_aload_n hx hb dS_count_92 rfl (lv_at hl 0 rfl) ?_
      refine ks_rv ⟨hx, hb, hml, hown, hA⟩ (c_countPairs l D a kI kL kZ u1  (by omega)) (kw_S_121 hA rfl rfl ⟨Nat.le_trans (Nat.le_of_ble_eq_true rfl) hRf, Nat.le_trans (Nat.le_of_ble_eq_true rfl) hRl⟩) hK hP hS 0 4 rfl rfl rfl hl.1 (Nat.le_of_ble_eq_true rfl) ⟨by omega, by omega⟩ dS_count_93 rfl (fun H locs hP hS => ?_)
      subst hQe
      exact W.iret (v := nI (tm_sum (fun n => tm_cnt (fun e => !(n == e) && s_cv u1 n e) (u1.2.2 0)) (u1.2.2 0))) hx hb hr (fun t ht hW => ⟨⟨_, u1, rfl, ⟨by rw [hz.1], hu1⟩, tq_hp ht hP⟩, hS.F ht⟩) hS.2.2 dS_count_96
set_option maxHeartbeats 4000000 in
set_option maxRecDepth 100000 in
/-- c_count5 -/
theorem c_count5 (l : Launch) (D : va_G) (a : Nat → Nat) (kI kL kZ : ClassId) (u : sU) (N : Nat) (kd fa fb : Nat → Nat) (T : Nat) (so xa xb xc : Nat → Nat) (hc : s_cinv u N kd fa fb T so xa xb xc) : Met l yS_count (wS_count :: wA) ({ frames := 6, cells := 0, slots := 0, locals := 148 }) (va_Pc [.ref (a 0), .int (nI 5)] (tq_wB D vwA (sW a kI kL kZ u) (sT kI kL kZ))) (va_Qi (fun r (u' : sU) => r = nI (tm_cnt (fun d => u'.1 0 (d * 7 + 6) 1) N) ∧ s_full u u' N kd fa fb T so xa xb xc ∧ ∀ b, b < N → u'.1 0 (b * 7 + 6) b = true) (fun u' t => va_P D vwA (sW a kI kL kZ u') t.heap) (sA a)) 0 0 (sA a) := by
  refine Met.ofW (cc := bS_count) (maxL := 2) (ret := (some .int)) (by decide +kernel) rfl ?_
  intro p e s m args below meth c s₁ B1 hml hv
  obtain ⟨rfl, hP, hK, hD0⟩ := hv
  have hx := B1.exec
  have hb := B1.bytes
  have hr := B1.returns
  have hA : ∀ w ∈ wA, w.before ([.ref (a 0), .int (nI 5)] : List Value).toArray s = true := fun w h => atoms_spec (ws := wS_count :: wA) B1.pre w (List.mem_cons_of_mem _ h)
  have hown : s.vm.findClass RcS = some m.cls := findClass_of_methodNamed B1.named
  have hlocks := B1.notSynchronized
  have hS : va_S (sA a) s.heap s.heap [] := va_S.rf
  have hl := lv_entry ([.ref (a 0), .int (nI 5)]) (n := 2) (Nat.le_of_ble_eq_true rfl)
  rw [lg_entry_eq]
  generalize (lg_sl ([.ref (a 0), .int (nI 5)]) ++ List.replicate (2 - (lg_sl ([.ref (a 0), .int (nI 5)])).length) Slot.unset).toArray = ls at hl ⊢
  have hl : lv_has ls 2 [(0, .ref (a 0)), (1, .int (nI 5))] := hl
  refine tq_gen (fun R Q hRe hQe => ?_)
  have hRf : 6 ≤ R.frames := by rw [hRe]; exact Nat.le_of_ble_eq_true rfl
  have hRl : 148 ≤ R.locals := by rw [hRe]; exact Nat.le_of_ble_eq_true rfl
  have hRc : 0 ≤ R.cells := by rw [hRe]; exact Nat.le_of_ble_eq_true rfl
  have hRs : 0 ≤ R.slots := by rw [hRe]; exact Nat.le_of_ble_eq_true rfl
  have hD := sA_D hD0

  have hN := tm_N hc.1.1
  have hT1 := hc.2.2.1.1
  have hT2 := hc.2.2.1.2.1
  refine lv_iload_n hx hb dS_count_0 rfl (lv_at hl 1 rfl) ?_
  refine lv_iconst (v := nI 4) hx hb dS_count_1 (by decide +kernel) ?_
  refine tq_lt hx hb dS_count_2 (tgt := 18) (by decide) (by omega) (by omega) (fun h2 => ?_) (fun h2 => ?_)
  · omega
  · refine lv_iload_n hx hb dS_count_5 rfl (lv_at hl 1 rfl) ?_
    refine lv_bipush (v := nI 6) hx hb dS_count_6 (by decide +kernel) ?_
    refine tq_gt hx hb dS_count_8 (tgt := 18) (by decide) (by omega) (by omega) (fun h8 => ?_) (fun h8 => ?_)
    · omega
    · refine lv_aload_n hx hb dS_count_11 rfl (lv_at hl 0 rfl) ?_
      refine gf_S_28 (v := .ref (a 3)) hx hb hA hown hK hP 0 rfl rfl dS_count_12 ?_
      refine ks_v (wf := sW a kI kL kZ) (u := u) ⟨hx, hb, hml, hown, hA⟩ (c_placeAll l D a kI kL kZ u N kd fa fb T so xa xb xc hc  ) (kw_S_112 hA rfl rfl ⟨Nat.le_trans (Nat.le_of_ble_eq_true rfl) hRf, Nat.le_trans (Nat.le_of_ble_eq_true rfl) hRl⟩) hK hP hD hS (fun _ h => h) (fun u' => sW_adr u') 3 3 rfl rfl rfl hl.1 (Nat.le_of_ble_eq_true rfl) ⟨by omega, by omega⟩ dS_count_15 rfl (fun u1 H locs hu1 hP hD hS => ?_)
      have hz := tm_N hu1.1.1.1
      refine lv_iload_n hx hb dS_count_18 rfl (lv_at hl 1 rfl) ?_
      refine lv_tableIn hx hb dS_count_19 (off := 78) (tgt := 97) (by decide +kernel) (by decide +kernel) (by decide +kernel) (by decide) ?_
      refine lv_aload_n hx hb dS_count_97 rfl (lv_at hl 0 rfl) ?_
      refine ks_rv ⟨hx, hb, hml, hown, hA⟩ (c_countEmpty l D a kI kL kZ u1  (by omega)) (kw_S_124 hA rfl rfl ⟨Nat.le_trans (Nat.le_of_ble_eq_true rfl) hRf, Nat.le_trans (Nat.le_of_ble_eq_true rfl) hRl⟩) hK hP hS 0 4 rfl rfl rfl hl.1 (Nat.le_of_ble_eq_true rfl) ⟨by omega, by omega⟩ dS_count_98 rfl (fun H locs hP hS => ?_)
      subst hQe
      exact W.iret (v := nI (tm_cnt (fun d => u1.1 0 (d * 7 + 6) 1) (u1.2.2 0))) hx hb hr (fun t ht hW => ⟨⟨_, u1, rfl, ⟨by rw [hz.1], hu1⟩, tq_hp ht hP⟩, hS.F ht⟩) hS.2.2 dS_count_101
set_option maxHeartbeats 4000000 in
set_option maxRecDepth 100000 in
/-- c_count6 -/
theorem c_count6 (l : Launch) (D : va_G) (a : Nat → Nat) (kI kL kZ : ClassId) (u : sU) (N : Nat) (kd fa fb : Nat → Nat) (T : Nat) (so xa xb xc : Nat → Nat) (hc : s_cinv u N kd fa fb T so xa xb xc) : Met l yS_count (wS_count :: wA) ({ frames := 6, cells := 0, slots := 0, locals := 148 }) (va_Pc [.ref (a 0), .int (nI 6)] (tq_wB D vwA (sW a kI kL kZ u) (sT kI kL kZ))) (va_Qi (fun r (u' : sU) => r = nI (tm_cnt (fun d => s_le u' d == d) N) ∧ s_full u u' N kd fa fb T so xa xb xc ∧ ∀ b, b < N → u'.1 0 (b * 7 + 6) b = true) (fun u' t => va_P D vwA (sW a kI kL kZ u') t.heap) (sA a)) 0 0 (sA a) := by
  refine Met.ofW (cc := bS_count) (maxL := 2) (ret := (some .int)) (by decide +kernel) rfl ?_
  intro p e s m args below meth c s₁ B1 hml hv
  obtain ⟨rfl, hP, hK, hD0⟩ := hv
  have hx := B1.exec
  have hb := B1.bytes
  have hr := B1.returns
  have hA : ∀ w ∈ wA, w.before ([.ref (a 0), .int (nI 6)] : List Value).toArray s = true := fun w h => atoms_spec (ws := wS_count :: wA) B1.pre w (List.mem_cons_of_mem _ h)
  have hown : s.vm.findClass RcS = some m.cls := findClass_of_methodNamed B1.named
  have hlocks := B1.notSynchronized
  have hS : va_S (sA a) s.heap s.heap [] := va_S.rf
  have hl := lv_entry ([.ref (a 0), .int (nI 6)]) (n := 2) (Nat.le_of_ble_eq_true rfl)
  rw [lg_entry_eq]
  generalize (lg_sl ([.ref (a 0), .int (nI 6)]) ++ List.replicate (2 - (lg_sl ([.ref (a 0), .int (nI 6)])).length) Slot.unset).toArray = ls at hl ⊢
  have hl : lv_has ls 2 [(0, .ref (a 0)), (1, .int (nI 6))] := hl
  refine tq_gen (fun R Q hRe hQe => ?_)
  have hRf : 6 ≤ R.frames := by rw [hRe]; exact Nat.le_of_ble_eq_true rfl
  have hRl : 148 ≤ R.locals := by rw [hRe]; exact Nat.le_of_ble_eq_true rfl
  have hRc : 0 ≤ R.cells := by rw [hRe]; exact Nat.le_of_ble_eq_true rfl
  have hRs : 0 ≤ R.slots := by rw [hRe]; exact Nat.le_of_ble_eq_true rfl
  have hD := sA_D hD0

  have hN := tm_N hc.1.1
  have hT1 := hc.2.2.1.1
  have hT2 := hc.2.2.1.2.1
  refine lv_iload_n hx hb dS_count_0 rfl (lv_at hl 1 rfl) ?_
  refine lv_iconst (v := nI 4) hx hb dS_count_1 (by decide +kernel) ?_
  refine tq_lt hx hb dS_count_2 (tgt := 18) (by decide) (by omega) (by omega) (fun h2 => ?_) (fun h2 => ?_)
  · omega
  · refine lv_iload_n hx hb dS_count_5 rfl (lv_at hl 1 rfl) ?_
    refine lv_bipush (v := nI 6) hx hb dS_count_6 (by decide +kernel) ?_
    refine tq_gt hx hb dS_count_8 (tgt := 18) (by decide) (by omega) (by omega) (fun h8 => ?_) (fun h8 => ?_)
    · omega
    · refine lv_aload_n hx hb dS_count_11 rfl (lv_at hl 0 rfl) ?_
      refine gf_S_28 (v := .ref (a 3)) hx hb hA hown hK hP 0 rfl rfl dS_count_12 ?_
      refine ks_v (wf := sW a kI kL kZ) (u := u) ⟨hx, hb, hml, hown, hA⟩ (c_placeAll l D a kI kL kZ u N kd fa fb T so xa xb xc hc  ) (kw_S_112 hA rfl rfl ⟨Nat.le_trans (Nat.le_of_ble_eq_true rfl) hRf, Nat.le_trans (Nat.le_of_ble_eq_true rfl) hRl⟩) hK hP hD hS (fun _ h => h) (fun u' => sW_adr u') 3 3 rfl rfl rfl hl.1 (Nat.le_of_ble_eq_true rfl) ⟨by omega, by omega⟩ dS_count_15 rfl (fun u1 H locs hu1 hP hD hS => ?_)
      have hz := tm_N hu1.1.1.1
      refine lv_iload_n hx hb dS_count_18 rfl (lv_at hl 1 rfl) ?_
      refine lv_tableIn hx hb dS_count_19 (off := 83) (tgt := 102) (by decide +kernel) (by decide +kernel) (by decide +kernel) (by decide) ?_
      refine lv_aload_n hx hb dS_count_102 rfl (lv_at hl 0 rfl) ?_
      refine ks_rv ⟨hx, hb, hml, hown, hA⟩ (c_countClasses l D a kI kL kZ u1  (by omega)) (kw_S_127 hA rfl rfl ⟨Nat.le_trans (Nat.le_of_ble_eq_true rfl) hRf, Nat.le_trans (Nat.le_of_ble_eq_true rfl) hRl⟩) hK hP hS 0 4 rfl rfl rfl hl.1 (Nat.le_of_ble_eq_true rfl) ⟨by omega, by omega⟩ dS_count_103 rfl (fun H locs hP hS => ?_)
      subst hQe
      exact W.iret (v := nI (tm_cnt (fun d => s_le u1 d == d) (u1.2.2 0))) hx hb hr (fun t ht hW => ⟨⟨_, u1, rfl, ⟨by rw [hz.1], hu1⟩, tq_hp ht hP⟩, hS.F ht⟩) hS.2.2 dS_count_106
set_option maxHeartbeats 4000000 in
set_option maxRecDepth 100000 in
/-- c_countN -/
theorem c_countN (l : Launch) (D : va_G) (a : Nat → Nat) (kI kL kZ : ClassId) (u : sU) (x : Int32) (hout : x.toInt < 0 ∨ 6 < x.toInt) : Met l yS_count (wS_count :: wA) ({ frames := 6, cells := 0, slots := 0, locals := 148 }) (va_Pc [.ref (a 0), .int x] (tq_wB D vwA (sW a kI kL kZ u) (sT kI kL kZ))) (va_Qi (fun r (u' : sU) => r = -1 ∧ u' = u) (fun u' t => va_P D vwA (sW a kI kL kZ u') t.heap) (sA a)) 0 0 (sA a) := by
  refine Met.ofW (cc := bS_count) (maxL := 2) (ret := (some .int)) (by decide +kernel) rfl ?_
  intro p e s m args below meth c s₁ B1 hml hv
  obtain ⟨rfl, hP, hK, hD0⟩ := hv
  have hx := B1.exec
  have hb := B1.bytes
  have hr := B1.returns
  have hA : ∀ w ∈ wA, w.before ([.ref (a 0), .int x] : List Value).toArray s = true := fun w h => atoms_spec (ws := wS_count :: wA) B1.pre w (List.mem_cons_of_mem _ h)
  have hown : s.vm.findClass RcS = some m.cls := findClass_of_methodNamed B1.named
  have hlocks := B1.notSynchronized
  have hS : va_S (sA a) s.heap s.heap [] := va_S.rf
  have hl := lv_entry ([.ref (a 0), .int x]) (n := 2) (Nat.le_of_ble_eq_true rfl)
  rw [lg_entry_eq]
  generalize (lg_sl ([.ref (a 0), .int x]) ++ List.replicate (2 - (lg_sl ([.ref (a 0), .int x])).length) Slot.unset).toArray = ls at hl ⊢
  have hl : lv_has ls 2 [(0, .ref (a 0)), (1, .int x)] := hl
  refine tq_gen (fun R Q hRe hQe => ?_)
  have hRf : 6 ≤ R.frames := by rw [hRe]; exact Nat.le_of_ble_eq_true rfl
  have hRl : 148 ≤ R.locals := by rw [hRe]; exact Nat.le_of_ble_eq_true rfl
  have hRc : 0 ≤ R.cells := by rw [hRe]; exact Nat.le_of_ble_eq_true rfl
  have hRs : 0 ≤ R.slots := by rw [hRe]; exact Nat.le_of_ble_eq_true rfl
  have hD := sA_D hD0
  refine lv_iload_n hx hb dS_count_0 rfl (lv_at hl 1 rfl) ?_
  refine lv_iconst (v := nI 4) hx hb dS_count_1 (by decide +kernel) ?_
  refine lv_icmp_lt hx hb dS_count_2 (tgt := 18) (by decide) (fun h2 => ?_) (fun h2 => ?_)
  · refine lv_iload_n hx hb dS_count_18 rfl (lv_at hl 1 rfl) ?_
    refine lv_tableOut hx hb dS_count_19 (tgt := 107) hout (by decide) ?_
    refine lv_iconst (v := (-1)) hx hb dS_count_107 (by decide +kernel) ?_
    subst hQe
    exact W.iret (v := (-1)) hx hb hr (fun t ht hW => ⟨⟨_, u, rfl, ⟨rfl, rfl⟩, tq_hp ht hP⟩, hS.F ht⟩) hS.2.2 dS_count_108
  · refine lv_iload_n hx hb dS_count_5 rfl (lv_at hl 1 rfl) ?_
    refine lv_bipush (v := nI 6) hx hb dS_count_6 (by decide +kernel) ?_
    refine lv_icmp_gt hx hb dS_count_8 (tgt := 18) (by decide) (fun h8 => ?_) (fun h8 => ?_)
    · refine lv_iload_n hx hb dS_count_18 rfl (lv_at hl 1 rfl) ?_
      refine lv_tableOut hx hb dS_count_19 (tgt := 107) hout (by decide) ?_
      refine lv_iconst (v := (-1)) hx hb dS_count_107 (by decide +kernel) ?_
      subst hQe
      exact W.iret (v := (-1)) hx hb hr (fun t ht hW => ⟨⟨_, u, rfl, ⟨rfl, rfl⟩, tq_hp ht hP⟩, hS.F ht⟩) hS.2.2 dS_count_108
    · exact False.elim (hout.elim (fun z => h2 (by rw [Int32.lt_iff_toInt_lt, nI_toInt (by decide)]; omega)) (fun z => h8 (by rw [Int32.lt_iff_toInt_lt, nI_toInt (by decide)]; omega)))
