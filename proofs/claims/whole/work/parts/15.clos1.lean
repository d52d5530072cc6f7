/-! The contracts of Closure: its small methods, and those that add facts. Written by wip/whole/gen/genclos.py. -/
set_option maxHeartbeats 4000000 in
set_option maxRecDepth 100000 in
/-- Closure.row -/
theorem c_row (l : Launch) (x i : Nat) : Met l yC_row (wC_row :: wA) ({ frames := 0, cells := 0, slots := 0, locals := 0 }) (va_Pc [.int (nI x), .int (nI i)] (fun _ => True)) (va_Qi (fun r (_ : Unit) => r = nI (x * 7 + i)) (fun _ _ => True) (fun _ => False)) 0 0 (fun _ => False) := by
  refine Met.ofW (cc := bC_row) (maxL := 2) (ret := (some .int)) (by decide +kernel) rfl ?_
  intro p e s m args below meth c s₁ B1 hml hv
  obtain ⟨rfl, -⟩ := hv
  have hx := B1.exec
  have hb := B1.bytes
  have hr := B1.returns
  have hA : ∀ w ∈ wA, w.before ([.int (nI x), .int (nI i)] : List Value).toArray s = true := fun w h => atoms_spec (ws := wC_row :: wA) B1.pre w (List.mem_cons_of_mem _ h)
  have hown : s.vm.findClass RcC = some m.cls := findClass_of_methodNamed B1.named
  have hlocks := B1.notSynchronized
  have hS : va_S (fun _ => False) s.heap s.heap [] := va_S.rf
  have hl := lv_entry ([.int (nI x), .int (nI i)]) (n := 2) (Nat.le_of_ble_eq_true rfl)
  rw [lg_entry_eq]
  generalize (lg_sl ([.int (nI x), .int (nI i)]) ++ List.replicate (2 - (lg_sl ([.int (nI x), .int (nI i)])).length) Slot.unset).toArray = ls at hl ⊢
  have hl : lv_has ls 2 [(0, .int (nI x)), (1, .int (nI i))] := hl
  refine tq_gen (fun R Q hRe hQe => ?_)
  have hRf : 0 ≤ R.frames := by rw [hRe]; exact Nat.le_of_ble_eq_true rfl
  have hRl : 0 ≤ R.locals := by rw [hRe]; exact Nat.le_of_ble_eq_true rfl
  have hRc : 0 ≤ R.cells := by rw [hRe]; exact Nat.le_of_ble_eq_true rfl
  have hRs : 0 ≤ R.slots := by rw [hRe]; exact Nat.le_of_ble_eq_true rfl
  refine lv_iload_n hx hb dC_row_0 rfl (lv_at hl 0 rfl) ?_
  refine lv_bipush (v := nI 7) hx hb dC_row_1 (by decide +kernel) ?_
  refine tq_imul hx hb dC_row_3 ?_
  refine lv_iload_n hx hb dC_row_4 rfl (lv_at hl 1 rfl) ?_
  refine tq_iadd hx hb dC_row_5 ?_
  subst hQe
  exact W.iret (v := nI ((x * 7) + i)) hx hb hr (fun t ht hW => ⟨⟨_, (), rfl, rfl, trivial⟩, hS.F ht⟩) hS.2.2 dC_row_6
set_option maxHeartbeats 4000000 in
set_option maxRecDepth 100000 in
/-- c_isEmpty -/
theorem c_isEmpty (l : Launch) (D : va_G) (a : Nat → Nat) (kI kL kZ : ClassId) (u : sU) (d : Nat) (hd : d < 160) : Met l yC_isEmpty (wC_isEmpty :: wA) ({ frames := 1, cells := 0, slots := 0, locals := 22 }) (va_Pc [.ref (a 3), .int (nI d)] (tq_rB D vwA (sW a kI kL kZ u) (sT kI kL kZ))) (va_Qi (fun r (_ : Unit) => r = bI (u.1 0 (d * 7 + 6) 1)) (fun _ _ => True) (fun _ => False)) 0 0 (fun _ => False) := by
  refine Met.ofW (cc := bC_isEmpty) (maxL := 2) (ret := (some .boolean)) (by decide +kernel) rfl ?_
  intro p e s m args below meth c s₁ B1 hml hv
  obtain ⟨rfl, hP, hK⟩ := hv
  have hx := B1.exec
  have hb := B1.bytes
  have hr := B1.returns
  have hA : ∀ w ∈ wA, w.before ([.ref (a 3), .int (nI d)] : List Value).toArray s = true := fun w h => atoms_spec (ws := wC_isEmpty :: wA) B1.pre w (List.mem_cons_of_mem _ h)
  have hown : s.vm.findClass RcC = some m.cls := findClass_of_methodNamed B1.named
  have hlocks := B1.notSynchronized
  have hS : va_S (fun _ => False) s.heap s.heap [] := va_S.rf
  have hl := lv_entry ([.ref (a 3), .int (nI d)]) (n := 2) (Nat.le_of_ble_eq_true rfl)
  rw [lg_entry_eq]
  generalize (lg_sl ([.ref (a 3), .int (nI d)]) ++ List.replicate (2 - (lg_sl ([.ref (a 3), .int (nI d)])).length) Slot.unset).toArray = ls at hl ⊢
  have hl : lv_has ls 2 [(0, .ref (a 3)), (1, .int (nI d))] := hl
  refine tq_gen (fun R Q hRe hQe => ?_)
  have hRf : 1 ≤ R.frames := by rw [hRe]; exact Nat.le_of_ble_eq_true rfl
  have hRl : 22 ≤ R.locals := by rw [hRe]; exact Nat.le_of_ble_eq_true rfl
  have hRc : 0 ≤ R.cells := by rw [hRe]; exact Nat.le_of_ble_eq_true rfl
  have hRs : 0 ≤ R.slots := by rw [hRe]; exact Nat.le_of_ble_eq_true rfl
  refine lv_aload_n hx hb dC_isEmpty_0 rfl (lv_at hl 0 rfl) ?_
  refine gf_C_24 (v := .ref (a 14)) hx hb hA hown hK hP 3 rfl rfl dC_isEmpty_1 ?_
  refine lv_iload_n hx hb dC_isEmpty_4 rfl (lv_at hl 1 rfl) ?_
  refine lv_bipush (v := nI 6) hx hb dC_isEmpty_5 (by decide +kernel) ?_
  refine ks_s ⟨hx, hb, hml, hown, hA⟩ (c_row l d 6) (kw_C_57 hA rfl rfl ⟨Nat.le_trans (Nat.le_of_ble_eq_true rfl) hRf, Nat.le_trans (Nat.le_of_ble_eq_true rfl) hRl⟩) hP hS rfl hl.1 (Nat.le_of_ble_eq_true rfl) ⟨by omega, by omega⟩ dC_isEmpty_7 rfl (fun H locs hP hS => ?_)
  refine lv_iconst (v := nI 1) hx hb dC_isEmpty_10 (by decide +kernel) ?_
  refine k_holds ⟨hx, hb, hml, hown, hA⟩ (kw_C_61 hA rfl rfl ⟨Nat.le_trans (Nat.le_of_ble_eq_true rfl) hRf, Nat.le_trans (Nat.le_of_ble_eq_true rfl) hRl⟩) hK hP hS 14 15 1 rfl rfl rfl (by omega) (by omega) (by decide) (by decide) hl.1 (Nat.le_of_ble_eq_true rfl) ⟨by omega, by omega⟩ dC_isEmpty_11 (fun H locs hP hS => ?_)
  subst hQe
  exact W.zret (v := bI ((u.1 0) (d * 7 + 6) 1)) (ty := .boolean) hx hb hr (tq_nz _) (fun t ht hW => ⟨⟨_, (), rfl, rfl, trivial⟩, hS.F ht⟩) hS.2.2 dC_isEmpty_14
set_option maxHeartbeats 4000000 in
set_option maxRecDepth 100000 in
/-- c_covers -/
theorem c_covers (l : Launch) (D : va_G) (a : Nat → Nat) (kI kL kZ : ClassId) (u : sU) (d d2 : Nat) (hd : d < 160) (hd2 : d2 < 160) : Met l yC_covers (wC_covers :: wA) ({ frames := 2, cells := 0, slots := 0, locals := 43 }) (va_Pc [.ref (a 3), .int (nI d), .int (nI d2)] (tq_rB D vwA (sW a kI kL kZ u) (sT kI kL kZ))) (va_Qi (fun r (_ : Unit) => r = bI (u.1 0 (d * 7 + 6) 1 || u.1 0 (d * 7 + 6) d2)) (fun _ _ => True) (fun _ => False)) 0 0 (fun _ => False) := by
  refine Met.ofW (cc := bC_covers) (maxL := 3) (ret := (some .boolean)) (by decide +kernel) rfl ?_
  intro p e s m args below meth c s₁ B1 hml hv
  obtain ⟨rfl, hP, hK⟩ := hv
  have hx := B1.exec
  have hb := B1.bytes
  have hr := B1.returns
  have hA : ∀ w ∈ wA, w.before ([.ref (a 3), .int (nI d), .int (nI d2)] : List Value).toArray s = true := fun w h => atoms_spec (ws := wC_covers :: wA) B1.pre w (List.mem_cons_of_mem _ h)
  have hown : s.vm.findClass RcC = some m.cls := findClass_of_methodNamed B1.named
  have hlocks := B1.notSynchronized
  have hS : va_S (fun _ => False) s.heap s.heap [] := va_S.rf
  have hl := lv_entry ([.ref (a 3), .int (nI d), .int (nI d2)]) (n := 3) (Nat.le_of_ble_eq_true rfl)
  rw [lg_entry_eq]
  generalize (lg_sl ([.ref (a 3), .int (nI d), .int (nI d2)]) ++ List.replicate (3 - (lg_sl ([.ref (a 3), .int (nI d), .int (nI d2)])).length) Slot.unset).toArray = ls at hl ⊢
  have hl : lv_has ls 3 [(0, .ref (a 3)), (1, .int (nI d)), (2, .int (nI d2))] := hl
  refine tq_gen (fun R Q hRe hQe => ?_)
  have hRf : 2 ≤ R.frames := by rw [hRe]; exact Nat.le_of_ble_eq_true rfl
  have hRl : 43 ≤ R.locals := by rw [hRe]; exact Nat.le_of_ble_eq_true rfl
  have hRc : 0 ≤ R.cells := by rw [hRe]; exact Nat.le_of_ble_eq_true rfl
  have hRs : 0 ≤ R.slots := by rw [hRe]; exact Nat.le_of_ble_eq_true rfl
  refine lv_aload_n hx hb dC_covers_0 rfl (lv_at hl 0 rfl) ?_
  refine lv_iload_n hx hb dC_covers_1 rfl (lv_at hl 1 rfl) ?_
  refine ks_rv ⟨hx, hb, hml, hown, hA⟩ (c_isEmpty l D a kI kL kZ u d (by omega)) (kw_C_65 hA rfl rfl ⟨Nat.le_trans (Nat.le_of_ble_eq_true rfl) hRf, Nat.le_trans (Nat.le_of_ble_eq_true rfl) hRl⟩) hK hP hS 3 3 rfl rfl rfl hl.1 (Nat.le_of_ble_eq_true rfl) ⟨by omega, by omega⟩ dC_covers_2 rfl (fun H locs hP hS => ?_)
  refine tq_bt hx hb dC_covers_5 (tgt := 25) (by decide) (fun h5 => ?_) (fun h5 => ?_)
  · have hz : (u.1 0 (d * 7 + 6) 1 || u.1 0 (d * 7 + 6) d2) = true := by rw [h5]; rfl
    refine lv_iconst (v := nI 1) hx hb dC_covers_25 (by decide +kernel) ?_
    refine lv_goto hx hb dC_covers_26 (tgt := 30) (by decide) ?_
    subst hQe
    exact W.zret (v := nI 1) (ty := .boolean) hx hb hr rfl (fun t ht hW => ⟨⟨_, (), rfl, by rw [hz]; rfl, trivial⟩, hS.F ht⟩) hS.2.2 dC_covers_30
  · refine lv_aload_n hx hb dC_covers_8 rfl (lv_at hl 0 rfl) ?_
    refine gf_C_24 (v := .ref (a 14)) hx hb hA hown hK hP 3 rfl rfl dC_covers_9 ?_
    refine lv_iload_n hx hb dC_covers_12 rfl (lv_at hl 1 rfl) ?_
    refine lv_bipush (v := nI 6) hx hb dC_covers_13 (by decide +kernel) ?_
    refine ks_s ⟨hx, hb, hml, hown, hA⟩ (c_row l d 6) (kw_C_57 hA rfl rfl ⟨Nat.le_trans (Nat.le_of_ble_eq_true rfl) hRf, Nat.le_trans (Nat.le_of_ble_eq_true rfl) hRl⟩) hP hS rfl hl.1 (Nat.le_of_ble_eq_true rfl) ⟨by omega, by omega⟩ dC_covers_15 rfl (fun H locs hP hS => ?_)
    refine lv_iload_n hx hb dC_covers_18 rfl (lv_at hl 2 rfl) ?_
    refine k_holds ⟨hx, hb, hml, hown, hA⟩ (kw_C_61 hA rfl rfl ⟨Nat.le_trans (Nat.le_of_ble_eq_true rfl) hRf, Nat.le_trans (Nat.le_of_ble_eq_true rfl) hRl⟩) hK hP hS 14 15 1 rfl rfl rfl (by omega) (by omega) (by decide) (by decide) hl.1 (Nat.le_of_ble_eq_true rfl) ⟨by omega, by omega⟩ dC_covers_19 (fun H locs hP hS => ?_)
    refine tq_bf hx hb dC_covers_22 (tgt := 29) (by decide) (fun h22 => ?_) (fun h22 => ?_)
    · have hz : (u.1 0 (d * 7 + 6) 1 || u.1 0 (d * 7 + 6) d2) = false := by rw [h5, h22]; rfl
      refine lv_iconst (v := nI 0) hx hb dC_covers_29 (by decide +kernel) ?_
      subst hQe
      exact W.zret (v := nI 0) (ty := .boolean) hx hb hr rfl (fun t ht hW => ⟨⟨_, (), rfl, by rw [hz]; rfl, trivial⟩, hS.F ht⟩) hS.2.2 dC_covers_30
    · have hz : (u.1 0 (d * 7 + 6) 1 || u.1 0 (d * 7 + 6) d2) = true := by rw [h5, h22]; rfl
      refine lv_iconst (v := nI 1) hx hb dC_covers_25 (by decide +kernel) ?_
      refine lv_goto hx hb dC_covers_26 (tgt := 30) (by decide) ?_
      subst hQe
      exact W.zret (v := nI 1) (ty := .boolean) hx hb hr rfl (fun t ht hW => ⟨⟨_, (), rfl, by rw [hz]; rfl, trivial⟩, hS.F ht⟩) hS.2.2 dC_covers_30
set_option maxHeartbeats 4000000 in
set_option maxRecDepth 100000 in
/-- c_add -/
theorem c_add (l : Launch) (D : va_G) (a : Nat → Nat) (kI kL kZ : ClassId) (u : sU) (x i d : Nat) (hx1 : x < 160) (hi1 : i < 7) (hd1 : d < 160) : Met l yC_add (wC_add :: wA) ({ frames := 1, cells := 0, slots := 0, locals := 25 }) (va_Pc [.ref (a 3), .int (nI x), .int (nI i), .int (nI d)] (tq_wB D vwA (sW a kI kL kZ u) (sT kI kL kZ))) (va_Qv (fun (u' : sU) => s_fact u u' x i d) (fun u' t => va_P D vwA (sW a kI kL kZ u') t.heap) (sA a)) 0 0 (sA a) := by
  refine Met.ofW (cc := bC_add) (maxL := 5) (ret := none) (by decide +kernel) rfl ?_
  intro p e s m args below meth c s₁ B1 hml hv
  obtain ⟨rfl, hP, hK, hD0⟩ := hv
  have hx := B1.exec
  have hb := B1.bytes
  have hr := B1.returns
  have hA : ∀ w ∈ wA, w.before ([.ref (a 3), .int (nI x), .int (nI i), .int (nI d)] : List Value).toArray s = true := fun w h => atoms_spec (ws := wC_add :: wA) B1.pre w (List.mem_cons_of_mem _ h)
  have hown : s.vm.findClass RcC = some m.cls := findClass_of_methodNamed B1.named
  have hlocks := B1.notSynchronized
  have hS : va_S (sA a) s.heap s.heap [] := va_S.rf
  have hl := lv_entry ([.ref (a 3), .int (nI x), .int (nI i), .int (nI d)]) (n := 5) (Nat.le_of_ble_eq_true rfl)
  rw [lg_entry_eq]
  generalize (lg_sl ([.ref (a 3), .int (nI x), .int (nI i), .int (nI d)]) ++ List.replicate (5 - (lg_sl ([.ref (a 3), .int (nI x), .int (nI i), .int (nI d)])).length) Slot.unset).toArray = ls at hl ⊢
  have hl : lv_has ls 5 [(0, .ref (a 3)), (1, .int (nI x)), (2, .int (nI i)), (3, .int (nI d))] := hl
  refine tq_gen (fun R Q hRe hQe => ?_)
  have hRf : 1 ≤ R.frames := by rw [hRe]; exact Nat.le_of_ble_eq_true rfl
  have hRl : 25 ≤ R.locals := by rw [hRe]; exact Nat.le_of_ble_eq_true rfl
  have hRc : 0 ≤ R.cells := by rw [hRe]; exact Nat.le_of_ble_eq_true rfl
  have hRs : 0 ≤ R.slots := by rw [hRe]; exact Nat.le_of_ble_eq_true rfl
  have hD := sA_D hD0
  refine lv_iload_n hx hb dC_add_0 rfl (lv_at hl 1 rfl) ?_
  refine lv_iload_n hx hb dC_add_1 rfl (lv_at hl 2 rfl) ?_
  refine ks_s ⟨hx, hb, hml, hown, hA⟩ (c_row l x i) (kw_C_57 hA rfl rfl ⟨Nat.le_trans (Nat.le_of_ble_eq_true rfl) hRf, Nat.le_trans (Nat.le_of_ble_eq_true rfl) hRl⟩) hP hS rfl hl.1 (Nat.le_of_ble_eq_true rfl) ⟨by omega, by omega⟩ dC_add_2 rfl (fun H locs hP hS => ?_)
  refine lv_istore (lv' := [(4, .int (nI (x * 7 + i))), (0, .ref (a 3)), (1, .int (nI x)), (2, .int (nI i)), (3, .int (nI d))]) hx hb dC_add_5 hl (by decide) rfl (fun ls hl => ?_)
  refine lv_aload_n hx hb dC_add_7 rfl (lv_at hl 1 rfl) ?_
  refine gf_C_24 (v := .ref (a 14)) hx hb hA hown hK hP 3 rfl rfl dC_add_8 ?_
  refine lv_iload hx hb dC_add_11 (lv_at hl 0 rfl) ?_
  refine lv_iload_n hx hb dC_add_13 rfl (lv_at hl 4 rfl) ?_
  refine k_put ⟨hx, hb, hml, hown, hA⟩ (kw_C_110 hA rfl rfl ⟨Nat.le_trans (Nat.le_of_ble_eq_true rfl) hRf, Nat.le_trans (Nat.le_of_ble_eq_true rfl) hRl⟩) hK hP hD hS 14 15 1 rfl rfl (by decide) rfl (by omega) (by omega) (by decide) (by decide) hl.1 (Nat.le_of_ble_eq_true rfl) ⟨by omega, by omega⟩ dC_add_14 (fun H locs hP hD hS => ?_)
  have hP : va_P D vwA (sW a kI kL kZ (va_up u.1 0 (tm_put (u.1 0) (x * 7 + i) d), u.2.1, u.2.2)) H := hP
  have hD : va_D (sA a) (sW a kI kL kZ (va_up u.1 0 (tm_put (u.1 0) (x * 7 + i) d), u.2.1, u.2.2)) := hD
  refine tq_bf hx hb dC_add_17 (tgt := 56) (by decide) (fun h17 => ?_) (fun h17 => ?_)
  · subst hQe
    exact W.vret hx hb hr (fun t ht hW => ⟨⟨(va_up u.1 0 (tm_put (u.1 0) (x * 7 + i) d), u.2.1, u.2.2), rfl, fact_old (by simpa using h17), tq_hp ht hP⟩, hS.F ht⟩) hS.2.2 dC_add_56
  · refine lv_aload_n hx hb dC_add_20 rfl (lv_at hl 1 rfl) ?_
    refine gf_C_28 (v := .ref (a 16)) hx hb hA hown hK hP 3 rfl rfl dC_add_21 ?_
    refine lv_iload_n hx hb dC_add_24 rfl (lv_at hl 4 rfl) ?_
    refine lv_iload_n hx hb dC_add_25 rfl (lv_at hl 3 rfl) ?_
    refine ks_s ⟨hx, hb, hml, hown, hA⟩ (c_row l d i) (kw_C_57 hA rfl rfl ⟨Nat.le_trans (Nat.le_of_ble_eq_true rfl) hRf, Nat.le_trans (Nat.le_of_ble_eq_true rfl) hRl⟩) hP hS rfl hl.1 (Nat.le_of_ble_eq_true rfl) ⟨by omega, by omega⟩ dC_add_26 rfl (fun H locs hP hS => ?_)
    refine lv_iload_n hx hb dC_add_29 rfl (lv_at hl 2 rfl) ?_
    refine k_put ⟨hx, hb, hml, hown, hA⟩ (kw_C_110 hA rfl rfl ⟨Nat.le_trans (Nat.le_of_ble_eq_true rfl) hRf, Nat.le_trans (Nat.le_of_ble_eq_true rfl) hRl⟩) hK hP hD hS 16 17 1 rfl rfl (by decide) rfl (by omega) (by omega) (by decide) (by decide) hl.1 (Nat.le_of_ble_eq_true rfl) ⟨by omega, by omega⟩ dC_add_30 (fun H locs hP hD hS => ?_)
    have hP : va_P D vwA (sW a kI kL kZ (va_up (va_up u.1 0 (tm_put (u.1 0) (x * 7 + i) d)) 1 (tm_put (u.1 1) (d * 7 + i) x), u.2.1, u.2.2)) H := hP
    have hD : va_D (sA a) (sW a kI kL kZ (va_up (va_up u.1 0 (tm_put (u.1 0) (x * 7 + i) d)) 1 (tm_put (u.1 1) (d * 7 + i) x), u.2.1, u.2.2)) := hD
    refine lv_pop hx hb dC_add_33 rfl ?_
    refine lv_aload_n hx hb dC_add_34 rfl (lv_at hl 1 rfl) ?_
    refine gf_C_31 (v := .ref (a 18)) hx hb hA hown hK hP 3 rfl rfl dC_add_35 ?_
    refine lv_iload hx hb dC_add_38 (lv_at hl 0 rfl) ?_
    refine lv_iload_n hx hb dC_add_40 rfl (lv_at hl 4 rfl) ?_
    refine k_put ⟨hx, hb, hml, hown, hA⟩ (kw_C_110 hA rfl rfl ⟨Nat.le_trans (Nat.le_of_ble_eq_true rfl) hRf, Nat.le_trans (Nat.le_of_ble_eq_true rfl) hRl⟩) hK hP hD hS 18 19 1 rfl rfl (by decide) rfl (by omega) (by omega) (by decide) (by decide) hl.1 (Nat.le_of_ble_eq_true rfl) ⟨by omega, by omega⟩ dC_add_41 (fun H locs hP hD hS => ?_)
    have hP : va_P D vwA (sW a kI kL kZ (va_up (va_up (va_up u.1 0 (tm_put (u.1 0) (x * 7 + i) d)) 1 (tm_put (u.1 1) (d * 7 + i) x)) 2 (tm_put (u.1 2) (x * 7 + i) d), u.2.1, u.2.2)) H := hP
    have hD : va_D (sA a) (sW a kI kL kZ (va_up (va_up (va_up u.1 0 (tm_put (u.1 0) (x * 7 + i) d)) 1 (tm_put (u.1 1) (d * 7 + i) x)) 2 (tm_put (u.1 2) (x * 7 + i) d), u.2.1, u.2.2)) := hD
    refine lv_pop hx hb dC_add_44 rfl ?_
    refine lv_aload_n hx hb dC_add_45 rfl (lv_at hl 1 rfl) ?_
    refine gf_C_34 (v := .ref (a 20)) hx hb hA hown hK hP 3 rfl rfl dC_add_46 ?_
    refine lv_iconst (v := nI 0) hx hb dC_add_49 (by decide +kernel) ?_
    refine lv_iload hx hb dC_add_50 (lv_at hl 0 rfl) ?_
    refine k_put ⟨hx, hb, hml, hown, hA⟩ (kw_C_110 hA rfl rfl ⟨Nat.le_trans (Nat.le_of_ble_eq_true rfl) hRf, Nat.le_trans (Nat.le_of_ble_eq_true rfl) hRl⟩) hK hP hD hS 20 21 1 rfl rfl (by decide) rfl (by omega) (by omega) (by decide) (by decide) hl.1 (Nat.le_of_ble_eq_true rfl) ⟨by omega, by omega⟩ dC_add_52 (fun H locs hP hD hS => ?_)
    have hP : va_P D vwA (sW a kI kL kZ (va_up (va_up (va_up (va_up u.1 0 (tm_put (u.1 0) (x * 7 + i) d)) 1 (tm_put (u.1 1) (d * 7 + i) x)) 2 (tm_put (u.1 2) (x * 7 + i) d)) 3 (tm_put (u.1 3) 0 (x * 7 + i)), u.2.1, u.2.2)) H := hP
    have hD : va_D (sA a) (sW a kI kL kZ (va_up (va_up (va_up (va_up u.1 0 (tm_put (u.1 0) (x * 7 + i) d)) 1 (tm_put (u.1 1) (d * 7 + i) x)) 2 (tm_put (u.1 2) (x * 7 + i) d)) 3 (tm_put (u.1 3) 0 (x * 7 + i)), u.2.1, u.2.2)) := hD
    refine lv_pop hx hb dC_add_55 rfl ?_
    subst hQe
    exact W.vret hx hb hr (fun t ht hW => ⟨⟨(va_up (va_up (va_up (va_up u.1 0 (tm_put (u.1 0) (x * 7 + i) d)) 1 (tm_put (u.1 1) (d * 7 + i) x)) 2 (tm_put (u.1 2) (x * 7 + i) d)) 3 (tm_put (u.1 3) 0 (x * 7 + i)), u.2.1, u.2.2), rfl, fact_new hx1 hi1 hd1 (by simpa using h17), tq_hp ht hP⟩, hS.F ht⟩) hS.2.2 dC_add_56
set_option maxHeartbeats 4000000 in
set_option maxRecDepth 100000 in
/-- c_begin -/
theorem c_begin (l : Launch) (D : va_G) (a : Nat → Nat) (kI kL kZ : ClassId) (u : sU) (d : Nat) (hd : d < 160) : Met l yC_begin (wC_begin :: wA) ({ frames := 2, cells := 0, slots := 0, locals := 49 }) (va_Pc [.ref (a 3), .int (nI d)] (tq_wB D vwA (sW a kI kL kZ u) (sT kI kL kZ))) (va_Qv (fun (u' : sU) => s_ext u u' ∧ ∀ x b, u'.1 0 x b = true ↔ u.1 0 x b = true ∨ (¬ u.1 0 (d * 7 + 6) d = true ∧ x = d * 7 + 6 ∧ (b = d ∨ b = 0))) (fun u' t => va_P D vwA (sW a kI kL kZ u') t.heap) (sA a)) 0 0 (sA a) := by
  refine Met.ofW (cc := bC_begin) (maxL := 2) (ret := none) (by decide +kernel) rfl ?_
  intro p e s m args below meth c s₁ B1 hml hv
  obtain ⟨rfl, hP, hK, hD0⟩ := hv
  have hx := B1.exec
  have hb := B1.bytes
  have hr := B1.returns
  have hA : ∀ w ∈ wA, w.before ([.ref (a 3), .int (nI d)] : List Value).toArray s = true := fun w h => atoms_spec (ws := wC_begin :: wA) B1.pre w (List.mem_cons_of_mem _ h)
  have hown : s.vm.findClass RcC = some m.cls := findClass_of_methodNamed B1.named
  have hlocks := B1.notSynchronized
  have hS : va_S (sA a) s.heap s.heap [] := va_S.rf
  have hl := lv_entry ([.ref (a 3), .int (nI d)]) (n := 2) (Nat.le_of_ble_eq_true rfl)
  rw [lg_entry_eq]
  generalize (lg_sl ([.ref (a 3), .int (nI d)]) ++ List.replicate (2 - (lg_sl ([.ref (a 3), .int (nI d)])).length) Slot.unset).toArray = ls at hl ⊢
  have hl : lv_has ls 2 [(0, .ref (a 3)), (1, .int (nI d))] := hl
  refine tq_gen (fun R Q hRe hQe => ?_)
  have hRf : 2 ≤ R.frames := by rw [hRe]; exact Nat.le_of_ble_eq_true rfl
  have hRl : 49 ≤ R.locals := by rw [hRe]; exact Nat.le_of_ble_eq_true rfl
  have hRc : 0 ≤ R.cells := by rw [hRe]; exact Nat.le_of_ble_eq_true rfl
  have hRs : 0 ≤ R.slots := by rw [hRe]; exact Nat.le_of_ble_eq_true rfl
  have hD := sA_D hD0
  refine lv_aload_n hx hb dC_begin_0 rfl (lv_at hl 0 rfl) ?_
  refine gf_C_24 (v := .ref (a 14)) hx hb hA hown hK hP 3 rfl rfl dC_begin_1 ?_
  refine lv_iload_n hx hb dC_begin_4 rfl (lv_at hl 1 rfl) ?_
  refine lv_bipush (v := nI 6) hx hb dC_begin_5 (by decide +kernel) ?_
  refine ks_s ⟨hx, hb, hml, hown, hA⟩ (c_row l d 6) (kw_C_57 hA rfl rfl ⟨Nat.le_trans (Nat.le_of_ble_eq_true rfl) hRf, Nat.le_trans (Nat.le_of_ble_eq_true rfl) hRl⟩) hP hS rfl hl.1 (Nat.le_of_ble_eq_true rfl) ⟨by omega, by omega⟩ dC_begin_7 rfl (fun H locs hP hS => ?_)
  refine lv_iload_n hx hb dC_begin_10 rfl (lv_at hl 1 rfl) ?_
  refine k_holds ⟨hx, hb, hml, hown, hA⟩ (kw_C_61 hA rfl rfl ⟨Nat.le_trans (Nat.le_of_ble_eq_true rfl) hRf, Nat.le_trans (Nat.le_of_ble_eq_true rfl) hRl⟩) hK hP hS 14 15 1 rfl rfl rfl (by omega) (by omega) (by decide) (by decide) hl.1 (Nat.le_of_ble_eq_true rfl) ⟨by omega, by omega⟩ dC_begin_11 (fun H locs hP hS => ?_)
  refine tq_bt hx hb dC_begin_14 (tgt := 33) (by decide) (fun h14 => ?_) (fun h14 => ?_)
  · subst hQe
    exact W.vret hx hb hr (fun t ht hW => ⟨⟨u, rfl, begin_old h14, tq_hp ht hP⟩, hS.F ht⟩) hS.2.2 dC_begin_33
  · refine lv_aload_n hx hb dC_begin_17 rfl (lv_at hl 0 rfl) ?_
    refine lv_iload_n hx hb dC_begin_18 rfl (lv_at hl 1 rfl) ?_
    refine lv_bipush (v := nI 6) hx hb dC_begin_19 (by decide +kernel) ?_
    refine lv_iload_n hx hb dC_begin_21 rfl (lv_at hl 1 rfl) ?_
    refine ks_v (wf := sW a kI kL kZ) (u := u) ⟨hx, hb, hml, hown, hA⟩ (c_add l D a kI kL kZ u d 6 d (by omega) (by omega) (by omega)) (kw_C_94 hA rfl rfl ⟨Nat.le_trans (Nat.le_of_ble_eq_true rfl) hRf, Nat.le_trans (Nat.le_of_ble_eq_true rfl) hRl⟩) hK hP hD hS (fun _ h => h) (fun u' => sW_adr u') 3 3 rfl rfl rfl hl.1 (Nat.le_of_ble_eq_true rfl) ⟨by omega, by omega⟩ dC_begin_22 rfl (fun u1 H locs hu1 hP hD hS => ?_)
    refine lv_aload_n hx hb dC_begin_25 rfl (lv_at hl 0 rfl) ?_
    refine lv_iload_n hx hb dC_begin_26 rfl (lv_at hl 1 rfl) ?_
    refine lv_bipush (v := nI 6) hx hb dC_begin_27 (by decide +kernel) ?_
    refine lv_iconst (v := nI 0) hx hb dC_begin_29 (by decide +kernel) ?_
    refine ks_v (wf := sW a kI kL kZ) (u := u1) ⟨hx, hb, hml, hown, hA⟩ (c_add l D a kI kL kZ u1 d 6 0 (by omega) (by omega) (by omega)) (kw_C_94 hA rfl rfl ⟨Nat.le_trans (Nat.le_of_ble_eq_true rfl) hRf, Nat.le_trans (Nat.le_of_ble_eq_true rfl) hRl⟩) hK hP hD hS (fun _ h => h) (fun u' => sW_adr u') 3 3 rfl rfl rfl hl.1 (Nat.le_of_ble_eq_true rfl) ⟨by omega, by omega⟩ dC_begin_30 rfl (fun u2 H locs hu2 hP hD hS => ?_)
    subst hQe
    exact W.vret hx hb hr (fun t ht hW => ⟨⟨u2, rfl, begin_new (by rw [h14]; decide) hu1 hu2, tq_hp ht hP⟩, hS.F ht⟩) hS.2.2 dC_begin_33
set_option maxHeartbeats 4000000 in
set_option maxRecDepth 100000 in
/-- c_addAll4 -/
theorem c_addAll4 (l : Launch) (D : va_G) (a : Nat → Nat) (kI kL kZ : ClassId) (u : sU) (x i t : Nat) (hx1 : x < 160) (hi1 : i < 7) (ht1 : t < 160) : Met l yC_addAll (wC_addAll :: wA) ({ frames := 2, cells := 0, slots := 0, locals := 49 }) (va_Pc [.ref (a 3), .int (nI x), .int (nI i), .ref (a 22), .int (nI t)] (tq_wB D vwA (sW a kI kL kZ u) (sT kI kL kZ))) (va_Qv (fun (u' : sU) => s_ext u u' ∧ ∀ y b, u'.1 0 y b = true ↔ u.1 0 y b = true ∨ (y = x * 7 + i ∧ b < 160 ∧ u.1 4 t b = true)) (fun u' t => va_P D vwA (sW a kI kL kZ u') t.heap) (sA a)) 0 0 (sA a) := by
  refine Met.ofW (cc := bC_addAll) (maxL := 7) (ret := none) (by decide +kernel) rfl ?_
  intro p e s m args below meth c s₁ B1 hml hv
  obtain ⟨rfl, hP, hK, hD0⟩ := hv
  have hx := B1.exec
  have hb := B1.bytes
  have hr := B1.returns
  have hA : ∀ w ∈ wA, w.before ([.ref (a 3), .int (nI x), .int (nI i), .ref (a 22), .int (nI t)] : List Value).toArray s = true := fun w h => atoms_spec (ws := wC_addAll :: wA) B1.pre w (List.mem_cons_of_mem _ h)
  have hown : s.vm.findClass RcC = some m.cls := findClass_of_methodNamed B1.named
  have hlocks := B1.notSynchronized
  have hS : va_S (sA a) s.heap s.heap [] := va_S.rf
  have hl := lv_entry ([.ref (a 3), .int (nI x), .int (nI i), .ref (a 22), .int (nI t)]) (n := 7) (Nat.le_of_ble_eq_true rfl)
  rw [lg_entry_eq]
  generalize (lg_sl ([.ref (a 3), .int (nI x), .int (nI i), .ref (a 22), .int (nI t)]) ++ List.replicate (7 - (lg_sl ([.ref (a 3), .int (nI x), .int (nI i), .ref (a 22), .int (nI t)])).length) Slot.unset).toArray = ls at hl ⊢
  have hl : lv_has ls 7 [(0, .ref (a 3)), (1, .int (nI x)), (2, .int (nI i)), (3, .ref (a 22)), (4, .int (nI t))] := hl
  refine tq_gen (fun R Q hRe hQe => ?_)
  have hRf : 2 ≤ R.frames := by rw [hRe]; exact Nat.le_of_ble_eq_true rfl
  have hRl : 49 ≤ R.locals := by rw [hRe]; exact Nat.le_of_ble_eq_true rfl
  have hRc : 0 ≤ R.cells := by rw [hRe]; exact Nat.le_of_ble_eq_true rfl
  have hRs : 0 ≤ R.slots := by rw [hRe]; exact Nat.le_of_ble_eq_true rfl
  have hD := sA_D hD0
  refine lv_iload_n hx hb dC_addAll_0 rfl (lv_at hl 1 rfl) ?_
  refine lv_iload_n hx hb dC_addAll_1 rfl (lv_at hl 2 rfl) ?_
  refine ks_s ⟨hx, hb, hml, hown, hA⟩ (c_row l x i) (kw_C_57 hA rfl rfl ⟨Nat.le_trans (Nat.le_of_ble_eq_true rfl) hRf, Nat.le_trans (Nat.le_of_ble_eq_true rfl) hRl⟩) hP hS rfl hl.1 (Nat.le_of_ble_eq_true rfl) ⟨by omega, by omega⟩ dC_addAll_2 rfl (fun H locs hP hS => ?_)
  refine lv_istore (lv' := [(5, .int (nI (x * 7 + i))), (0, .ref (a 3)), (1, .int (nI x)), (2, .int (nI i)), (3, .ref (a 22)), (4, .int (nI t))]) hx hb dC_addAll_5 hl (by decide) rfl (fun ls hl => ?_)
  refine lv_aload_n hx hb dC_addAll_7 rfl (lv_at hl 4 rfl) ?_
  refine lv_iload hx hb dC_addAll_8 (lv_at hl 5 rfl) ?_
  refine lv_iconst (v := nI 0) hx hb dC_addAll_10 (by decide +kernel) ?_
  refine lv_aload_n hx hb dC_addAll_11 rfl (lv_at hl 1 rfl) ?_
  refine gf_C_24 (v := .ref (a 14)) hx hb hA hown hK hP 3 rfl rfl dC_addAll_12 ?_
  refine lv_iload hx hb dC_addAll_15 (lv_at hl 0 rfl) ?_
  refine k_nextBeyond ⟨hx, hb, hml, hown, hA⟩ (kw_C_182 hA rfl rfl ⟨Nat.le_trans (Nat.le_of_ble_eq_true rfl) hRf, Nat.le_trans (Nat.le_of_ble_eq_true rfl) hRl⟩) hK hP hS 22 23 14 15 1 rfl rfl rfl rfl rfl (by decide) (by omega) (by omega) (by decide) (by decide) (by decide) (by omega) hl.1 (Nat.le_of_ble_eq_true rfl) ⟨by omega, by omega⟩ dC_addAll_17 (fun r1 H locs hr1 hP hS => ?_)
  refine lv_istore (lv' := [(6, .int (nI r1)), (5, .int (nI (x * 7 + i))), (0, .ref (a 3)), (1, .int (nI x)), (2, .int (nI i)), (3, .ref (a 22)), (4, .int (nI t))]) hx hb dC_addAll_20 hl (by decide) rfl (fun ls hl => ?_)
  have lp : ∀ (fu : Nat) (r : Nat) (v : sU) (ls : Array Slot) (H : Heap) (locs : List Loc), s_ext u v → (∀ y b, v.1 0 y b = true ↔ u.1 0 y b = true ∨ (y = x * 7 + i ∧ b < 160 ∧ b < r ∧ u.1 4 t b = true)) → (r < 160 → u.1 4 t r = true) → r < 224 → va_P D vwA (sW a kI kL kZ v) H → va_D (sA a) (sW a kI kL kZ v) → va_S (sA a) s.heap H locs → 224 - r < fu → lv_has ls 7 [(6, .int (nI r)), (5, .int (nI (x * 7 + i))), (0, .ref (a 3)), (1, .int (nI x)), (2, .int (nI i)), (3, .ref (a 22)), (4, .int (nI t))] → W p l e R s m ([.ref (a 3), .int (nI x), .int (nI i), .ref (a 22), .int (nI t)] : List Value).toArray below meth c H locs 0 0 Q (F0 m 22 ls []) := by
    intro fu
    induction fu with
    | zero => intros; omega
    | succ fu ih22 =>
      intro r v ls H locs g1 g2 g3 g4 hP hD hS hfu hl
      refine lv_iload hx hb dC_addAll_22 (lv_at hl 0 rfl) ?_
      refine lv_sipush (v := nI 160) hx hb dC_addAll_24 (by decide +kernel) ?_
      refine tq_ge hx hb dC_addAll_27 (tgt := 59) (by decide) (by omega) (by omega) (fun h27 => ?_) (fun h27 => ?_)
      · subst hQe
        exact W.vret hx hb hr (fun t ht hW => ⟨⟨v, rfl, ⟨g1, all_end h27 g2⟩, tq_hp ht hP⟩, hS.F ht⟩) hS.2.2 dC_addAll_59
      · refine lv_aload_n hx hb dC_addAll_30 rfl (lv_at hl 2 rfl) ?_
        refine lv_iload_n hx hb dC_addAll_31 rfl (lv_at hl 3 rfl) ?_
        refine lv_iload_n hx hb dC_addAll_32 rfl (lv_at hl 4 rfl) ?_
        refine lv_iload hx hb dC_addAll_33 (lv_at hl 0 rfl) ?_
        refine ks_v (wf := sW a kI kL kZ) (u := v) ⟨hx, hb, hml, hown, hA⟩ (c_add l D a kI kL kZ v x i r (by omega) (by omega) (by omega)) (kw_C_94 hA rfl rfl ⟨Nat.le_trans (Nat.le_of_ble_eq_true rfl) hRf, Nat.le_trans (Nat.le_of_ble_eq_true rfl) hRl⟩) hK hP hD hS (fun _ h => h) (fun u' => sW_adr u') 3 3 rfl rfl rfl hl.1 (Nat.le_of_ble_eq_true rfl) ⟨by omega, by omega⟩ dC_addAll_35 rfl (fun u2 H locs hu2 hP hD hS => ?_)
        refine lv_aload_n hx hb dC_addAll_38 rfl (lv_at hl 5 rfl) ?_
        refine lv_iload hx hb dC_addAll_39 (lv_at hl 6 rfl) ?_
        refine lv_iload hx hb dC_addAll_41 (lv_at hl 0 rfl) ?_
        refine lv_iconst (v := nI 1) hx hb dC_addAll_43 (by decide +kernel) ?_
        refine tq_iadd hx hb dC_addAll_44 ?_
        refine lv_aload_n hx hb dC_addAll_45 rfl (lv_at hl 2 rfl) ?_
        refine gf_C_24 (v := .ref (a 14)) hx hb hA hown hK hP 3 rfl rfl dC_addAll_46 ?_
        refine lv_iload hx hb dC_addAll_49 (lv_at hl 1 rfl) ?_
        refine k_nextBeyond ⟨hx, hb, hml, hown, hA⟩ (kw_C_182 hA rfl rfl ⟨Nat.le_trans (Nat.le_of_ble_eq_true rfl) hRf, Nat.le_trans (Nat.le_of_ble_eq_true rfl) hRl⟩) hK hP hS 22 23 14 15 1 rfl rfl rfl rfl rfl (by decide) (by omega) (by omega) (by decide) (by decide) (by decide) (by omega) hl.1 (Nat.le_of_ble_eq_true rfl) ⟨by omega, by omega⟩ dC_addAll_51 (fun r3 H locs hr3 hP hS => ?_)
        refine lv_istore (lv' := [(6, .int (nI r3)), (5, .int (nI (x * 7 + i))), (0, .ref (a 3)), (1, .int (nI x)), (2, .int (nI i)), (3, .ref (a 22)), (4, .int (nI t))]) hx hb dC_addAll_54 hl (by decide) rfl (fun ls hl => ?_)
        refine lv_goto hx hb dC_addAll_56 (tgt := 22) (by decide) ?_
        have hT : ∀ b, u2.1 4 t b = true ↔ u.1 4 t b = true := fun b => by rw [hu2.1.2.2.2.2.2.1 4 (by decide), g1.2.2.2.2.2.1 4 (by decide)]
        have hge := hr3.1
        have hlt := hr3.2.1
        exact ih22 r3 u2 ls H locs (ext_trans g1 hu2.1) (all_step g2 (g3 h27) h27 hu2.2 hT hr3) (fun z => (hT _).mp (all_T hr3 z)) (by omega) hP hD hS (by omega) (lv_sub hl [0, 1, 2, 3, 4, 5, 6] rfl)
  exact lp _ r1 u ls _ _ (ext_refl u) (all_first hr1) (all_T hr1) (by have := hr1.2.1; omega) hP hD hS (Nat.lt_succ_self _) (lv_sub hl [0, 1, 2, 3, 4, 5, 6] rfl)
set_option maxHeartbeats 4000000 in
set_option maxRecDepth 100000 in
/-- c_addAll0 -/
theorem c_addAll0 (l : Launch) (D : va_G) (a : Nat → Nat) (kI kL kZ : ClassId) (u : sU) (x i t : Nat) (hx1 : x < 160) (hi1 : i < 7) (ht1 : t < 1120) : Met l yC_addAll (wC_addAll :: wA) ({ frames := 2, cells := 0, slots := 0, locals := 49 }) (va_Pc [.ref (a 3), .int (nI x), .int (nI i), .ref (a 14), .int (nI t)] (tq_wB D vwA (sW a kI kL kZ u) (sT kI kL kZ))) (va_Qv (fun (u' : sU) => s_ext u u' ∧ ∀ y b, u'.1 0 y b = true ↔ u.1 0 y b = true ∨ (y = x * 7 + i ∧ b < 160 ∧ u.1 0 t b = true)) (fun u' t => va_P D vwA (sW a kI kL kZ u') t.heap) (sA a)) 0 0 (sA a) := by
  refine Met.ofW (cc := bC_addAll) (maxL := 7) (ret := none) (by decide +kernel) rfl ?_
  intro p e s m args below meth c s₁ B1 hml hv
  obtain ⟨rfl, hP, hK, hD0⟩ := hv
  have hx := B1.exec
  have hb := B1.bytes
  have hr := B1.returns
  have hA : ∀ w ∈ wA, w.before ([.ref (a 3), .int (nI x), .int (nI i), .ref (a 14), .int (nI t)] : List Value).toArray s = true := fun w h => atoms_spec (ws := wC_addAll :: wA) B1.pre w (List.mem_cons_of_mem _ h)
  have hown : s.vm.findClass RcC = some m.cls := findClass_of_methodNamed B1.named
  have hlocks := B1.notSynchronized
  have hS : va_S (sA a) s.heap s.heap [] := va_S.rf
  have hl := lv_entry ([.ref (a 3), .int (nI x), .int (nI i), .ref (a 14), .int (nI t)]) (n := 7) (Nat.le_of_ble_eq_true rfl)
  rw [lg_entry_eq]
  generalize (lg_sl ([.ref (a 3), .int (nI x), .int (nI i), .ref (a 14), .int (nI t)]) ++ List.replicate (7 - (lg_sl ([.ref (a 3), .int (nI x), .int (nI i), .ref (a 14), .int (nI t)])).length) Slot.unset).toArray = ls at hl ⊢
  have hl : lv_has ls 7 [(0, .ref (a 3)), (1, .int (nI x)), (2, .int (nI i)), (3, .ref (a 14)), (4, .int (nI t))] := hl
  refine tq_gen (fun R Q hRe hQe => ?_)
  have hRf : 2 ≤ R.frames := by rw [hRe]; exact Nat.le_of_ble_eq_true rfl
  have hRl : 49 ≤ R.locals := by rw [hRe]; exact Nat.le_of_ble_eq_true rfl
  have hRc : 0 ≤ R.cells := by rw [hRe]; exact Nat.le_of_ble_eq_true rfl
  have hRs : 0 ≤ R.slots := by rw [hRe]; exact Nat.le_of_ble_eq_true rfl
  have hD := sA_D hD0
  refine lv_iload_n hx hb dC_addAll_0 rfl (lv_at hl 1 rfl) ?_
  refine lv_iload_n hx hb dC_addAll_1 rfl (lv_at hl 2 rfl) ?_
  refine ks_s ⟨hx, hb, hml, hown, hA⟩ (c_row l x i) (kw_C_57 hA rfl rfl ⟨Nat.le_trans (Nat.le_of_ble_eq_true rfl) hRf, Nat.le_trans (Nat.le_of_ble_eq_true rfl) hRl⟩) hP hS rfl hl.1 (Nat.le_of_ble_eq_true rfl) ⟨by omega, by omega⟩ dC_addAll_2 rfl (fun H locs hP hS => ?_)
  refine lv_istore (lv' := [(5, .int (nI (x * 7 + i))), (0, .ref (a 3)), (1, .int (nI x)), (2, .int (nI i)), (3, .ref (a 14)), (4, .int (nI t))]) hx hb dC_addAll_5 hl (by decide) rfl (fun ls hl => ?_)
  refine lv_aload_n hx hb dC_addAll_7 rfl (lv_at hl 4 rfl) ?_
  refine lv_iload hx hb dC_addAll_8 (lv_at hl 5 rfl) ?_
  refine lv_iconst (v := nI 0) hx hb dC_addAll_10 (by decide +kernel) ?_
  refine lv_aload_n hx hb dC_addAll_11 rfl (lv_at hl 1 rfl) ?_
  refine gf_C_24 (v := .ref (a 14)) hx hb hA hown hK hP 3 rfl rfl dC_addAll_12 ?_
  refine lv_iload hx hb dC_addAll_15 (lv_at hl 0 rfl) ?_
  refine k_nextBeyond ⟨hx, hb, hml, hown, hA⟩ (kw_C_182 hA rfl rfl ⟨Nat.le_trans (Nat.le_of_ble_eq_true rfl) hRf, Nat.le_trans (Nat.le_of_ble_eq_true rfl) hRl⟩) hK hP hS 14 15 14 15 1 rfl rfl rfl rfl rfl (by decide) (by omega) (by omega) (by decide) (by decide) (by decide) (by omega) hl.1 (Nat.le_of_ble_eq_true rfl) ⟨by omega, by omega⟩ dC_addAll_17 (fun r1 H locs hr1 hP hS => ?_)
  refine lv_istore (lv' := [(6, .int (nI r1)), (5, .int (nI (x * 7 + i))), (0, .ref (a 3)), (1, .int (nI x)), (2, .int (nI i)), (3, .ref (a 14)), (4, .int (nI t))]) hx hb dC_addAll_20 hl (by decide) rfl (fun ls hl => ?_)
  have lp : ∀ (fu : Nat) (r : Nat) (v : sU) (ls : Array Slot) (H : Heap) (locs : List Loc), s_ext u v → (∀ y b, v.1 0 y b = true ↔ u.1 0 y b = true ∨ (y = x * 7 + i ∧ b < 160 ∧ b < r ∧ u.1 0 t b = true)) → (r < 160 → u.1 0 t r = true) → r < 224 → va_P D vwA (sW a kI kL kZ v) H → va_D (sA a) (sW a kI kL kZ v) → va_S (sA a) s.heap H locs → 224 - r < fu → lv_has ls 7 [(6, .int (nI r)), (5, .int (nI (x * 7 + i))), (0, .ref (a 3)), (1, .int (nI x)), (2, .int (nI i)), (3, .ref (a 14)), (4, .int (nI t))] → W p l e R s m ([.ref (a 3), .int (nI x), .int (nI i), .ref (a 14), .int (nI t)] : List Value).toArray below meth c H locs 0 0 Q (F0 m 22 ls []) := by
    intro fu
    induction fu with
    | zero => intros; omega
    | succ fu ih22 =>
      intro r v ls H locs g1 g2 g3 g4 hP hD hS hfu hl
      refine lv_iload hx hb dC_addAll_22 (lv_at hl 0 rfl) ?_
      refine lv_sipush (v := nI 160) hx hb dC_addAll_24 (by decide +kernel) ?_
      refine tq_ge hx hb dC_addAll_27 (tgt := 59) (by decide) (by omega) (by omega) (fun h27 => ?_) (fun h27 => ?_)
      · subst hQe
        exact W.vret hx hb hr (fun t ht hW => ⟨⟨v, rfl, ⟨g1, all_end h27 g2⟩, tq_hp ht hP⟩, hS.F ht⟩) hS.2.2 dC_addAll_59
      · refine lv_aload_n hx hb dC_addAll_30 rfl (lv_at hl 2 rfl) ?_
        refine lv_iload_n hx hb dC_addAll_31 rfl (lv_at hl 3 rfl) ?_
        refine lv_iload_n hx hb dC_addAll_32 rfl (lv_at hl 4 rfl) ?_
        refine lv_iload hx hb dC_addAll_33 (lv_at hl 0 rfl) ?_
        refine ks_v (wf := sW a kI kL kZ) (u := v) ⟨hx, hb, hml, hown, hA⟩ (c_add l D a kI kL kZ v x i r (by omega) (by omega) (by omega)) (kw_C_94 hA rfl rfl ⟨Nat.le_trans (Nat.le_of_ble_eq_true rfl) hRf, Nat.le_trans (Nat.le_of_ble_eq_true rfl) hRl⟩) hK hP hD hS (fun _ h => h) (fun u' => sW_adr u') 3 3 rfl rfl rfl hl.1 (Nat.le_of_ble_eq_true rfl) ⟨by omega, by omega⟩ dC_addAll_35 rfl (fun u2 H locs hu2 hP hD hS => ?_)
        refine lv_aload_n hx hb dC_addAll_38 rfl (lv_at hl 5 rfl) ?_
        refine lv_iload hx hb dC_addAll_39 (lv_at hl 6 rfl) ?_
        refine lv_iload hx hb dC_addAll_41 (lv_at hl 0 rfl) ?_
        refine lv_iconst (v := nI 1) hx hb dC_addAll_43 (by decide +kernel) ?_
        refine tq_iadd hx hb dC_addAll_44 ?_
        refine lv_aload_n hx hb dC_addAll_45 rfl (lv_at hl 2 rfl) ?_
        refine gf_C_24 (v := .ref (a 14)) hx hb hA hown hK hP 3 rfl rfl dC_addAll_46 ?_
        refine lv_iload hx hb dC_addAll_49 (lv_at hl 1 rfl) ?_
        refine k_nextBeyond ⟨hx, hb, hml, hown, hA⟩ (kw_C_182 hA rfl rfl ⟨Nat.le_trans (Nat.le_of_ble_eq_true rfl) hRf, Nat.le_trans (Nat.le_of_ble_eq_true rfl) hRl⟩) hK hP hS 14 15 14 15 1 rfl rfl rfl rfl rfl (by decide) (by omega) (by omega) (by decide) (by decide) (by decide) (by omega) hl.1 (Nat.le_of_ble_eq_true rfl) ⟨by omega, by omega⟩ dC_addAll_51 (fun r3 H locs hr3 hP hS => ?_)
        refine lv_istore (lv' := [(6, .int (nI r3)), (5, .int (nI (x * 7 + i))), (0, .ref (a 3)), (1, .int (nI x)), (2, .int (nI i)), (3, .ref (a 14)), (4, .int (nI t))]) hx hb dC_addAll_54 hl (by decide) rfl (fun ls hl => ?_)
        refine lv_goto hx hb dC_addAll_56 (tgt := 22) (by decide) ?_
        have hT : ∀ b, u2.1 0 t b = true ↔ u.1 0 t b = true := fun b => by rw [hu2.2, all_T0 g2 b]; exact ⟨fun z => z.elim id (fun z => by have h9 := g3 h27; rw [z.2]; exact h9), Or.inl⟩
        have hge := hr3.1
        have hlt := hr3.2.1
        exact ih22 r3 u2 ls H locs (ext_trans g1 hu2.1) (all_step g2 (g3 h27) h27 hu2.2 hT hr3) (fun z => (hT _).mp (all_T hr3 z)) (by omega) hP hD hS (by omega) (lv_sub hl [0, 1, 2, 3, 4, 5, 6] rfl)
  exact lp _ r1 u ls _ _ (ext_refl u) (all_first hr1) (all_T hr1) (by have := hr1.2.1; omega) hP hD hS (Nat.lt_succ_self _) (lv_sub hl [0, 1, 2, 3, 4, 5, 6] rfl)
set_option maxHeartbeats 4000000 in
set_option maxRecDepth 100000 in
/-- c_addFromAll -/
theorem c_addFromAll (l : Launch) (D : va_G) (a : Nat → Nat) (kI kL kZ : ClassId) (u : sU) (y0 q0 i d : Nat) (htr : s_tr u) (hy1 : y0 < 160) (hq1 : q0 < 7) (hi1 : i < 7) (hd1 : d < 160) : Met l yC_addFromAll (wC_addFromAll :: wA) ({ frames := 2, cells := 0, slots := 0, locals := 49 }) (va_Pc [.ref (a 3), .int (nI (y0 * 7 + q0)), .int (nI i), .int (nI d)] (tq_wB D vwA (sW a kI kL kZ u) (sT kI kL kZ))) (va_Qv (fun (u' : sU) => s_ext u u' ∧ s_from u u' (y0 * 7 + q0) i d 160) (fun u' t => va_P D vwA (sW a kI kL kZ u') t.heap) (sA a)) 0 0 (sA a) := by
  refine Met.ofW (cc := bC_addFromAll) (maxL := 6) (ret := none) (by decide +kernel) rfl ?_
  intro p e s m args below meth c s₁ B1 hml hv
  obtain ⟨rfl, hP, hK, hD0⟩ := hv
  have hx := B1.exec
  have hb := B1.bytes
  have hr := B1.returns
  have hA : ∀ w ∈ wA, w.before ([.ref (a 3), .int (nI (y0 * 7 + q0)), .int (nI i), .int (nI d)] : List Value).toArray s = true := fun w h => atoms_spec (ws := wC_addFromAll :: wA) B1.pre w (List.mem_cons_of_mem _ h)
  have hown : s.vm.findClass RcC = some m.cls := findClass_of_methodNamed B1.named
  have hlocks := B1.notSynchronized
  have hS : va_S (sA a) s.heap s.heap [] := va_S.rf
  have hl := lv_entry ([.ref (a 3), .int (nI (y0 * 7 + q0)), .int (nI i), .int (nI d)]) (n := 6) (Nat.le_of_ble_eq_true rfl)
  rw [lg_entry_eq]
  generalize (lg_sl ([.ref (a 3), .int (nI (y0 * 7 + q0)), .int (nI i), .int (nI d)]) ++ List.replicate (6 - (lg_sl ([.ref (a 3), .int (nI (y0 * 7 + q0)), .int (nI i), .int (nI d)])).length) Slot.unset).toArray = ls at hl ⊢
  have hl : lv_has ls 6 [(0, .ref (a 3)), (1, .int (nI (y0 * 7 + q0))), (2, .int (nI i)), (3, .int (nI d))] := hl
  refine tq_gen (fun R Q hRe hQe => ?_)
  have hRf : 2 ≤ R.frames := by rw [hRe]; exact Nat.le_of_ble_eq_true rfl
  have hRl : 49 ≤ R.locals := by rw [hRe]; exact Nat.le_of_ble_eq_true rfl
  have hRc : 0 ≤ R.cells := by rw [hRe]; exact Nat.le_of_ble_eq_true rfl
  have hRs : 0 ≤ R.slots := by rw [hRe]; exact Nat.le_of_ble_eq_true rfl
  have hD := sA_D hD0
  refine lv_iload_n hx hb dC_addFromAll_0 rfl (lv_at hl 3 rfl) ?_
  refine lv_iload_n hx hb dC_addFromAll_1 rfl (lv_at hl 2 rfl) ?_
  refine ks_s ⟨hx, hb, hml, hown, hA⟩ (c_row l d i) (kw_C_57 hA rfl rfl ⟨Nat.le_trans (Nat.le_of_ble_eq_true rfl) hRf, Nat.le_trans (Nat.le_of_ble_eq_true rfl) hRl⟩) hP hS rfl hl.1 (Nat.le_of_ble_eq_true rfl) ⟨by omega, by omega⟩ dC_addFromAll_2 rfl (fun H locs hP hS => ?_)
  refine lv_istore (lv' := [(4, .int (nI (d * 7 + i))), (0, .ref (a 3)), (1, .int (nI (y0 * 7 + q0))), (2, .int (nI i)), (3, .int (nI d))]) hx hb dC_addFromAll_5 hl (by decide) rfl (fun ls hl => ?_)
  refine lv_aload_n hx hb dC_addFromAll_7 rfl (lv_at hl 1 rfl) ?_
  refine gf_C_28 (v := .ref (a 16)) hx hb hA hown hK hP 3 rfl rfl dC_addFromAll_8 ?_
  refine lv_iload_n hx hb dC_addFromAll_11 rfl (lv_at hl 2 rfl) ?_
  refine lv_iconst (v := nI 0) hx hb dC_addFromAll_12 (by decide +kernel) ?_
  refine lv_aload_n hx hb dC_addFromAll_13 rfl (lv_at hl 1 rfl) ?_
  refine gf_C_28 (v := .ref (a 16)) hx hb hA hown hK hP 3 rfl rfl dC_addFromAll_14 ?_
  refine lv_iload hx hb dC_addFromAll_17 (lv_at hl 0 rfl) ?_
  refine k_nextBeyond ⟨hx, hb, hml, hown, hA⟩ (kw_C_182 hA rfl rfl ⟨Nat.le_trans (Nat.le_of_ble_eq_true rfl) hRf, Nat.le_trans (Nat.le_of_ble_eq_true rfl) hRl⟩) hK hP hS 16 17 16 17 1 rfl rfl rfl rfl rfl (by decide) (by omega) (by omega) (by decide) (by decide) (by decide) (by omega) hl.1 (Nat.le_of_ble_eq_true rfl) ⟨by omega, by omega⟩ dC_addFromAll_19 (fun r1 H locs hr1 hP hS => ?_)
  refine lv_istore (lv' := [(5, .int (nI r1)), (4, .int (nI (d * 7 + i))), (0, .ref (a 3)), (1, .int (nI (y0 * 7 + q0))), (2, .int (nI i)), (3, .int (nI d))]) hx hb dC_addFromAll_22 hl (by decide) rfl (fun ls hl => ?_)
  have lp : ∀ (fu : Nat) (r : Nat) (v : sU) (ls : Array Slot) (H : Heap) (locs : List Loc), s_ext u v → s_from u v (y0 * 7 + q0) i d r → (r < 160 → u.1 1 (y0 * 7 + q0) r = true ∧ ¬ y0 * 7 + q0 = d * 7 + i) → r < 224 → va_P D vwA (sW a kI kL kZ v) H → va_D (sA a) (sW a kI kL kZ v) → va_S (sA a) s.heap H locs → 224 - r < fu → lv_has ls 6 [(5, .int (nI r)), (4, .int (nI (d * 7 + i))), (0, .ref (a 3)), (1, .int (nI (y0 * 7 + q0))), (2, .int (nI i)), (3, .int (nI d))] → W p l e R s m ([.ref (a 3), .int (nI (y0 * 7 + q0)), .int (nI i), .int (nI d)] : List Value).toArray below meth c H locs 0 0 Q (F0 m 24 ls []) := by
    intro fu
    induction fu with
    | zero => intros; omega
    | succ fu ih24 =>
      intro r v ls H locs g1 g2 g3 g4 hP hD hS hfu hl
      refine lv_iload hx hb dC_addFromAll_24 (lv_at hl 0 rfl) ?_
      refine lv_sipush (v := nI 160) hx hb dC_addFromAll_26 (by decide +kernel) ?_
      refine tq_ge hx hb dC_addFromAll_29 (tgt := 63) (by decide) (by omega) (by omega) (fun h29 => ?_) (fun h29 => ?_)
      · subst hQe
        exact W.vret hx hb hr (fun t ht hW => ⟨⟨v, rfl, ⟨g1, from_end h29 g2⟩, tq_hp ht hP⟩, hS.F ht⟩) hS.2.2 dC_addFromAll_63
      · refine lv_aload_n hx hb dC_addFromAll_32 rfl (lv_at hl 2 rfl) ?_
        refine lv_iload hx hb dC_addFromAll_33 (lv_at hl 0 rfl) ?_
        refine lv_iload_n hx hb dC_addFromAll_35 rfl (lv_at hl 4 rfl) ?_
        refine lv_iload_n hx hb dC_addFromAll_36 rfl (lv_at hl 5 rfl) ?_
        refine ks_v (wf := sW a kI kL kZ) (u := v) ⟨hx, hb, hml, hown, hA⟩ (c_add l D a kI kL kZ v r i d (by omega) (by omega) (by omega)) (kw_C_94 hA rfl rfl ⟨Nat.le_trans (Nat.le_of_ble_eq_true rfl) hRf, Nat.le_trans (Nat.le_of_ble_eq_true rfl) hRl⟩) hK hP hD hS (fun _ h => h) (fun u' => sW_adr u') 3 3 rfl rfl rfl hl.1 (Nat.le_of_ble_eq_true rfl) ⟨by omega, by omega⟩ dC_addFromAll_37 rfl (fun u2 H locs hu2 hP hD hS => ?_)
        refine lv_aload_n hx hb dC_addFromAll_40 rfl (lv_at hl 2 rfl) ?_
        refine gf_C_28 (v := .ref (a 16)) hx hb hA hown hK hP 3 rfl rfl dC_addFromAll_41 ?_
        refine lv_iload_n hx hb dC_addFromAll_44 rfl (lv_at hl 3 rfl) ?_
        refine lv_iload hx hb dC_addFromAll_45 (lv_at hl 0 rfl) ?_
        refine lv_iconst (v := nI 1) hx hb dC_addFromAll_47 (by decide +kernel) ?_
        refine tq_iadd hx hb dC_addFromAll_48 ?_
        refine lv_aload_n hx hb dC_addFromAll_49 rfl (lv_at hl 2 rfl) ?_
        refine gf_C_28 (v := .ref (a 16)) hx hb hA hown hK hP 3 rfl rfl dC_addFromAll_50 ?_
        refine lv_iload hx hb dC_addFromAll_53 (lv_at hl 1 rfl) ?_
        refine k_nextBeyond ⟨hx, hb, hml, hown, hA⟩ (kw_C_182 hA rfl rfl ⟨Nat.le_trans (Nat.le_of_ble_eq_true rfl) hRf, Nat.le_trans (Nat.le_of_ble_eq_true rfl) hRl⟩) hK hP hS 16 17 16 17 1 rfl rfl rfl rfl rfl (by decide) (by omega) (by omega) (by decide) (by decide) (by decide) (by omega) hl.1 (Nat.le_of_ble_eq_true rfl) ⟨by omega, by omega⟩ dC_addFromAll_55 (fun r3 H locs hr3 hP hS => ?_)
        refine lv_istore (lv' := [(5, .int (nI r3)), (4, .int (nI (d * 7 + i))), (0, .ref (a 3)), (1, .int (nI (y0 * 7 + q0))), (2, .int (nI i)), (3, .int (nI d))]) hx hb dC_addFromAll_58 hl (by decide) rfl (fun ls hl => ?_)
        refine lv_goto hx hb dC_addFromAll_60 (tgt := 24) (by decide) ?_
        have hge := hr3.1
        have hlt := hr3.2.1
        exact ih24 r3 u2 ls H locs (ext_trans g1 hu2.1) (from_step hq1 hi1 hd1 hy1 htr g1 g2 h29 (g3 h29).1 (g3 h29).2 hu2 hr3) (fun z => ⟨(from_row hq1 hi1 hy1 (ext_trans g1 hu2.1) (from_step hq1 hi1 hd1 hy1 htr g1 g2 h29 (g3 h29).1 (g3 h29).2 hu2 hr3) (from_S hr3 z).2 z).mp (from_S hr3 z).1, (from_S hr3 z).2⟩) (by have := hr3.2.1; omega) hP hD hS (by omega) (lv_sub hl [0, 1, 2, 3, 4, 5] rfl)
  exact lp _ r1 u ls _ _ (ext_refl u) (from_first htr hi1 hd1 hr1) (from_S hr1) (by have := hr1.2.1; omega) hP hD hS (Nat.lt_succ_self _) (lv_sub hl [0, 1, 2, 3, 4, 5] rfl)
