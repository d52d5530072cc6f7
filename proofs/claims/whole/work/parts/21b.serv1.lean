/-! TermServer: its readers. Written by wip/whole/gen/genS1.py. -/
set_option maxHeartbeats 4000000 in
set_option maxRecDepth 100000 in
/-- c_findBoth0 -/
theorem c_findBoth0 (l : Launch) (D : va_G) (a : Nat → Nat) (kI kL kZ : ClassId) (u : sU) (d d2 : Nat) (hd : d < 160) (hd2 : d2 < 160) : Met l yT_findBoth (wT_findBoth :: wA) ({ frames := 2, cells := 0, slots := 0, locals := 46 }) (va_Pc [.ref (a 1), .int (nI d), .int (nI d2)] (tq_rB D vwA (sW a kI kL kZ u) (sT kI kL kZ))) (va_Qi (fun r (_ : Unit) => (∃ k, k < 160 ∧ u.1 7 d k = true ∧ (u.2.1 1 k = nI d ∧ u.2.1 2 k = nI d2) ∧ r = nI k) ∨ (r = -1 ∧ ∀ b, b < 160 → u.1 7 d b = true → ¬ (u.2.1 1 b = nI d ∧ u.2.1 2 b = nI d2))) (fun _ _ => True) (fun _ => False)) 0 0 (fun _ => False) := by
  refine Met.ofW (cc := bT_findBoth) (maxL := 4) (ret := (some .int)) (by decide +kernel) rfl ?_
  intro p e s m args below meth c s₁ B1 hml hv
  obtain ⟨rfl, hP, hK⟩ := hv
  have hx := B1.exec
  have hb := B1.bytes
  have hr := B1.returns
  have hA : ∀ w ∈ wA, w.before ([.ref (a 1), .int (nI d), .int (nI d2)] : List Value).toArray s = true := fun w h => atoms_spec (ws := wT_findBoth :: wA) B1.pre w (List.mem_cons_of_mem _ h)
  have hown : s.vm.findClass RcT = some m.cls := findClass_of_methodNamed B1.named
  have hlocks := B1.notSynchronized
  have hS : va_S (fun _ => False) s.heap s.heap [] := va_S.rf
  have hl := lv_entry ([.ref (a 1), .int (nI d), .int (nI d2)]) (n := 4) (Nat.le_of_ble_eq_true rfl)
  rw [lg_entry_eq]
  generalize (lg_sl ([.ref (a 1), .int (nI d), .int (nI d2)]) ++ List.replicate (4 - (lg_sl ([.ref (a 1), .int (nI d), .int (nI d2)])).length) Slot.unset).toArray = ls at hl ⊢
  have hl : lv_has ls 4 [(0, .ref (a 1)), (1, .int (nI d)), (2, .int (nI d2))] := hl
  refine tq_gen (fun R Q hRe hQe => ?_)
  have hRf : 2 ≤ R.frames := by rw [hRe]; exact Nat.le_of_ble_eq_true rfl
  have hRl : 46 ≤ R.locals := by rw [hRe]; exact Nat.le_of_ble_eq_true rfl
  have hRc : 0 ≤ R.cells := by rw [hRe]; exact Nat.le_of_ble_eq_true rfl
  have hRs : 0 ≤ R.slots := by rw [hRe]; exact Nat.le_of_ble_eq_true rfl
  refine lv_aload_n hx hb dT_findBoth_0 rfl (lv_at hl 0 rfl) ?_
  refine gf_T_29 (v := .ref (a 28)) hx hb hA hown hK hP 1 rfl rfl dT_findBoth_1 ?_
  refine lv_iload_n hx hb dT_findBoth_4 rfl (lv_at hl 1 rfl) ?_
  refine lv_iconst (v := nI 0) hx hb dT_findBoth_5 (by decide +kernel) ?_
  refine k_next ⟨hx, hb, hml, hown, hA⟩ (kw_T_49 hA rfl rfl ⟨Nat.le_trans (Nat.le_of_ble_eq_true rfl) hRf, Nat.le_trans (Nat.le_of_ble_eq_true rfl) hRl⟩) hK hP hS 28 29 1 rfl rfl rfl (by decide) (by omega) (by decide) (by decide) (by omega) (by omega) hl.1 (Nat.le_of_ble_eq_true rfl) ⟨by omega, by omega⟩ dT_findBoth_6 (fun r1 H locs hr1 hP hS => ?_)
  refine lv_istore_n (lv' := [(3, .int (nI r1)), (0, .ref (a 1)), (1, .int (nI d)), (2, .int (nI d2))]) hx hb dT_findBoth_9 rfl hl (by decide) rfl (fun ls hl => ?_)
  have lp : ∀ (fu : Nat) (r : Nat) (ls : Array Slot) (H : Heap) (locs : List Loc), (∀ b, b < r → b < 160 → u.1 7 d b = true → ¬ (u.2.1 1 b = nI d ∧ u.2.1 2 b = nI d2)) → (r < 160 → u.1 7 d r = true) → r < 224 → va_P D vwA (sW a kI kL kZ u) H → va_S (fun _ => False) s.heap H locs → 224 - r < fu → lv_has ls 4 [(3, .int (nI r)), (0, .ref (a 1)), (1, .int (nI d)), (2, .int (nI d2))] → W p l e R s m ([.ref (a 1), .int (nI d), .int (nI d2)] : List Value).toArray below meth c H locs 0 0 Q (F0 m 10 ls []) := by
    intro fu
    induction fu with
    | zero => intros; omega
    | succ fu ih10 =>
      intro r ls H locs g1 g2 g3 hP hS hfu hl
      refine lv_iload_n hx hb dT_findBoth_10 rfl (lv_at hl 0 rfl) ?_
      refine lv_sipush (v := nI 160) hx hb dT_findBoth_11 (by decide +kernel) ?_
      refine tq_ge hx hb dT_findBoth_14 (tgt := 54) (by decide) (by omega) (by omega) (fun h14 => ?_) (fun h14 => ?_)
      · refine lv_iconst (v := (-1)) hx hb dT_findBoth_54 (by decide +kernel) ?_
        subst hQe
        exact W.iret (v := (-1)) hx hb hr (fun t ht hW => ⟨⟨_, (), rfl, Or.inr ⟨rfl, fun b z => g1 b (by omega) z⟩, trivial⟩, hS.F ht⟩) hS.2.2 dT_findBoth_55
      · refine lv_aload_n hx hb dT_findBoth_17 rfl (lv_at hl 1 rfl) ?_
        refine gf_T_15 (v := .ref (a 6)) hx hb hA hown hK hP 1 rfl rfl dT_findBoth_18 ?_
        refine lv_iload_n hx hb dT_findBoth_21 rfl (lv_at hl 0 rfl) ?_
        refine tq_iald hx hb hK hP 6 0 rfl rfl (by omega) (by omega) dT_findBoth_22 ?_
        refine lv_iload_n hx hb dT_findBoth_23 rfl (lv_at hl 2 rfl) ?_
        refine lv_icmp_ne hx hb dT_findBoth_24 (tgt := 39) (by decide) (fun h24 => ?_) (fun h24 => ?_)
        · have hno : ¬ (u.2.1 1 r = nI d ∧ u.2.1 2 r = nI d2) := fun z => h24 z.1
          refine lv_aload_n hx hb dT_findBoth_39 rfl (lv_at hl 1 rfl) ?_
          refine gf_T_29 (v := .ref (a 28)) hx hb hA hown hK hP 1 rfl rfl dT_findBoth_40 ?_
          refine lv_iload_n hx hb dT_findBoth_43 rfl (lv_at hl 2 rfl) ?_
          refine lv_iload_n hx hb dT_findBoth_44 rfl (lv_at hl 0 rfl) ?_
          refine lv_iconst (v := nI 1) hx hb dT_findBoth_45 (by decide +kernel) ?_
          refine tq_iadd hx hb dT_findBoth_46 ?_
          refine k_next ⟨hx, hb, hml, hown, hA⟩ (kw_T_49 hA rfl rfl ⟨Nat.le_trans (Nat.le_of_ble_eq_true rfl) hRf, Nat.le_trans (Nat.le_of_ble_eq_true rfl) hRl⟩) hK hP hS 28 29 1 rfl rfl rfl (by decide) (by omega) (by decide) (by decide) (by omega) (by omega) hl.1 (Nat.le_of_ble_eq_true rfl) ⟨by omega, by omega⟩ dT_findBoth_47 (fun r2 H locs hr2 hP hS => ?_)
          refine lv_istore_n (lv' := [(3, .int (nI r2)), (0, .ref (a 1)), (1, .int (nI d)), (2, .int (nI d2))]) hx hb dT_findBoth_50 rfl hl (by decide) rfl (fun ls hl => ?_)
          refine lv_goto hx hb dT_findBoth_51 (tgt := 10) (by decide) ?_
          have hge := hr2.1
          have hlt := hr2.2.1
          exact ih10 r2 ls H locs (tm_nx_step (P := fun b => ¬ (u.2.1 1 b = nI d ∧ u.2.1 2 b = nI d2)) g1 hno hr2) hr2.2.2.2 (by omega) hP hS (by omega) (lv_sub hl [0, 1, 2, 3] rfl)
        · refine lv_aload_n hx hb dT_findBoth_27 rfl (lv_at hl 1 rfl) ?_
          refine gf_T_18 (v := .ref (a 7)) hx hb hA hown hK hP 1 rfl rfl dT_findBoth_28 ?_
          refine lv_iload_n hx hb dT_findBoth_31 rfl (lv_at hl 0 rfl) ?_
          refine tq_iald hx hb hK hP 7 0 rfl rfl (by omega) (by omega) dT_findBoth_32 ?_
          refine lv_iload_n hx hb dT_findBoth_33 rfl (lv_at hl 3 rfl) ?_
          refine lv_icmp_ne hx hb dT_findBoth_34 (tgt := 39) (by decide) (fun h34 => ?_) (fun h34 => ?_)
          · have hno : ¬ (u.2.1 1 r = nI d ∧ u.2.1 2 r = nI d2) := fun z => h34 z.2
            refine lv_aload_n hx hb dT_findBoth_39 rfl (lv_at hl 1 rfl) ?_
            refine gf_T_29 (v := .ref (a 28)) hx hb hA hown hK hP 1 rfl rfl dT_findBoth_40 ?_
            refine lv_iload_n hx hb dT_findBoth_43 rfl (lv_at hl 2 rfl) ?_
            refine lv_iload_n hx hb dT_findBoth_44 rfl (lv_at hl 0 rfl) ?_
            refine lv_iconst (v := nI 1) hx hb dT_findBoth_45 (by decide +kernel) ?_
            refine tq_iadd hx hb dT_findBoth_46 ?_
            refine k_next ⟨hx, hb, hml, hown, hA⟩ (kw_T_49 hA rfl rfl ⟨Nat.le_trans (Nat.le_of_ble_eq_true rfl) hRf, Nat.le_trans (Nat.le_of_ble_eq_true rfl) hRl⟩) hK hP hS 28 29 1 rfl rfl rfl (by decide) (by omega) (by decide) (by decide) (by omega) (by omega) hl.1 (Nat.le_of_ble_eq_true rfl) ⟨by omega, by omega⟩ dT_findBoth_47 (fun r3 H locs hr3 hP hS => ?_)
            refine lv_istore_n (lv' := [(3, .int (nI r3)), (0, .ref (a 1)), (1, .int (nI d)), (2, .int (nI d2))]) hx hb dT_findBoth_50 rfl hl (by decide) rfl (fun ls hl => ?_)
            refine lv_goto hx hb dT_findBoth_51 (tgt := 10) (by decide) ?_
            have hge := hr3.1
            have hlt := hr3.2.1
            exact ih10 r3 ls H locs (tm_nx_step (P := fun b => ¬ (u.2.1 1 b = nI d ∧ u.2.1 2 b = nI d2)) g1 hno hr3) hr3.2.2.2 (by omega) hP hS (by omega) (lv_sub hl [0, 1, 2, 3] rfl)
          · refine lv_iload_n hx hb dT_findBoth_37 rfl (lv_at hl 0 rfl) ?_
            subst hQe
            exact W.iret (v := nI r) hx hb hr (fun t ht hW => ⟨⟨_, (), rfl, Or.inl ⟨r, h14, g2 h14, ⟨h24, h34⟩, rfl⟩, trivial⟩, hS.F ht⟩) hS.2.2 dT_findBoth_38
  exact lp _ r1 ls _ _ (tm_nx_first hr1) hr1.2.2.2 (by have := hr1.2.1; omega) hP hS (Nat.lt_succ_self _) (lv_sub hl [0, 1, 2, 3] rfl)
set_option maxHeartbeats 4000000 in
set_option maxRecDepth 100000 in
/-- c_isNameAbove -/
theorem c_isNameAbove (l : Launch) (D : va_G) (a : Nat → Nat) (kI kL kZ : ClassId) (u : sU) (d d2 : Nat) (hd : d < 160) (hd2 : d2 < 160) : Met l yS_isNameAbove (wS_isNameAbove :: wA) ({ frames := 3, cells := 0, slots := 0, locals := 65 }) (va_Pc [.ref (a 0), .int (nI d), .int (nI d2)] (tq_rB D vwA (sW a kI kL kZ u) (sT kI kL kZ))) (va_Qi (fun r (_ : Unit) => r = bI (s_na u d d2)) (fun _ _ => True) (fun _ => False)) 0 0 (fun _ => False) := by
  refine Met.ofW (cc := bS_isNameAbove) (maxL := 3) (ret := (some .boolean)) (by decide +kernel) rfl ?_
  intro p e s m args below meth c s₁ B1 hml hv
  obtain ⟨rfl, hP, hK⟩ := hv
  have hx := B1.exec
  have hb := B1.bytes
  have hr := B1.returns
  have hA : ∀ w ∈ wA, w.before ([.ref (a 0), .int (nI d), .int (nI d2)] : List Value).toArray s = true := fun w h => atoms_spec (ws := wS_isNameAbove :: wA) B1.pre w (List.mem_cons_of_mem _ h)
  have hown : s.vm.findClass RcS = some m.cls := findClass_of_methodNamed B1.named
  have hlocks := B1.notSynchronized
  have hS : va_S (fun _ => False) s.heap s.heap [] := va_S.rf
  have hl := lv_entry ([.ref (a 0), .int (nI d), .int (nI d2)]) (n := 3) (Nat.le_of_ble_eq_true rfl)
  rw [lg_entry_eq]
  generalize (lg_sl ([.ref (a 0), .int (nI d), .int (nI d2)]) ++ List.replicate (3 - (lg_sl ([.ref (a 0), .int (nI d), .int (nI d2)])).length) Slot.unset).toArray = ls at hl ⊢
  have hl : lv_has ls 3 [(0, .ref (a 0)), (1, .int (nI d)), (2, .int (nI d2))] := hl
  refine tq_gen (fun R Q hRe hQe => ?_)
  have hRf : 3 ≤ R.frames := by rw [hRe]; exact Nat.le_of_ble_eq_true rfl
  have hRl : 65 ≤ R.locals := by rw [hRe]; exact Nat.le_of_ble_eq_true rfl
  have hRc : 0 ≤ R.cells := by rw [hRe]; exact Nat.le_of_ble_eq_true rfl
  have hRs : 0 ≤ R.slots := by rw [hRe]; exact Nat.le_of_ble_eq_true rfl
  refine lv_aload_n hx hb dS_isNameAbove_0 rfl (lv_at hl 0 rfl) ?_
  refine gf_S_10 (v := .ref (a 1)) hx hb hA hown hK hP 0 rfl rfl dS_isNameAbove_1 ?_
  refine lv_iload_n hx hb dS_isNameAbove_4 rfl (lv_at hl 2 rfl) ?_
  refine ks_rv ⟨hx, hb, hml, hown, hA⟩ (c_isName l D a kI kL kZ u d2 (by omega)) (kw_S_139 hA rfl rfl ⟨Nat.le_trans (Nat.le_of_ble_eq_true rfl) hRf, Nat.le_trans (Nat.le_of_ble_eq_true rfl) hRl⟩) hK hP hS 1 1 rfl rfl rfl hl.1 (Nat.le_of_ble_eq_true rfl) ⟨by omega, by omega⟩ dS_isNameAbove_5 rfl (fun H locs hP hS => ?_)
  refine tq_i (y := bI (s_nm u d2)) rfl ?_
  refine tq_bf hx hb dS_isNameAbove_8 (tgt := 27) (by decide) (fun h8 => ?_) (fun h8 => ?_)
  · have hz : s_na u d d2 = false := by unfold s_na; rw [h8]; rfl
    refine lv_iconst (v := nI 0) hx hb dS_isNameAbove_27 (by decide +kernel) ?_
    subst hQe
    exact W.zret (v := nI 0) (ty := .boolean) hx hb hr rfl (fun t ht hW => ⟨⟨_, (), rfl, by rw [hz]; rfl, trivial⟩, hS.F ht⟩) hS.2.2 dS_isNameAbove_28
  · refine lv_aload_n hx hb dS_isNameAbove_11 rfl (lv_at hl 0 rfl) ?_
    refine gf_S_28 (v := .ref (a 3)) hx hb hA hown hK hP 0 rfl rfl dS_isNameAbove_12 ?_
    refine lv_iload_n hx hb dS_isNameAbove_15 rfl (lv_at hl 1 rfl) ?_
    refine lv_iload_n hx hb dS_isNameAbove_16 rfl (lv_at hl 2 rfl) ?_
    refine ks_rv ⟨hx, hb, hml, hown, hA⟩ (c_covers l D a kI kL kZ u d d2 (by omega) (by omega)) (kw_S_75 hA rfl rfl ⟨Nat.le_trans (Nat.le_of_ble_eq_true rfl) hRf, Nat.le_trans (Nat.le_of_ble_eq_true rfl) hRl⟩) hK hP hS 3 3 rfl rfl rfl hl.1 (Nat.le_of_ble_eq_true rfl) ⟨by omega, by omega⟩ dS_isNameAbove_17 rfl (fun H locs hP hS => ?_)
    refine tq_i (y := bI (s_cv u d d2)) rfl ?_
    refine tq_bf hx hb dS_isNameAbove_20 (tgt := 27) (by decide) (fun h20 => ?_) (fun h20 => ?_)
    · have hz : s_na u d d2 = false := by unfold s_na; rw [h8, h20]; rfl
      refine lv_iconst (v := nI 0) hx hb dS_isNameAbove_27 (by decide +kernel) ?_
      subst hQe
      exact W.zret (v := nI 0) (ty := .boolean) hx hb hr rfl (fun t ht hW => ⟨⟨_, (), rfl, by rw [hz]; rfl, trivial⟩, hS.F ht⟩) hS.2.2 dS_isNameAbove_28
    · have hz : s_na u d d2 = true := by unfold s_na; rw [h8, h20]; rfl
      refine lv_iconst (v := nI 1) hx hb dS_isNameAbove_23 (by decide +kernel) ?_
      refine lv_goto hx hb dS_isNameAbove_24 (tgt := 28) (by decide) ?_
      subst hQe
      exact W.zret (v := nI 1) (ty := .boolean) hx hb hr rfl (fun t ht hW => ⟨⟨_, (), rfl, by rw [hz]; rfl, trivial⟩, hS.F ht⟩) hS.2.2 dS_isNameAbove_28
set_option maxHeartbeats 4000000 in
set_option maxRecDepth 100000 in
/-- c_isNameAboveBoth -/
theorem c_isNameAboveBoth (l : Launch) (D : va_G) (a : Nat → Nat) (kI kL kZ : ClassId) (u : sU) (d d2 d3 : Nat) (hd : d < 160) (hd2 : d2 < 160) (hd3 : d3 < 160) : Met l yS_isNameAboveBoth (wS_isNameAboveBoth :: wA) ({ frames := 4, cells := 0, slots := 0, locals := 87 }) (va_Pc [.ref (a 0), .int (nI d), .int (nI d2), .int (nI d3)] (tq_rB D vwA (sW a kI kL kZ u) (sT kI kL kZ))) (va_Qi (fun r (_ : Unit) => r = bI (s_nb u d d2 d3)) (fun _ _ => True) (fun _ => False)) 0 0 (fun _ => False) := by
  refine Met.ofW (cc := bS_isNameAboveBoth) (maxL := 4) (ret := (some .boolean)) (by decide +kernel) rfl ?_
  intro p e s m args below meth c s₁ B1 hml hv
  obtain ⟨rfl, hP, hK⟩ := hv
  have hx := B1.exec
  have hb := B1.bytes
  have hr := B1.returns
  have hA : ∀ w ∈ wA, w.before ([.ref (a 0), .int (nI d), .int (nI d2), .int (nI d3)] : List Value).toArray s = true := fun w h => atoms_spec (ws := wS_isNameAboveBoth :: wA) B1.pre w (List.mem_cons_of_mem _ h)
  have hown : s.vm.findClass RcS = some m.cls := findClass_of_methodNamed B1.named
  have hlocks := B1.notSynchronized
  have hS : va_S (fun _ => False) s.heap s.heap [] := va_S.rf
  have hl := lv_entry ([.ref (a 0), .int (nI d), .int (nI d2), .int (nI d3)]) (n := 4) (Nat.le_of_ble_eq_true rfl)
  rw [lg_entry_eq]
  generalize (lg_sl ([.ref (a 0), .int (nI d), .int (nI d2), .int (nI d3)]) ++ List.replicate (4 - (lg_sl ([.ref (a 0), .int (nI d), .int (nI d2), .int (nI d3)])).length) Slot.unset).toArray = ls at hl ⊢
  have hl : lv_has ls 4 [(0, .ref (a 0)), (1, .int (nI d)), (2, .int (nI d2)), (3, .int (nI d3))] := hl
  refine tq_gen (fun R Q hRe hQe => ?_)
  have hRf : 4 ≤ R.frames := by rw [hRe]; exact Nat.le_of_ble_eq_true rfl
  have hRl : 87 ≤ R.locals := by rw [hRe]; exact Nat.le_of_ble_eq_true rfl
  have hRc : 0 ≤ R.cells := by rw [hRe]; exact Nat.le_of_ble_eq_true rfl
  have hRs : 0 ≤ R.slots := by rw [hRe]; exact Nat.le_of_ble_eq_true rfl
  refine lv_aload_n hx hb dS_isNameAboveBoth_0 rfl (lv_at hl 0 rfl) ?_
  refine lv_iload_n hx hb dS_isNameAboveBoth_1 rfl (lv_at hl 1 rfl) ?_
  refine lv_iload_n hx hb dS_isNameAboveBoth_2 rfl (lv_at hl 3 rfl) ?_
  refine ks_rv ⟨hx, hb, hml, hown, hA⟩ (c_isNameAbove l D a kI kL kZ u d d3 (by omega) (by omega)) (kw_S_83 hA rfl rfl ⟨Nat.le_trans (Nat.le_of_ble_eq_true rfl) hRf, Nat.le_trans (Nat.le_of_ble_eq_true rfl) hRl⟩) hK hP hS 0 4 rfl rfl rfl hl.1 (Nat.le_of_ble_eq_true rfl) ⟨by omega, by omega⟩ dS_isNameAboveBoth_3 rfl (fun H locs hP hS => ?_)
  refine tq_bf hx hb dS_isNameAboveBoth_6 (tgt := 25) (by decide) (fun h6 => ?_) (fun h6 => ?_)
  · have hz : s_nb u d d2 d3 = false := by unfold s_nb; rw [h6]; rfl
    refine lv_iconst (v := nI 0) hx hb dS_isNameAboveBoth_25 (by decide +kernel) ?_
    subst hQe
    exact W.zret (v := nI 0) (ty := .boolean) hx hb hr rfl (fun t ht hW => ⟨⟨_, (), rfl, by rw [hz]; rfl, trivial⟩, hS.F ht⟩) hS.2.2 dS_isNameAboveBoth_26
  · refine lv_aload_n hx hb dS_isNameAboveBoth_9 rfl (lv_at hl 0 rfl) ?_
    refine gf_S_28 (v := .ref (a 3)) hx hb hA hown hK hP 0 rfl rfl dS_isNameAboveBoth_10 ?_
    refine lv_iload_n hx hb dS_isNameAboveBoth_13 rfl (lv_at hl 2 rfl) ?_
    refine lv_iload_n hx hb dS_isNameAboveBoth_14 rfl (lv_at hl 3 rfl) ?_
    refine ks_rv ⟨hx, hb, hml, hown, hA⟩ (c_covers l D a kI kL kZ u d2 d3 (by omega) (by omega)) (kw_S_75 hA rfl rfl ⟨Nat.le_trans (Nat.le_of_ble_eq_true rfl) hRf, Nat.le_trans (Nat.le_of_ble_eq_true rfl) hRl⟩) hK hP hS 3 3 rfl rfl rfl hl.1 (Nat.le_of_ble_eq_true rfl) ⟨by omega, by omega⟩ dS_isNameAboveBoth_15 rfl (fun H locs hP hS => ?_)
    refine tq_i (y := bI (s_cv u d2 d3)) rfl ?_
    refine tq_bf hx hb dS_isNameAboveBoth_18 (tgt := 25) (by decide) (fun h18 => ?_) (fun h18 => ?_)
    · have hz : s_nb u d d2 d3 = false := by unfold s_nb; rw [h6, h18]; rfl
      refine lv_iconst (v := nI 0) hx hb dS_isNameAboveBoth_25 (by decide +kernel) ?_
      subst hQe
      exact W.zret (v := nI 0) (ty := .boolean) hx hb hr rfl (fun t ht hW => ⟨⟨_, (), rfl, by rw [hz]; rfl, trivial⟩, hS.F ht⟩) hS.2.2 dS_isNameAboveBoth_26
    · have hz : s_nb u d d2 d3 = true := by unfold s_nb; rw [h6, h18]; rfl
      refine lv_iconst (v := nI 1) hx hb dS_isNameAboveBoth_21 (by decide +kernel) ?_
      refine lv_goto hx hb dS_isNameAboveBoth_22 (tgt := 26) (by decide) ?_
      subst hQe
      exact W.zret (v := nI 1) (ty := .boolean) hx hb hr rfl (fun t ht hW => ⟨⟨_, (), rfl, by rw [hz]; rfl, trivial⟩, hS.F ht⟩) hS.2.2 dS_isNameAboveBoth_26
set_option maxHeartbeats 4000000 in
set_option maxRecDepth 100000 in
/-- c_isStrictlyBelow -/
theorem c_isStrictlyBelow (l : Launch) (D : va_G) (a : Nat → Nat) (kI kL kZ : ClassId) (u : sU) (d d2 : Nat) (hd : d < 160) (hd2 : d2 < 160) : Met l yS_isStrictlyBelow (wS_isStrictlyBelow :: wA) ({ frames := 3, cells := 0, slots := 0, locals := 65 }) (va_Pc [.ref (a 0), .int (nI d), .int (nI d2)] (tq_rB D vwA (sW a kI kL kZ u) (sT kI kL kZ))) (va_Qi (fun r (_ : Unit) => r = bI (s_sb u d d2)) (fun _ _ => True) (fun _ => False)) 0 0 (fun _ => False) := by
  refine Met.ofW (cc := bS_isStrictlyBelow) (maxL := 3) (ret := (some .boolean)) (by decide +kernel) rfl ?_
  intro p e s m args below meth c s₁ B1 hml hv
  obtain ⟨rfl, hP, hK⟩ := hv
  have hx := B1.exec
  have hb := B1.bytes
  have hr := B1.returns
  have hA : ∀ w ∈ wA, w.before ([.ref (a 0), .int (nI d), .int (nI d2)] : List Value).toArray s = true := fun w h => atoms_spec (ws := wS_isStrictlyBelow :: wA) B1.pre w (List.mem_cons_of_mem _ h)
  have hown : s.vm.findClass RcS = some m.cls := findClass_of_methodNamed B1.named
  have hlocks := B1.notSynchronized
  have hS : va_S (fun _ => False) s.heap s.heap [] := va_S.rf
  have hl := lv_entry ([.ref (a 0), .int (nI d), .int (nI d2)]) (n := 3) (Nat.le_of_ble_eq_true rfl)
  rw [lg_entry_eq]
  generalize (lg_sl ([.ref (a 0), .int (nI d), .int (nI d2)]) ++ List.replicate (3 - (lg_sl ([.ref (a 0), .int (nI d), .int (nI d2)])).length) Slot.unset).toArray = ls at hl ⊢
  have hl : lv_has ls 3 [(0, .ref (a 0)), (1, .int (nI d)), (2, .int (nI d2))] := hl
  refine tq_gen (fun R Q hRe hQe => ?_)
  have hRf : 3 ≤ R.frames := by rw [hRe]; exact Nat.le_of_ble_eq_true rfl
  have hRl : 65 ≤ R.locals := by rw [hRe]; exact Nat.le_of_ble_eq_true rfl
  have hRc : 0 ≤ R.cells := by rw [hRe]; exact Nat.le_of_ble_eq_true rfl
  have hRs : 0 ≤ R.slots := by rw [hRe]; exact Nat.le_of_ble_eq_true rfl
  refine lv_aload_n hx hb dS_isStrictlyBelow_0 rfl (lv_at hl 0 rfl) ?_
  refine gf_S_28 (v := .ref (a 3)) hx hb hA hown hK hP 0 rfl rfl dS_isStrictlyBelow_1 ?_
  refine lv_iload_n hx hb dS_isStrictlyBelow_4 rfl (lv_at hl 1 rfl) ?_
  refine lv_iload_n hx hb dS_isStrictlyBelow_5 rfl (lv_at hl 2 rfl) ?_
  refine ks_rv ⟨hx, hb, hml, hown, hA⟩ (c_covers l D a kI kL kZ u d d2 (by omega) (by omega)) (kw_S_75 hA rfl rfl ⟨Nat.le_trans (Nat.le_of_ble_eq_true rfl) hRf, Nat.le_trans (Nat.le_of_ble_eq_true rfl) hRl⟩) hK hP hS 3 3 rfl rfl rfl hl.1 (Nat.le_of_ble_eq_true rfl) ⟨by omega, by omega⟩ dS_isStrictlyBelow_6 rfl (fun H locs hP hS => ?_)
  refine tq_i (y := bI (s_cv u d d2)) rfl ?_
  refine tq_bf hx hb dS_isStrictlyBelow_9 (tgt := 28) (by decide) (fun h9 => ?_) (fun h9 => ?_)
  · have hz : s_sb u d d2 = false := by unfold s_sb; rw [h9]; rfl
    refine lv_iconst (v := nI 0) hx hb dS_isStrictlyBelow_28 (by decide +kernel) ?_
    subst hQe
    exact W.zret (v := nI 0) (ty := .boolean) hx hb hr rfl (fun t ht hW => ⟨⟨_, (), rfl, by rw [hz]; rfl, trivial⟩, hS.F ht⟩) hS.2.2 dS_isStrictlyBelow_29
  · refine lv_aload_n hx hb dS_isStrictlyBelow_12 rfl (lv_at hl 0 rfl) ?_
    refine gf_S_28 (v := .ref (a 3)) hx hb hA hown hK hP 0 rfl rfl dS_isStrictlyBelow_13 ?_
    refine lv_iload_n hx hb dS_isStrictlyBelow_16 rfl (lv_at hl 2 rfl) ?_
    refine lv_iload_n hx hb dS_isStrictlyBelow_17 rfl (lv_at hl 1 rfl) ?_
    refine ks_rv ⟨hx, hb, hml, hown, hA⟩ (c_covers l D a kI kL kZ u d2 d (by omega) (by omega)) (kw_S_75 hA rfl rfl ⟨Nat.le_trans (Nat.le_of_ble_eq_true rfl) hRf, Nat.le_trans (Nat.le_of_ble_eq_true rfl) hRl⟩) hK hP hS 3 3 rfl rfl rfl hl.1 (Nat.le_of_ble_eq_true rfl) ⟨by omega, by omega⟩ dS_isStrictlyBelow_18 rfl (fun H locs hP hS => ?_)
    refine tq_i (y := bI (s_cv u d2 d)) rfl ?_
    refine tq_bt hx hb dS_isStrictlyBelow_21 (tgt := 28) (by decide) (fun h21 => ?_) (fun h21 => ?_)
    · have hz : s_sb u d d2 = false := by unfold s_sb; rw [h9, h21]; rfl
      refine lv_iconst (v := nI 0) hx hb dS_isStrictlyBelow_28 (by decide +kernel) ?_
      subst hQe
      exact W.zret (v := nI 0) (ty := .boolean) hx hb hr rfl (fun t ht hW => ⟨⟨_, (), rfl, by rw [hz]; rfl, trivial⟩, hS.F ht⟩) hS.2.2 dS_isStrictlyBelow_29
    · have hz : s_sb u d d2 = true := by unfold s_sb; rw [h9, h21]; rfl
      refine lv_iconst (v := nI 1) hx hb dS_isStrictlyBelow_24 (by decide +kernel) ?_
      refine lv_goto hx hb dS_isStrictlyBelow_25 (tgt := 29) (by decide) ?_
      subst hQe
      exact W.zret (v := nI 1) (ty := .boolean) hx hb hr rfl (fun t ht hW => ⟨⟨_, (), rfl, by rw [hz]; rfl, trivial⟩, hS.F ht⟩) hS.2.2 dS_isStrictlyBelow_29
set_option maxHeartbeats 4000000 in
set_option maxRecDepth 100000 in
/-- c_isLowestAboveBoth -/
theorem c_isLowestAboveBoth (l : Launch) (D : va_G) (a : Nat → Nat) (kI kL kZ : ClassId) (u : sU) (d d2 d3 : Nat) (hd : d < 160) (hd2 : d2 < 160) (hd3 : d3 < 160) (hN : u.2.2 0 ≤ 160) : Met l yS_isLowestAboveBoth (wS_isLowestAboveBoth :: wA) ({ frames := 5, cells := 0, slots := 0, locals := 110 }) (va_Pc [.ref (a 0), .int (nI d), .int (nI d2), .int (nI d3)] (tq_rB D vwA (sW a kI kL kZ u) (sT kI kL kZ))) (va_Qi (fun r (_ : Unit) => r = bI (s_lo u d d2 d3)) (fun _ _ => True) (fun _ => False)) 0 0 (fun _ => False) := by
  refine Met.ofW (cc := bS_isLowestAboveBoth) (maxL := 5) (ret := (some .boolean)) (by decide +kernel) rfl ?_
  intro p e s m args below meth c s₁ B1 hml hv
  obtain ⟨rfl, hP, hK⟩ := hv
  have hx := B1.exec
  have hb := B1.bytes
  have hr := B1.returns
  have hA : ∀ w ∈ wA, w.before ([.ref (a 0), .int (nI d), .int (nI d2), .int (nI d3)] : List Value).toArray s = true := fun w h => atoms_spec (ws := wS_isLowestAboveBoth :: wA) B1.pre w (List.mem_cons_of_mem _ h)
  have hown : s.vm.findClass RcS = some m.cls := findClass_of_methodNamed B1.named
  have hlocks := B1.notSynchronized
  have hS : va_S (fun _ => False) s.heap s.heap [] := va_S.rf
  have hl := lv_entry ([.ref (a 0), .int (nI d), .int (nI d2), .int (nI d3)]) (n := 5) (Nat.le_of_ble_eq_true rfl)
  rw [lg_entry_eq]
  generalize (lg_sl ([.ref (a 0), .int (nI d), .int (nI d2), .int (nI d3)]) ++ List.replicate (5 - (lg_sl ([.ref (a 0), .int (nI d), .int (nI d2), .int (nI d3)])).length) Slot.unset).toArray = ls at hl ⊢
  have hl : lv_has ls 5 [(0, .ref (a 0)), (1, .int (nI d)), (2, .int (nI d2)), (3, .int (nI d3))] := hl
  refine tq_gen (fun R Q hRe hQe => ?_)
  have hRf : 5 ≤ R.frames := by rw [hRe]; exact Nat.le_of_ble_eq_true rfl
  have hRl : 110 ≤ R.locals := by rw [hRe]; exact Nat.le_of_ble_eq_true rfl
  have hRc : 0 ≤ R.cells := by rw [hRe]; exact Nat.le_of_ble_eq_true rfl
  have hRs : 0 ≤ R.slots := by rw [hRe]; exact Nat.le_of_ble_eq_true rfl
  refine lv_iconst (v := nI 0) hx hb dS_isLowestAboveBoth_0 (by decide +kernel) ?_
  refine lv_istore (lv' := [(4, .int (nI 0)), (0, .ref (a 0)), (1, .int (nI d)), (2, .int (nI d2)), (3, .int (nI d3))]) hx hb dS_isLowestAboveBoth_1 hl (by decide) rfl (fun ls hl => ?_)
  have lp : ∀ (fu : Nat) (n : Nat) (ls : Array Slot) (H : Heap) (locs : List Loc), (∀ b, b < n → (s_nb u d d2 b = true → s_cv u b d3 = true → ¬ b < d3 ∧ s_cv u d3 b = true)) → n ≤ u.2.2 0 → va_P D vwA (sW a kI kL kZ u) H → va_S (fun _ => False) s.heap H locs → u.2.2 0 - n < fu → lv_has ls 5 [(4, .int (nI n)), (0, .ref (a 0)), (1, .int (nI d)), (2, .int (nI d2)), (3, .int (nI d3))] → W p l e R s m ([.ref (a 0), .int (nI d), .int (nI d2), .int (nI d3)] : List Value).toArray below meth c H locs 0 0 Q (F0 m 3 ls []) := by
    intro fu
    induction fu with
    | zero => intros; omega
    | succ fu ih3 =>
      intro n ls H locs g1 g2 hP hS hfu hl
      refine lv_iload hx hb dS_isLowestAboveBoth_3 (lv_at hl 0 rfl) ?_
      refine lv_aload_n hx hb dS_isLowestAboveBoth_5 rfl (lv_at hl 1 rfl) ?_
      refine gf_S_10 (v := .ref (a 1)) hx hb hA hown hK hP 0 rfl rfl dS_isLowestAboveBoth_6 ?_
      refine ks_rv ⟨hx, hb, hml, hown, hA⟩ (c_size l D a kI kL kZ u  ) (kw_S_79 hA rfl rfl ⟨Nat.le_trans (Nat.le_of_ble_eq_true rfl) hRf, Nat.le_trans (Nat.le_of_ble_eq_true rfl) hRl⟩) hK hP hS 1 1 rfl rfl rfl hl.1 (Nat.le_of_ble_eq_true rfl) ⟨by omega, by omega⟩ dS_isLowestAboveBoth_9 rfl (fun H locs hP hS => ?_)
      refine tq_ge hx hb dS_isLowestAboveBoth_12 (tgt := 66) (by decide) (by omega) (by omega) (fun h12 => ?_) (fun h12 => ?_)
      · refine lv_iconst (v := nI 1) hx hb dS_isLowestAboveBoth_66 (by decide +kernel) ?_
        subst hQe
        exact W.zret (v := nI 1) (ty := .boolean) hx hb hr rfl (fun t ht hW => ⟨⟨_, (), rfl, by rw [s_lo_t (fun b z => g1 b (by omega))]; rfl, trivial⟩, hS.F ht⟩) hS.2.2 dS_isLowestAboveBoth_67
      · refine lv_aload_n hx hb dS_isLowestAboveBoth_15 rfl (lv_at hl 1 rfl) ?_
        refine lv_iload_n hx hb dS_isLowestAboveBoth_16 rfl (lv_at hl 2 rfl) ?_
        refine lv_iload_n hx hb dS_isLowestAboveBoth_17 rfl (lv_at hl 3 rfl) ?_
        refine lv_iload hx hb dS_isLowestAboveBoth_18 (lv_at hl 0 rfl) ?_
        refine ks_rv ⟨hx, hb, hml, hown, hA⟩ (c_isNameAboveBoth l D a kI kL kZ u d d2 n (by omega) (by omega) (by omega)) (kw_S_96 hA rfl rfl ⟨Nat.le_trans (Nat.le_of_ble_eq_true rfl) hRf, Nat.le_trans (Nat.le_of_ble_eq_true rfl) hRl⟩) hK hP hS 0 4 rfl rfl rfl hl.1 (Nat.le_of_ble_eq_true rfl) ⟨by omega, by omega⟩ dS_isLowestAboveBoth_20 rfl (fun H locs hP hS => ?_)
        refine tq_bf hx hb dS_isLowestAboveBoth_23 (tgt := 60) (by decide) (fun h23 => ?_) (fun h23 => ?_)
        · have hno : (fun b => (s_nb u d d2 b = true → s_cv u b d3 = true → ¬ b < d3 ∧ s_cv u d3 b = true)) n := fun z => absurd z (by rw [h23]; decide)
          refine lv_iinc (k := 0) (lv' := [(4, .int (nI (n + 1))), (0, .ref (a 0)), (1, .int (nI d)), (2, .int (nI d2)), (3, .int (nI d3))]) hx hb dS_isLowestAboveBoth_60 hl rfl (nI_1 _) (by decide) rfl (fun ls hl => ?_)
          refine lv_goto hx hb dS_isLowestAboveBoth_63 (tgt := 3) (by decide) ?_
          exact ih3 (n + 1) ls H locs (lt_s (p := fun b => (s_nb u d d2 b = true → s_cv u b d3 = true → ¬ b < d3 ∧ s_cv u d3 b = true)) g1 hno) (by omega) hP hS (by omega) (lv_sub hl [0, 1, 2, 3, 4] rfl)
        · refine lv_aload_n hx hb dS_isLowestAboveBoth_26 rfl (lv_at hl 1 rfl) ?_
          refine gf_S_28 (v := .ref (a 3)) hx hb hA hown hK hP 0 rfl rfl dS_isLowestAboveBoth_27 ?_
          refine lv_iload hx hb dS_isLowestAboveBoth_30 (lv_at hl 0 rfl) ?_
          refine lv_iload_n hx hb dS_isLowestAboveBoth_32 rfl (lv_at hl 4 rfl) ?_
          refine ks_rv ⟨hx, hb, hml, hown, hA⟩ (c_covers l D a kI kL kZ u n d3 (by omega) (by omega)) (kw_S_75 hA rfl rfl ⟨Nat.le_trans (Nat.le_of_ble_eq_true rfl) hRf, Nat.le_trans (Nat.le_of_ble_eq_true rfl) hRl⟩) hK hP hS 3 3 rfl rfl rfl hl.1 (Nat.le_of_ble_eq_true rfl) ⟨by omega, by omega⟩ dS_isLowestAboveBoth_33 rfl (fun H locs hP hS => ?_)
          refine tq_i (y := bI (s_cv u n d3)) rfl ?_
          refine tq_bf hx hb dS_isLowestAboveBoth_36 (tgt := 60) (by decide) (fun h36 => ?_) (fun h36 => ?_)
          · have hno : (fun b => (s_nb u d d2 b = true → s_cv u b d3 = true → ¬ b < d3 ∧ s_cv u d3 b = true)) n := fun _ z => absurd z (by rw [h36]; decide)
            refine lv_iinc (k := 0) (lv' := [(4, .int (nI (n + 1))), (0, .ref (a 0)), (1, .int (nI d)), (2, .int (nI d2)), (3, .int (nI d3))]) hx hb dS_isLowestAboveBoth_60 hl rfl (nI_1 _) (by decide) rfl (fun ls hl => ?_)
            refine lv_goto hx hb dS_isLowestAboveBoth_63 (tgt := 3) (by decide) ?_
            exact ih3 (n + 1) ls H locs (lt_s (p := fun b => (s_nb u d d2 b = true → s_cv u b d3 = true → ¬ b < d3 ∧ s_cv u d3 b = true)) g1 hno) (by omega) hP hS (by omega) (lv_sub hl [0, 1, 2, 3, 4] rfl)
          · refine lv_iload hx hb dS_isLowestAboveBoth_39 (lv_at hl 0 rfl) ?_
            refine lv_iload_n hx hb dS_isLowestAboveBoth_41 rfl (lv_at hl 4 rfl) ?_
            refine tq_lt hx hb dS_isLowestAboveBoth_42 (tgt := 58) (by decide) (by omega) (by omega) (fun h42 => ?_) (fun h42 => ?_)
            · have hz : s_lo u d d2 d3 = false := s_lo_f (by omega) h23 h36 (Or.inl h42)
              refine lv_iconst (v := nI 0) hx hb dS_isLowestAboveBoth_58 (by decide +kernel) ?_
              subst hQe
              exact W.zret (v := nI 0) (ty := .boolean) hx hb hr rfl (fun t ht hW => ⟨⟨_, (), rfl, by rw [hz]; rfl, trivial⟩, hS.F ht⟩) hS.2.2 dS_isLowestAboveBoth_59
            · refine lv_aload_n hx hb dS_isLowestAboveBoth_45 rfl (lv_at hl 1 rfl) ?_
              refine gf_S_28 (v := .ref (a 3)) hx hb hA hown hK hP 0 rfl rfl dS_isLowestAboveBoth_46 ?_
              refine lv_iload_n hx hb dS_isLowestAboveBoth_49 rfl (lv_at hl 4 rfl) ?_
              refine lv_iload hx hb dS_isLowestAboveBoth_50 (lv_at hl 0 rfl) ?_
              refine ks_rv ⟨hx, hb, hml, hown, hA⟩ (c_covers l D a kI kL kZ u d3 n (by omega) (by omega)) (kw_S_75 hA rfl rfl ⟨Nat.le_trans (Nat.le_of_ble_eq_true rfl) hRf, Nat.le_trans (Nat.le_of_ble_eq_true rfl) hRl⟩) hK hP hS 3 3 rfl rfl rfl hl.1 (Nat.le_of_ble_eq_true rfl) ⟨by omega, by omega⟩ dS_isLowestAboveBoth_52 rfl (fun H locs hP hS => ?_)
              refine tq_i (y := bI (s_cv u d3 n)) rfl ?_
              refine tq_bt hx hb dS_isLowestAboveBoth_55 (tgt := 60) (by decide) (fun h55 => ?_) (fun h55 => ?_)
              · have hno : (fun b => (s_nb u d d2 b = true → s_cv u b d3 = true → ¬ b < d3 ∧ s_cv u d3 b = true)) n := fun _ _ => ⟨by omega, h55⟩
                refine lv_iinc (k := 0) (lv' := [(4, .int (nI (n + 1))), (0, .ref (a 0)), (1, .int (nI d)), (2, .int (nI d2)), (3, .int (nI d3))]) hx hb dS_isLowestAboveBoth_60 hl rfl (nI_1 _) (by decide) rfl (fun ls hl => ?_)
                refine lv_goto hx hb dS_isLowestAboveBoth_63 (tgt := 3) (by decide) ?_
                exact ih3 (n + 1) ls H locs (lt_s (p := fun b => (s_nb u d d2 b = true → s_cv u b d3 = true → ¬ b < d3 ∧ s_cv u d3 b = true)) g1 hno) (by omega) hP hS (by omega) (lv_sub hl [0, 1, 2, 3, 4] rfl)
              · have hz : s_lo u d d2 d3 = false := s_lo_f (by omega) h23 h36 (Or.inr h55)
                refine lv_iconst (v := nI 0) hx hb dS_isLowestAboveBoth_58 (by decide +kernel) ?_
                subst hQe
                exact W.zret (v := nI 0) (ty := .boolean) hx hb hr rfl (fun t ht hW => ⟨⟨_, (), rfl, by rw [hz]; rfl, trivial⟩, hS.F ht⟩) hS.2.2 dS_isLowestAboveBoth_59
  exact lp _ 0 ls _ _ (fun b z => absurd z (Nat.not_lt_zero b)) (by omega) hP hS (Nat.lt_succ_self _) (lv_sub hl [0, 1, 2, 3, 4] rfl)
set_option maxHeartbeats 4000000 in
set_option maxRecDepth 100000 in
/-- c_leastEqual -/
theorem c_leastEqual (l : Launch) (D : va_G) (a : Nat → Nat) (kI kL kZ : ClassId) (u : sU) (d : Nat) (hd : d < 160) : Met l yS_leastEqual (wS_leastEqual :: wA) ({ frames := 3, cells := 0, slots := 0, locals := 65 }) (va_Pc [.ref (a 0), .int (nI d)] (tq_rB D vwA (sW a kI kL kZ u) (sT kI kL kZ))) (va_Qi (fun r (_ : Unit) => r = nI (s_le u d)) (fun _ _ => True) (fun _ => False)) 0 0 (fun _ => False) := by
  refine Met.ofW (cc := bS_leastEqual) (maxL := 3) (ret := (some .int)) (by decide +kernel) rfl ?_
  intro p e s m args below meth c s₁ B1 hml hv
  obtain ⟨rfl, hP, hK⟩ := hv
  have hx := B1.exec
  have hb := B1.bytes
  have hr := B1.returns
  have hA : ∀ w ∈ wA, w.before ([.ref (a 0), .int (nI d)] : List Value).toArray s = true := fun w h => atoms_spec (ws := wS_leastEqual :: wA) B1.pre w (List.mem_cons_of_mem _ h)
  have hown : s.vm.findClass RcS = some m.cls := findClass_of_methodNamed B1.named
  have hlocks := B1.notSynchronized
  have hS : va_S (fun _ => False) s.heap s.heap [] := va_S.rf
  have hl := lv_entry ([.ref (a 0), .int (nI d)]) (n := 3) (Nat.le_of_ble_eq_true rfl)
  rw [lg_entry_eq]
  generalize (lg_sl ([.ref (a 0), .int (nI d)]) ++ List.replicate (3 - (lg_sl ([.ref (a 0), .int (nI d)])).length) Slot.unset).toArray = ls at hl ⊢
  have hl : lv_has ls 3 [(0, .ref (a 0)), (1, .int (nI d))] := hl
  refine tq_gen (fun R Q hRe hQe => ?_)
  have hRf : 3 ≤ R.frames := by rw [hRe]; exact Nat.le_of_ble_eq_true rfl
  have hRl : 65 ≤ R.locals := by rw [hRe]; exact Nat.le_of_ble_eq_true rfl
  have hRc : 0 ≤ R.cells := by rw [hRe]; exact Nat.le_of_ble_eq_true rfl
  have hRs : 0 ≤ R.slots := by rw [hRe]; exact Nat.le_of_ble_eq_true rfl
  refine lv_iconst (v := nI 0) hx hb dS_leastEqual_0 (by decide +kernel) ?_
  refine lv_istore_n (lv' := [(2, .int (nI 0)), (0, .ref (a 0)), (1, .int (nI d))]) hx hb dS_leastEqual_1 rfl hl (by decide) rfl (fun ls hl => ?_)
  have lp : ∀ (fu : Nat) (n : Nat) (ls : Array Slot) (H : Heap) (locs : List Loc), (∀ b, b < n → ¬ (s_cv u d b = true ∧ s_cv u b d = true)) → n ≤ d → va_P D vwA (sW a kI kL kZ u) H → va_S (fun _ => False) s.heap H locs → d - n < fu → lv_has ls 3 [(2, .int (nI n)), (0, .ref (a 0)), (1, .int (nI d))] → W p l e R s m ([.ref (a 0), .int (nI d)] : List Value).toArray below meth c H locs 0 0 Q (F0 m 2 ls []) := by
    intro fu
    induction fu with
    | zero => intros; omega
    | succ fu ih2 =>
      intro n ls H locs g1 g2 hP hS hfu hl
      refine lv_iload_n hx hb dS_leastEqual_2 rfl (lv_at hl 0 rfl) ?_
      refine lv_iload_n hx hb dS_leastEqual_3 rfl (lv_at hl 2 rfl) ?_
      refine tq_ge hx hb dS_leastEqual_4 (tgt := 39) (by decide) (by omega) (by omega) (fun h4 => ?_) (fun h4 => ?_)
      · refine lv_iload_n hx hb dS_leastEqual_39 rfl (lv_at hl 2 rfl) ?_
        subst hQe
        exact W.iret (v := nI d) hx hb hr (fun t ht hW => ⟨⟨_, (), rfl, by rw [s_le_of (k := d) (fun b z => g1 b (by omega)) (by omega) (Or.inl rfl)], trivial⟩, hS.F ht⟩) hS.2.2 dS_leastEqual_40
      · refine lv_aload_n hx hb dS_leastEqual_7 rfl (lv_at hl 1 rfl) ?_
        refine gf_S_28 (v := .ref (a 3)) hx hb hA hown hK hP 0 rfl rfl dS_leastEqual_8 ?_
        refine lv_iload_n hx hb dS_leastEqual_11 rfl (lv_at hl 2 rfl) ?_
        refine lv_iload_n hx hb dS_leastEqual_12 rfl (lv_at hl 0 rfl) ?_
        refine ks_rv ⟨hx, hb, hml, hown, hA⟩ (c_covers l D a kI kL kZ u d n (by omega) (by omega)) (kw_S_75 hA rfl rfl ⟨Nat.le_trans (Nat.le_of_ble_eq_true rfl) hRf, Nat.le_trans (Nat.le_of_ble_eq_true rfl) hRl⟩) hK hP hS 3 3 rfl rfl rfl hl.1 (Nat.le_of_ble_eq_true rfl) ⟨by omega, by omega⟩ dS_leastEqual_13 rfl (fun H locs hP hS => ?_)
        refine tq_i (y := bI (s_cv u d n)) rfl ?_
        refine tq_bf hx hb dS_leastEqual_16 (tgt := 33) (by decide) (fun h16 => ?_) (fun h16 => ?_)
        · have hno : (fun b => ¬ (s_cv u d b = true ∧ s_cv u b d = true)) n := fun z => absurd z.1 (by rw [h16]; decide)
          refine lv_iinc (k := 0) (lv' := [(2, .int (nI (n + 1))), (0, .ref (a 0)), (1, .int (nI d))]) hx hb dS_leastEqual_33 hl rfl (nI_1 _) (by decide) rfl (fun ls hl => ?_)
          refine lv_goto hx hb dS_leastEqual_36 (tgt := 2) (by decide) ?_
          exact ih2 (n + 1) ls H locs (lt_s (p := fun b => ¬ (s_cv u d b = true ∧ s_cv u b d = true)) g1 hno) (by omega) hP hS (by omega) (lv_sub hl [0, 1, 2] rfl)
        · refine lv_aload_n hx hb dS_leastEqual_19 rfl (lv_at hl 1 rfl) ?_
          refine gf_S_28 (v := .ref (a 3)) hx hb hA hown hK hP 0 rfl rfl dS_leastEqual_20 ?_
          refine lv_iload_n hx hb dS_leastEqual_23 rfl (lv_at hl 0 rfl) ?_
          refine lv_iload_n hx hb dS_leastEqual_24 rfl (lv_at hl 2 rfl) ?_
          refine ks_rv ⟨hx, hb, hml, hown, hA⟩ (c_covers l D a kI kL kZ u n d (by omega) (by omega)) (kw_S_75 hA rfl rfl ⟨Nat.le_trans (Nat.le_of_ble_eq_true rfl) hRf, Nat.le_trans (Nat.le_of_ble_eq_true rfl) hRl⟩) hK hP hS 3 3 rfl rfl rfl hl.1 (Nat.le_of_ble_eq_true rfl) ⟨by omega, by omega⟩ dS_leastEqual_25 rfl (fun H locs hP hS => ?_)
          refine tq_i (y := bI (s_cv u n d)) rfl ?_
          refine tq_bf hx hb dS_leastEqual_28 (tgt := 33) (by decide) (fun h28 => ?_) (fun h28 => ?_)
          · have hno : (fun b => ¬ (s_cv u d b = true ∧ s_cv u b d = true)) n := fun z => absurd z.2 (by rw [h28]; decide)
            refine lv_iinc (k := 0) (lv' := [(2, .int (nI (n + 1))), (0, .ref (a 0)), (1, .int (nI d))]) hx hb dS_leastEqual_33 hl rfl (nI_1 _) (by decide) rfl (fun ls hl => ?_)
            refine lv_goto hx hb dS_leastEqual_36 (tgt := 2) (by decide) ?_
            exact ih2 (n + 1) ls H locs (lt_s (p := fun b => ¬ (s_cv u d b = true ∧ s_cv u b d = true)) g1 hno) (by omega) hP hS (by omega) (lv_sub hl [0, 1, 2] rfl)
          · refine lv_iload_n hx hb dS_leastEqual_31 rfl (lv_at hl 0 rfl) ?_
            subst hQe
            exact W.iret (v := nI n) hx hb hr (fun t ht hW => ⟨⟨_, (), rfl, by rw [s_le_of g1 (by omega) (Or.inr ⟨h16, h28⟩)], trivial⟩, hS.F ht⟩) hS.2.2 dS_leastEqual_32
  exact lp _ 0 ls _ _ (fun b z => absurd z (Nat.not_lt_zero b)) (by omega) hP hS (Nat.lt_succ_self _) (lv_sub hl [0, 1, 2] rfl)
set_option maxHeartbeats 4000000 in
set_option maxRecDepth 100000 in
/-- c_countEmpty -/
theorem c_countEmpty (l : Launch) (D : va_G) (a : Nat → Nat) (kI kL kZ : ClassId) (u : sU) (hN : u.2.2 0 ≤ 160) : Met l yS_countEmpty (wS_countEmpty :: wA) ({ frames := 2, cells := 0, slots := 0, locals := 43 }) (va_Pc [.ref (a 0)] (tq_rB D vwA (sW a kI kL kZ u) (sT kI kL kZ))) (va_Qi (fun r (_ : Unit) => r = nI (tm_cnt (fun d => u.1 0 (d * 7 + 6) 1) (u.2.2 0))) (fun _ _ => True) (fun _ => False)) 0 0 (fun _ => False) := by
  refine Met.ofW (cc := bS_countEmpty) (maxL := 3) (ret := (some .int)) (by decide +kernel) rfl ?_
  intro p e s m args below meth c s₁ B1 hml hv
  obtain ⟨rfl, hP, hK⟩ := hv
  have hx := B1.exec
  have hb := B1.bytes
  have hr := B1.returns
  have hA : ∀ w ∈ wA, w.before ([.ref (a 0)] : List Value).toArray s = true := fun w h => atoms_spec (ws := wS_countEmpty :: wA) B1.pre w (List.mem_cons_of_mem _ h)
  have hown : s.vm.findClass RcS = some m.cls := findClass_of_methodNamed B1.named
  have hlocks := B1.notSynchronized
  have hS : va_S (fun _ => False) s.heap s.heap [] := va_S.rf
  have hl := lv_entry ([.ref (a 0)]) (n := 3) (Nat.le_of_ble_eq_true rfl)
  rw [lg_entry_eq]
  generalize (lg_sl ([.ref (a 0)]) ++ List.replicate (3 - (lg_sl ([.ref (a 0)])).length) Slot.unset).toArray = ls at hl ⊢
  have hl : lv_has ls 3 [(0, .ref (a 0))] := hl
  refine tq_gen (fun R Q hRe hQe => ?_)
  have hRf : 2 ≤ R.frames := by rw [hRe]; exact Nat.le_of_ble_eq_true rfl
  have hRl : 43 ≤ R.locals := by rw [hRe]; exact Nat.le_of_ble_eq_true rfl
  have hRc : 0 ≤ R.cells := by rw [hRe]; exact Nat.le_of_ble_eq_true rfl
  have hRs : 0 ≤ R.slots := by rw [hRe]; exact Nat.le_of_ble_eq_true rfl
  refine lv_iconst (v := nI 0) hx hb dS_countEmpty_0 (by decide +kernel) ?_
  refine lv_istore_n (lv' := [(1, .int (nI 0)), (0, .ref (a 0))]) hx hb dS_countEmpty_1 rfl hl (by decide) rfl (fun ls hl => ?_)
  refine lv_iconst (v := nI 0) hx hb dS_countEmpty_2 (by decide +kernel) ?_
  refine lv_istore_n (lv' := [(2, .int (nI 0)), (1, .int (nI 0)), (0, .ref (a 0))]) hx hb dS_countEmpty_3 rfl hl (by decide) rfl (fun ls hl => ?_)
  have lp : ∀ (fu : Nat) (q n : Nat) (ls : Array Slot) (H : Heap) (locs : List Loc), q = tm_cnt (fun d => u.1 0 (d * 7 + 6) 1) n → n ≤ u.2.2 0 → va_P D vwA (sW a kI kL kZ u) H → va_S (fun _ => False) s.heap H locs → u.2.2 0 - n < fu → lv_has ls 3 [(2, .int (nI n)), (1, .int (nI q)), (0, .ref (a 0))] → W p l e R s m ([.ref (a 0)] : List Value).toArray below meth c H locs 0 0 Q (F0 m 4 ls []) := by
    intro fu
    induction fu with
    | zero => intros; omega
    | succ fu ih4 =>
      intro q n ls H locs g1 g2 hP hS hfu hl
      have hq9 := tm_cnt_le (fun d => u.1 0 (d * 7 + 6) 1) n
      refine lv_iload_n hx hb dS_countEmpty_4 rfl (lv_at hl 0 rfl) ?_
      refine lv_aload_n hx hb dS_countEmpty_5 rfl (lv_at hl 2 rfl) ?_
      refine gf_S_10 (v := .ref (a 1)) hx hb hA hown hK hP 0 rfl rfl dS_countEmpty_6 ?_
      refine ks_rv ⟨hx, hb, hml, hown, hA⟩ (c_size l D a kI kL kZ u  ) (kw_S_79 hA rfl rfl ⟨Nat.le_trans (Nat.le_of_ble_eq_true rfl) hRf, Nat.le_trans (Nat.le_of_ble_eq_true rfl) hRl⟩) hK hP hS 1 1 rfl rfl rfl hl.1 (Nat.le_of_ble_eq_true rfl) ⟨by omega, by omega⟩ dS_countEmpty_9 rfl (fun H locs hP hS => ?_)
      refine tq_ge hx hb dS_countEmpty_12 (tgt := 35) (by decide) (by omega) (by omega) (fun h12 => ?_) (fun h12 => ?_)
      · refine lv_iload_n hx hb dS_countEmpty_35 rfl (lv_at hl 1 rfl) ?_
        subst hQe
        exact W.iret (v := nI q) hx hb hr (fun t ht hW => ⟨⟨_, (), rfl, by rw [g1, show n = u.2.2 0 by omega], trivial⟩, hS.F ht⟩) hS.2.2 dS_countEmpty_36
      · refine lv_aload_n hx hb dS_countEmpty_15 rfl (lv_at hl 2 rfl) ?_
        refine gf_S_28 (v := .ref (a 3)) hx hb hA hown hK hP 0 rfl rfl dS_countEmpty_16 ?_
        refine lv_iload_n hx hb dS_countEmpty_19 rfl (lv_at hl 0 rfl) ?_
        refine ks_rv ⟨hx, hb, hml, hown, hA⟩ (c_isEmpty l D a kI kL kZ u n (by omega)) (kw_S_154 hA rfl rfl ⟨Nat.le_trans (Nat.le_of_ble_eq_true rfl) hRf, Nat.le_trans (Nat.le_of_ble_eq_true rfl) hRl⟩) hK hP hS 3 3 rfl rfl rfl hl.1 (Nat.le_of_ble_eq_true rfl) ⟨by omega, by omega⟩ dS_countEmpty_20 rfl (fun H locs hP hS => ?_)
        refine tq_bf hx hb dS_countEmpty_23 (tgt := 29) (by decide) (fun h23 => ?_) (fun h23 => ?_)
        · have hstep : q = tm_cnt (fun d => u.1 0 (d * 7 + 6) 1) (n + 1) := by rw [cnt_no (p := fun d => u.1 0 (d * 7 + 6) 1) h23]; exact g1
          refine lv_iinc (k := 0) (lv' := [(2, .int (nI (n + 1))), (1, .int (nI q)), (0, .ref (a 0))]) hx hb dS_countEmpty_29 hl rfl (nI_1 _) (by decide) rfl (fun ls hl => ?_)
          refine lv_goto hx hb dS_countEmpty_32 (tgt := 4) (by decide) ?_
          exact ih4 q (n + 1) ls H locs (hstep) (by omega) hP hS (by omega) (lv_sub hl [0, 1, 2] rfl)
        · have hstep : q + 1 = tm_cnt (fun d => u.1 0 (d * 7 + 6) 1) (n + 1) := by rw [cnt_yes (p := fun d => u.1 0 (d * 7 + 6) 1) h23, g1]
          refine lv_iinc (k := 1) (lv' := [(1, .int (nI (q + 1))), (2, .int (nI n)), (0, .ref (a 0))]) hx hb dS_countEmpty_26 hl rfl (nI_1 _) (by decide) rfl (fun ls hl => ?_)
          refine lv_iinc (k := 1) (lv' := [(2, .int (nI (n + 1))), (1, .int (nI (q + 1))), (0, .ref (a 0))]) hx hb dS_countEmpty_29 hl rfl (nI_1 _) (by decide) rfl (fun ls hl => ?_)
          refine lv_goto hx hb dS_countEmpty_32 (tgt := 4) (by decide) ?_
          exact ih4 (q + 1) (n + 1) ls H locs (hstep) (by omega) hP hS (by omega) (lv_sub hl [0, 1, 2] rfl)
  exact lp _ 0 0 ls _ _ rfl (by omega) hP hS (Nat.lt_succ_self _) (lv_sub hl [0, 1, 2] rfl)
set_option maxHeartbeats 4000000 in
set_option maxRecDepth 100000 in
/-- c_countClasses -/
theorem c_countClasses (l : Launch) (D : va_G) (a : Nat → Nat) (kI kL kZ : ClassId) (u : sU) (hN : u.2.2 0 ≤ 160) : Met l yS_countClasses (wS_countClasses :: wA) ({ frames := 4, cells := 0, slots := 0, locals := 87 }) (va_Pc [.ref (a 0)] (tq_rB D vwA (sW a kI kL kZ u) (sT kI kL kZ))) (va_Qi (fun r (_ : Unit) => r = nI (tm_cnt (fun d => s_le u d == d) (u.2.2 0))) (fun _ _ => True) (fun _ => False)) 0 0 (fun _ => False) := by
  refine Met.ofW (cc := bS_countClasses) (maxL := 3) (ret := (some .int)) (by decide +kernel) rfl ?_
  intro p e s m args below meth c s₁ B1 hml hv
  obtain ⟨rfl, hP, hK⟩ := hv
  have hx := B1.exec
  have hb := B1.bytes
  have hr := B1.returns
  have hA : ∀ w ∈ wA, w.before ([.ref (a 0)] : List Value).toArray s = true := fun w h => atoms_spec (ws := wS_countClasses :: wA) B1.pre w (List.mem_cons_of_mem _ h)
  have hown : s.vm.findClass RcS = some m.cls := findClass_of_methodNamed B1.named
  have hlocks := B1.notSynchronized
  have hS : va_S (fun _ => False) s.heap s.heap [] := va_S.rf
  have hl := lv_entry ([.ref (a 0)]) (n := 3) (Nat.le_of_ble_eq_true rfl)
  rw [lg_entry_eq]
  generalize (lg_sl ([.ref (a 0)]) ++ List.replicate (3 - (lg_sl ([.ref (a 0)])).length) Slot.unset).toArray = ls at hl ⊢
  have hl : lv_has ls 3 [(0, .ref (a 0))] := hl
  refine tq_gen (fun R Q hRe hQe => ?_)
  have hRf : 4 ≤ R.frames := by rw [hRe]; exact Nat.le_of_ble_eq_true rfl
  have hRl : 87 ≤ R.locals := by rw [hRe]; exact Nat.le_of_ble_eq_true rfl
  have hRc : 0 ≤ R.cells := by rw [hRe]; exact Nat.le_of_ble_eq_true rfl
  have hRs : 0 ≤ R.slots := by rw [hRe]; exact Nat.le_of_ble_eq_true rfl
  refine lv_iconst (v := nI 0) hx hb dS_countClasses_0 (by decide +kernel) ?_
  refine lv_istore_n (lv' := [(1, .int (nI 0)), (0, .ref (a 0))]) hx hb dS_countClasses_1 rfl hl (by decide) rfl (fun ls hl => ?_)
  refine lv_iconst (v := nI 0) hx hb dS_countClasses_2 (by decide +kernel) ?_
  refine lv_istore_n (lv' := [(2, .int (nI 0)), (1, .int (nI 0)), (0, .ref (a 0))]) hx hb dS_countClasses_3 rfl hl (by decide) rfl (fun ls hl => ?_)
  have lp : ∀ (fu : Nat) (q n : Nat) (ls : Array Slot) (H : Heap) (locs : List Loc), q = tm_cnt (fun d => s_le u d == d) n → n ≤ u.2.2 0 → va_P D vwA (sW a kI kL kZ u) H → va_S (fun _ => False) s.heap H locs → u.2.2 0 - n < fu → lv_has ls 3 [(2, .int (nI n)), (1, .int (nI q)), (0, .ref (a 0))] → W p l e R s m ([.ref (a 0)] : List Value).toArray below meth c H locs 0 0 Q (F0 m 4 ls []) := by
    intro fu
    induction fu with
    | zero => intros; omega
    | succ fu ih4 =>
      intro q n ls H locs g1 g2 hP hS hfu hl
      have hq9 := tm_cnt_le (fun d => s_le u d == d) n
      refine lv_iload_n hx hb dS_countClasses_4 rfl (lv_at hl 0 rfl) ?_
      refine lv_aload_n hx hb dS_countClasses_5 rfl (lv_at hl 2 rfl) ?_
      refine gf_S_10 (v := .ref (a 1)) hx hb hA hown hK hP 0 rfl rfl dS_countClasses_6 ?_
      refine ks_rv ⟨hx, hb, hml, hown, hA⟩ (c_size l D a kI kL kZ u  ) (kw_S_79 hA rfl rfl ⟨Nat.le_trans (Nat.le_of_ble_eq_true rfl) hRf, Nat.le_trans (Nat.le_of_ble_eq_true rfl) hRl⟩) hK hP hS 1 1 rfl rfl rfl hl.1 (Nat.le_of_ble_eq_true rfl) ⟨by omega, by omega⟩ dS_countClasses_9 rfl (fun H locs hP hS => ?_)
      refine tq_ge hx hb dS_countClasses_12 (tgt := 33) (by decide) (by omega) (by omega) (fun h12 => ?_) (fun h12 => ?_)
      · refine lv_iload_n hx hb dS_countClasses_33 rfl (lv_at hl 1 rfl) ?_
        subst hQe
        exact W.iret (v := nI q) hx hb hr (fun t ht hW => ⟨⟨_, (), rfl, by rw [g1, show n = u.2.2 0 by omega], trivial⟩, hS.F ht⟩) hS.2.2 dS_countClasses_34
      · refine lv_aload_n hx hb dS_countClasses_15 rfl (lv_at hl 2 rfl) ?_
        refine lv_iload_n hx hb dS_countClasses_16 rfl (lv_at hl 0 rfl) ?_
        refine ks_rv ⟨hx, hb, hml, hown, hA⟩ (c_leastEqual l D a kI kL kZ u n (by omega)) (kw_S_92 hA rfl rfl ⟨Nat.le_trans (Nat.le_of_ble_eq_true rfl) hRf, Nat.le_trans (Nat.le_of_ble_eq_true rfl) hRl⟩) hK hP hS 0 4 rfl rfl rfl hl.1 (Nat.le_of_ble_eq_true rfl) ⟨by omega, by omega⟩ dS_countClasses_17 rfl (fun H locs hP hS => ?_)
        have hle := s_le_le u n
        refine lv_iload_n hx hb dS_countClasses_20 rfl (lv_at hl 0 rfl) ?_
        refine tq_ne hx hb dS_countClasses_21 (tgt := 27) (by decide) (by omega) (by omega) (fun h21 => ?_) (fun h21 => ?_)
        · have hstep : q = tm_cnt (fun d => s_le u d == d) (n + 1) := by rw [cnt_no (p := fun d => s_le u d == d) (n := n) (beq_eq_false_iff_ne.mpr h21)]; exact g1
          refine lv_iinc (k := 0) (lv' := [(2, .int (nI (n + 1))), (1, .int (nI q)), (0, .ref (a 0))]) hx hb dS_countClasses_27 hl rfl (nI_1 _) (by decide) rfl (fun ls hl => ?_)
          refine lv_goto hx hb dS_countClasses_30 (tgt := 4) (by decide) ?_
          exact ih4 q (n + 1) ls H locs (hstep) (by omega) hP hS (by omega) (lv_sub hl [0, 1, 2] rfl)
        · have hstep : q + 1 = tm_cnt (fun d => s_le u d == d) (n + 1) := by rw [cnt_yes (p := fun d => s_le u d == d) (n := n) (beq_iff_eq.mpr h21), g1]
          refine lv_iinc (k := 1) (lv' := [(1, .int (nI (q + 1))), (2, .int (nI n)), (0, .ref (a 0))]) hx hb dS_countClasses_24 hl rfl (nI_1 _) (by decide) rfl (fun ls hl => ?_)
          refine lv_iinc (k := 1) (lv' := [(2, .int (nI (n + 1))), (1, .int (nI (q + 1))), (0, .ref (a 0))]) hx hb dS_countClasses_27 hl rfl (nI_1 _) (by decide) rfl (fun ls hl => ?_)
          refine lv_goto hx hb dS_countClasses_30 (tgt := 4) (by decide) ?_
          exact ih4 (q + 1) (n + 1) ls H locs (hstep) (by omega) hP hS (by omega) (lv_sub hl [0, 1, 2] rfl)
  exact lp _ 0 0 ls _ _ rfl (by omega) hP hS (Nat.lt_succ_self _) (lv_sub hl [0, 1, 2] rfl)
set_option maxHeartbeats 4000000 in
set_option maxRecDepth 100000 in
/-- c_countPairs -/
theorem c_countPairs (l : Launch) (D : va_G) (a : Nat → Nat) (kI kL kZ : ClassId) (u : sU) (hN : u.2.2 0 ≤ 160) : Met l yS_countPairs (wS_countPairs :: wA) ({ frames := 3, cells := 0, slots := 0, locals := 65 }) (va_Pc [.ref (a 0)] (tq_rB D vwA (sW a kI kL kZ u) (sT kI kL kZ))) (va_Qi (fun r (_ : Unit) => r = nI (tm_sum (fun n => tm_cnt (fun e => !(n == e) && s_cv u n e) (u.2.2 0)) (u.2.2 0))) (fun _ _ => True) (fun _ => False)) 0 0 (fun _ => False) := by
  refine Met.ofW (cc := bS_countPairs) (maxL := 4) (ret := (some .int)) (by decide +kernel) rfl ?_
  intro p e s m args below meth c s₁ B1 hml hv
  obtain ⟨rfl, hP, hK⟩ := hv
  have hx := B1.exec
  have hb := B1.bytes
  have hr := B1.returns
  have hA : ∀ w ∈ wA, w.before ([.ref (a 0)] : List Value).toArray s = true := fun w h => atoms_spec (ws := wS_countPairs :: wA) B1.pre w (List.mem_cons_of_mem _ h)
  have hown : s.vm.findClass RcS = some m.cls := findClass_of_methodNamed B1.named
  have hlocks := B1.notSynchronized
  have hS : va_S (fun _ => False) s.heap s.heap [] := va_S.rf
  have hl := lv_entry ([.ref (a 0)]) (n := 4) (Nat.le_of_ble_eq_true rfl)
  rw [lg_entry_eq]
  generalize (lg_sl ([.ref (a 0)]) ++ List.replicate (4 - (lg_sl ([.ref (a 0)])).length) Slot.unset).toArray = ls at hl ⊢
  have hl : lv_has ls 4 [(0, .ref (a 0))] := hl
  refine tq_gen (fun R Q hRe hQe => ?_)
  have hRf : 3 ≤ R.frames := by rw [hRe]; exact Nat.le_of_ble_eq_true rfl
  have hRl : 65 ≤ R.locals := by rw [hRe]; exact Nat.le_of_ble_eq_true rfl
  have hRc : 0 ≤ R.cells := by rw [hRe]; exact Nat.le_of_ble_eq_true rfl
  have hRs : 0 ≤ R.slots := by rw [hRe]; exact Nat.le_of_ble_eq_true rfl
  refine lv_iconst (v := nI 0) hx hb dS_countPairs_0 (by decide +kernel) ?_
  refine lv_istore_n (lv' := [(1, .int (nI 0)), (0, .ref (a 0))]) hx hb dS_countPairs_1 rfl hl (by decide) rfl (fun ls hl => ?_)
  refine lv_iconst (v := nI 0) hx hb dS_countPairs_2 (by decide +kernel) ?_
  refine lv_istore_n (lv' := [(2, .int (nI 0)), (1, .int (nI 0)), (0, .ref (a 0))]) hx hb dS_countPairs_3 rfl hl (by decide) rfl (fun ls hl => ?_)
  have lp : ∀ (fu : Nat) (q n : Nat) (ls : Array Slot) (H : Heap) (locs : List Loc), q = tm_sum (fun n => tm_cnt (fun e => !(n == e) && s_cv u n e) (u.2.2 0)) n → n ≤ u.2.2 0 → va_P D vwA (sW a kI kL kZ u) H → va_S (fun _ => False) s.heap H locs → u.2.2 0 - n < fu → lv_has ls 4 [(2, .int (nI n)), (1, .int (nI q)), (0, .ref (a 0))] → W p l e R s m ([.ref (a 0)] : List Value).toArray below meth c H locs 0 0 Q (F0 m 4 ls []) := by
    intro fu
    induction fu with
    | zero => intros; omega
    | succ fu ih4 =>
      intro q n ls H locs g1 g2 hP hS hfu hl
      refine lv_iload_n hx hb dS_countPairs_4 rfl (lv_at hl 0 rfl) ?_
      refine lv_aload_n hx hb dS_countPairs_5 rfl (lv_at hl 2 rfl) ?_
      refine gf_S_10 (v := .ref (a 1)) hx hb hA hown hK hP 0 rfl rfl dS_countPairs_6 ?_
      refine ks_rv ⟨hx, hb, hml, hown, hA⟩ (c_size l D a kI kL kZ u  ) (kw_S_79 hA rfl rfl ⟨Nat.le_trans (Nat.le_of_ble_eq_true rfl) hRf, Nat.le_trans (Nat.le_of_ble_eq_true rfl) hRl⟩) hK hP hS 1 1 rfl rfl rfl hl.1 (Nat.le_of_ble_eq_true rfl) ⟨by omega, by omega⟩ dS_countPairs_9 rfl (fun H locs hP hS => ?_)
      refine tq_ge hx hb dS_countPairs_12 (tgt := 60) (by decide) (by omega) (by omega) (fun h12 => ?_) (fun h12 => ?_)
      · refine lv_iload_n hx hb dS_countPairs_60 rfl (lv_at hl 1 rfl) ?_
        subst hQe
        exact W.iret (v := nI q) hx hb hr (fun t ht hW => ⟨⟨_, (), rfl, by rw [g1, show n = u.2.2 0 by omega], trivial⟩, hS.F ht⟩) hS.2.2 dS_countPairs_61
      · refine lv_iconst (v := nI 0) hx hb dS_countPairs_15 (by decide +kernel) ?_
        refine lv_istore_n (lv' := [(3, .int (nI 0)), (2, .int (nI n)), (1, .int (nI q)), (0, .ref (a 0))]) hx hb dS_countPairs_16 rfl hl (by decide) rfl (fun ls hl => ?_)
        have lp2 : ∀ (fu : Nat) (q2 j : Nat) (ls : Array Slot) (H : Heap) (locs : List Loc), q2 = tm_sum (fun n => tm_cnt (fun e => !(n == e) && s_cv u n e) (u.2.2 0)) n + tm_cnt (fun e => !(n == e) && s_cv u n e) j → j ≤ u.2.2 0 → va_P D vwA (sW a kI kL kZ u) H → va_S (fun _ => False) s.heap H locs → u.2.2 0 - j < fu → lv_has ls 4 [(3, .int (nI j)), (2, .int (nI n)), (1, .int (nI q2)), (0, .ref (a 0))] → W p l e R s m ([.ref (a 0)] : List Value).toArray below meth c H locs 0 0 Q (F0 m 17 ls []) := by
          intro fu
          induction fu with
          | zero => intros; omega
          | succ fu ih17 =>
            intro q2 j ls H locs k1 k2 hP hS hfu hl
            refine lv_iload_n hx hb dS_countPairs_17 rfl (lv_at hl 0 rfl) ?_
            refine lv_aload_n hx hb dS_countPairs_18 rfl (lv_at hl 3 rfl) ?_
            refine gf_S_10 (v := .ref (a 1)) hx hb hA hown hK hP 0 rfl rfl dS_countPairs_19 ?_
            refine ks_rv ⟨hx, hb, hml, hown, hA⟩ (c_size l D a kI kL kZ u  ) (kw_S_79 hA rfl rfl ⟨Nat.le_trans (Nat.le_of_ble_eq_true rfl) hRf, Nat.le_trans (Nat.le_of_ble_eq_true rfl) hRl⟩) hK hP hS 1 1 rfl rfl rfl hl.1 (Nat.le_of_ble_eq_true rfl) ⟨by omega, by omega⟩ dS_countPairs_22 rfl (fun H locs hP hS => ?_)
            refine tq_ge hx hb dS_countPairs_25 (tgt := 54) (by decide) (by omega) (by omega) (fun h25 => ?_) (fun h25 => ?_)
            · refine lv_iinc (k := 1) (lv' := [(2, .int (nI (n + 1))), (3, .int (nI j)), (1, .int (nI q2)), (0, .ref (a 0))]) hx hb dS_countPairs_54 hl rfl (nI_1 _) (by decide) rfl (fun ls hl => ?_)
              refine lv_goto hx hb dS_countPairs_57 (tgt := 4) (by decide) ?_
              exact ih4 q2 (n + 1) ls H locs (by rw [k1, show j = u.2.2 0 by omega]; rfl) (by omega) hP hS (by omega) (lv_sub hl [0, 2, 3] rfl)
            · refine lv_iload_n hx hb dS_countPairs_28 rfl (lv_at hl 1 rfl) ?_
              refine lv_iload_n hx hb dS_countPairs_29 rfl (lv_at hl 0 rfl) ?_
              refine tq_eq hx hb dS_countPairs_30 (tgt := 48) (by decide) (by omega) (by omega) (fun h30 => ?_) (fun h30 => ?_)
              · have hstep : q2 = tm_sum (fun n => tm_cnt (fun e => !(n == e) && s_cv u n e) (u.2.2 0)) n + tm_cnt (fun e => !(n == e) && s_cv u n e) (j + 1) := by rw [cnt_no (p := fun e => !(n == e) && s_cv u n e) (n := j) (by rw [h30, beq_self_eq_true]; rfl)]; exact k1
                refine lv_iinc (k := 0) (lv' := [(3, .int (nI (j + 1))), (2, .int (nI n)), (1, .int (nI q2)), (0, .ref (a 0))]) hx hb dS_countPairs_48 hl rfl (nI_1 _) (by decide) rfl (fun ls hl => ?_)
                refine lv_goto hx hb dS_countPairs_51 (tgt := 17) (by decide) ?_
                exact ih17 q2 (j + 1) ls H locs (hstep) (by omega) hP hS (by omega) (lv_sub hl [0, 1, 2, 3] rfl)
              · refine lv_aload_n hx hb dS_countPairs_33 rfl (lv_at hl 3 rfl) ?_
                refine gf_S_28 (v := .ref (a 3)) hx hb hA hown hK hP 0 rfl rfl dS_countPairs_34 ?_
                refine lv_iload_n hx hb dS_countPairs_37 rfl (lv_at hl 1 rfl) ?_
                refine lv_iload_n hx hb dS_countPairs_38 rfl (lv_at hl 0 rfl) ?_
                refine ks_rv ⟨hx, hb, hml, hown, hA⟩ (c_covers l D a kI kL kZ u n j (by omega) (by omega)) (kw_S_75 hA rfl rfl ⟨Nat.le_trans (Nat.le_of_ble_eq_true rfl) hRf, Nat.le_trans (Nat.le_of_ble_eq_true rfl) hRl⟩) hK hP hS 3 3 rfl rfl rfl hl.1 (Nat.le_of_ble_eq_true rfl) ⟨by omega, by omega⟩ dS_countPairs_39 rfl (fun H locs hP hS => ?_)
                refine tq_i (y := bI (s_cv u n j)) rfl ?_
                refine tq_bf hx hb dS_countPairs_42 (tgt := 48) (by decide) (fun h42 => ?_) (fun h42 => ?_)
                · have hstep : q2 = tm_sum (fun n => tm_cnt (fun e => !(n == e) && s_cv u n e) (u.2.2 0)) n + tm_cnt (fun e => !(n == e) && s_cv u n e) (j + 1) := by rw [cnt_no (p := fun e => !(n == e) && s_cv u n e) (n := j) (by rw [h42, Bool.and_false])]; exact k1
                  refine lv_iinc (k := 0) (lv' := [(3, .int (nI (j + 1))), (2, .int (nI n)), (1, .int (nI q2)), (0, .ref (a 0))]) hx hb dS_countPairs_48 hl rfl (nI_1 _) (by decide) rfl (fun ls hl => ?_)
                  refine lv_goto hx hb dS_countPairs_51 (tgt := 17) (by decide) ?_
                  exact ih17 q2 (j + 1) ls H locs (hstep) (by omega) hP hS (by omega) (lv_sub hl [0, 1, 2, 3] rfl)
                · have hstep : q2 + 1 = tm_sum (fun n => tm_cnt (fun e => !(n == e) && s_cv u n e) (u.2.2 0)) n + tm_cnt (fun e => !(n == e) && s_cv u n e) (j + 1) := by rw [cnt_yes (p := fun e => !(n == e) && s_cv u n e) (n := j) (by rw [h42, beq_eq_false_iff_ne.mpr h30]; rfl), k1]; rfl
                  refine lv_iinc (k := 2) (lv' := [(1, .int (nI (q2 + 1))), (3, .int (nI j)), (2, .int (nI n)), (0, .ref (a 0))]) hx hb dS_countPairs_45 hl rfl (nI_1 _) (by decide) rfl (fun ls hl => ?_)
                  refine lv_iinc (k := 1) (lv' := [(3, .int (nI (j + 1))), (1, .int (nI (q2 + 1))), (2, .int (nI n)), (0, .ref (a 0))]) hx hb dS_countPairs_48 hl rfl (nI_1 _) (by decide) rfl (fun ls hl => ?_)
                  refine lv_goto hx hb dS_countPairs_51 (tgt := 17) (by decide) ?_
                  exact ih17 (q2 + 1) (j + 1) ls H locs (hstep) (by omega) hP hS (by omega) (lv_sub hl [0, 2, 1, 3] rfl)
        exact lp2 _ q 0 ls _ _ g1 (by omega) hP hS (Nat.lt_succ_self _) (lv_sub hl [0, 1, 2, 3] rfl)
  exact lp _ 0 0 ls _ _ rfl (by omega) hP hS (Nat.lt_succ_self _) (lv_sub hl [0, 1, 2] rfl)
