/-! The contracts of Closure: new descriptions, axioms that are heard, forgetting. Written by wip/whole/gen/genclos4.py. -/
set_option maxHeartbeats 4000000 in
set_option maxRecDepth 100000 in
/-- c_spoil -/
theorem c_spoil (l : Launch) (D : va_G) (a : Nat → Nat) (kI kL kZ : ClassId) (u : sU)  : Met l yC_spoil (wC_spoil :: wA) ({ frames := 0, cells := 0, slots := 0, locals := 0 }) (va_Pc [.ref (a 3)] (tq_wB D vwA (sW a kI kL kZ u) (sT kI kL kZ))) (va_Qv (fun (u' : sU) => u' = s_spoil u) (fun u' t => va_P D vwA (sW a kI kL kZ u') t.heap) (sA a)) 0 0 (sA a) := by
  refine Met.ofW (cc := bC_spoil) (maxL := 1) (ret := none) (by decide +kernel) rfl ?_
  intro p e s m args below meth c s₁ B1 hml hv
  obtain ⟨rfl, hP, hK, hD0⟩ := hv
  have hx := B1.exec
  have hb := B1.bytes
  have hr := B1.returns
  have hA : ∀ w ∈ wA, w.before ([.ref (a 3)] : List Value).toArray s = true := fun w h => atoms_spec (ws := wC_spoil :: wA) B1.pre w (List.mem_cons_of_mem _ h)
  have hown : s.vm.findClass RcC = some m.cls := findClass_of_methodNamed B1.named
  have hlocks := B1.notSynchronized
  have hS : va_S (sA a) s.heap s.heap [] := va_S.rf
  have hl := lv_entry ([.ref (a 3)]) (n := 1) (Nat.le_of_ble_eq_true rfl)
  rw [lg_entry_eq]
  generalize (lg_sl ([.ref (a 3)]) ++ List.replicate (1 - (lg_sl ([.ref (a 3)])).length) Slot.unset).toArray = ls at hl ⊢
  have hl : lv_has ls 1 [(0, .ref (a 3))] := hl
  refine tq_gen (fun R Q hRe hQe => ?_)
  have hRf : 0 ≤ R.frames := by rw [hRe]; exact Nat.le_of_ble_eq_true rfl
  have hRl : 0 ≤ R.locals := by rw [hRe]; exact Nat.le_of_ble_eq_true rfl
  have hRc : 0 ≤ R.cells := by rw [hRe]; exact Nat.le_of_ble_eq_true rfl
  have hRs : 0 ≤ R.slots := by rw [hRe]; exact Nat.le_of_ble_eq_true rfl
  have hD := sA_D hD0
  refine lv_aload_n hx hb dC_spoil_0 rfl (lv_at hl 0 rfl) ?_
  refine lv_iconst (v := nI 1) hx hb dC_spoil_1 (by decide +kernel) ?_
  refine pf_C_53 (v := .int (nI 1)) hx hb hA hown hK hP hD hS 3 rfl rfl rfl (Nat.le_of_ble_eq_true rfl) dC_spoil_2 (fun H locs hP hD hS => ?_)
  have hP : va_P D vwA (sW a kI kL kZ (u.1, u.2.1, va_up u.2.2 6 1)) H := hP
  have hD : va_D (sA a) (sW a kI kL kZ (u.1, u.2.1, va_up u.2.2 6 1)) := hD
  subst hQe
  exact W.vret hx hb hr (fun t ht hW => ⟨⟨(u.1, u.2.1, va_up u.2.2 6 1), rfl, rfl, tq_hp ht hP⟩, hS.F ht⟩) hS.2.2 dC_spoil_5
set_option maxHeartbeats 4000000 in
set_option maxRecDepth 100000 in
/-- c_forget -/
theorem c_forget (l : Launch) (D : va_G) (a : Nat → Nat) (kI kL kZ : ClassId) (u : sU) (hN : u.2.2 0 ≤ 160) : Met l yC_forget (wC_forget :: wA) ({ frames := 2, cells := 0, slots := 0, locals := 44 }) (va_Pc [.ref (a 3)] (tq_wB D vwA (sW a kI kL kZ u) (sT kI kL kZ))) (va_Qv (fun (u' : sU) => u' = s_forget u) (fun u' t => va_P D vwA (sW a kI kL kZ u') t.heap) (sA a)) 0 0 (sA a) := by
  refine Met.ofW (cc := bC_forget) (maxL := 2) (ret := none) (by decide +kernel) rfl ?_
  intro p e s m args below meth c s₁ B1 hml hv
  obtain ⟨rfl, hP, hK, hD0⟩ := hv
  have hx := B1.exec
  have hb := B1.bytes
  have hr := B1.returns
  have hA : ∀ w ∈ wA, w.before ([.ref (a 3)] : List Value).toArray s = true := fun w h => atoms_spec (ws := wC_forget :: wA) B1.pre w (List.mem_cons_of_mem _ h)
  have hown : s.vm.findClass RcC = some m.cls := findClass_of_methodNamed B1.named
  have hlocks := B1.notSynchronized
  have hS : va_S (sA a) s.heap s.heap [] := va_S.rf
  have hl := lv_entry ([.ref (a 3)]) (n := 2) (Nat.le_of_ble_eq_true rfl)
  rw [lg_entry_eq]
  generalize (lg_sl ([.ref (a 3)]) ++ List.replicate (2 - (lg_sl ([.ref (a 3)])).length) Slot.unset).toArray = ls at hl ⊢
  have hl : lv_has ls 2 [(0, .ref (a 3))] := hl
  refine tq_gen (fun R Q hRe hQe => ?_)
  have hRf : 2 ≤ R.frames := by rw [hRe]; exact Nat.le_of_ble_eq_true rfl
  have hRl : 44 ≤ R.locals := by rw [hRe]; exact Nat.le_of_ble_eq_true rfl
  have hRc : 0 ≤ R.cells := by rw [hRe]; exact Nat.le_of_ble_eq_true rfl
  have hRs : 0 ≤ R.slots := by rw [hRe]; exact Nat.le_of_ble_eq_true rfl
  have hD := sA_D hD0
  refine lv_aload_n hx hb dC_forget_0 rfl (lv_at hl 0 rfl) ?_
  refine gf_C_11 (v := .ref (a 1)) hx hb hA hown hK hP 3 rfl rfl dC_forget_1 ?_
  refine ks_rv ⟨hx, hb, hml, hown, hA⟩ (c_size l D a kI kL kZ u  ) (kw_C_82 hA rfl rfl ⟨Nat.le_trans (Nat.le_of_ble_eq_true rfl) hRf, Nat.le_trans (Nat.le_of_ble_eq_true rfl) hRl⟩) hK hP hS 1 1 rfl rfl rfl hl.1 (Nat.le_of_ble_eq_true rfl) ⟨by omega, by omega⟩ dC_forget_4 rfl (fun H locs hP hS => ?_)
  refine lv_bipush (v := nI 7) hx hb dC_forget_7 (by decide +kernel) ?_
  refine tq_imul hx hb dC_forget_9 ?_
  refine lv_istore_n (lv' := [(1, .int (nI ((u.2.2 0) * 7))), (0, .ref (a 3))]) hx hb dC_forget_10 rfl hl (by decide) rfl (fun ls hl => ?_)
  refine lv_aload_n hx hb dC_forget_11 rfl (lv_at hl 1 rfl) ?_
  refine gf_C_24 (v := .ref (a 14)) hx hb hA hown hK hP 3 rfl rfl dC_forget_12 ?_
  refine lv_iload_n hx hb dC_forget_15 rfl (lv_at hl 0 rfl) ?_
  refine k_clear ⟨hx, hb, hml, hown, hA⟩ (kw_C_91 hA rfl rfl ⟨Nat.le_trans (Nat.le_of_ble_eq_true rfl) hRf, Nat.le_trans (Nat.le_of_ble_eq_true rfl) hRl⟩) hK hP hD hS 14 15 1 rfl rfl (by decide) rfl (by omega) (by decide) (by decide) hl.1 (Nat.le_of_ble_eq_true rfl) ⟨by omega, by omega⟩ dC_forget_16 (fun H locs hP hD hS => ?_)
  have hP : va_P D vwA (sW a kI kL kZ (va_up u.1 0 (tm_clr (u.1 0) ((u.2.2 0) * 7)), u.2.1, u.2.2)) H := hP
  have hD : va_D (sA a) (sW a kI kL kZ (va_up u.1 0 (tm_clr (u.1 0) ((u.2.2 0) * 7)), u.2.1, u.2.2)) := hD
  refine lv_aload_n hx hb dC_forget_19 rfl (lv_at hl 1 rfl) ?_
  refine gf_C_28 (v := .ref (a 16)) hx hb hA hown hK hP 3 rfl rfl dC_forget_20 ?_
  refine lv_iload_n hx hb dC_forget_23 rfl (lv_at hl 0 rfl) ?_
  refine k_clear ⟨hx, hb, hml, hown, hA⟩ (kw_C_91 hA rfl rfl ⟨Nat.le_trans (Nat.le_of_ble_eq_true rfl) hRf, Nat.le_trans (Nat.le_of_ble_eq_true rfl) hRl⟩) hK hP hD hS 16 17 1 rfl rfl (by decide) rfl (by omega) (by decide) (by decide) hl.1 (Nat.le_of_ble_eq_true rfl) ⟨by omega, by omega⟩ dC_forget_24 (fun H locs hP hD hS => ?_)
  have hP : va_P D vwA (sW a kI kL kZ (va_up (va_up u.1 0 (tm_clr (u.1 0) ((u.2.2 0) * 7))) 1 (tm_clr (u.1 1) ((u.2.2 0) * 7)), u.2.1, u.2.2)) H := hP
  have hD : va_D (sA a) (sW a kI kL kZ (va_up (va_up u.1 0 (tm_clr (u.1 0) ((u.2.2 0) * 7))) 1 (tm_clr (u.1 1) ((u.2.2 0) * 7)), u.2.1, u.2.2)) := hD
  refine lv_aload_n hx hb dC_forget_27 rfl (lv_at hl 1 rfl) ?_
  refine gf_C_31 (v := .ref (a 18)) hx hb hA hown hK hP 3 rfl rfl dC_forget_28 ?_
  refine lv_iload_n hx hb dC_forget_31 rfl (lv_at hl 0 rfl) ?_
  refine k_clear ⟨hx, hb, hml, hown, hA⟩ (kw_C_91 hA rfl rfl ⟨Nat.le_trans (Nat.le_of_ble_eq_true rfl) hRf, Nat.le_trans (Nat.le_of_ble_eq_true rfl) hRl⟩) hK hP hD hS 18 19 1 rfl rfl (by decide) rfl (by omega) (by decide) (by decide) hl.1 (Nat.le_of_ble_eq_true rfl) ⟨by omega, by omega⟩ dC_forget_32 (fun H locs hP hD hS => ?_)
  have hP : va_P D vwA (sW a kI kL kZ (va_up (va_up (va_up u.1 0 (tm_clr (u.1 0) ((u.2.2 0) * 7))) 1 (tm_clr (u.1 1) ((u.2.2 0) * 7))) 2 (tm_clr (u.1 2) ((u.2.2 0) * 7)), u.2.1, u.2.2)) H := hP
  have hD : va_D (sA a) (sW a kI kL kZ (va_up (va_up (va_up u.1 0 (tm_clr (u.1 0) ((u.2.2 0) * 7))) 1 (tm_clr (u.1 1) ((u.2.2 0) * 7))) 2 (tm_clr (u.1 2) ((u.2.2 0) * 7)), u.2.1, u.2.2)) := hD
  refine lv_aload_n hx hb dC_forget_35 rfl (lv_at hl 1 rfl) ?_
  refine gf_C_34 (v := .ref (a 20)) hx hb hA hown hK hP 3 rfl rfl dC_forget_36 ?_
  refine lv_iconst (v := nI 1) hx hb dC_forget_39 (by decide +kernel) ?_
  refine k_clear ⟨hx, hb, hml, hown, hA⟩ (kw_C_91 hA rfl rfl ⟨Nat.le_trans (Nat.le_of_ble_eq_true rfl) hRf, Nat.le_trans (Nat.le_of_ble_eq_true rfl) hRl⟩) hK hP hD hS 20 21 1 rfl rfl (by decide) rfl (by omega) (by decide) (by decide) hl.1 (Nat.le_of_ble_eq_true rfl) ⟨by omega, by omega⟩ dC_forget_40 (fun H locs hP hD hS => ?_)
  have hP : va_P D vwA (sW a kI kL kZ (va_up (va_up (va_up (va_up u.1 0 (tm_clr (u.1 0) ((u.2.2 0) * 7))) 1 (tm_clr (u.1 1) ((u.2.2 0) * 7))) 2 (tm_clr (u.1 2) ((u.2.2 0) * 7))) 3 (tm_clr (u.1 3) 1), u.2.1, u.2.2)) H := hP
  have hD : va_D (sA a) (sW a kI kL kZ (va_up (va_up (va_up (va_up u.1 0 (tm_clr (u.1 0) ((u.2.2 0) * 7))) 1 (tm_clr (u.1 1) ((u.2.2 0) * 7))) 2 (tm_clr (u.1 2) ((u.2.2 0) * 7))) 3 (tm_clr (u.1 3) 1), u.2.1, u.2.2)) := hD
  refine lv_aload_n hx hb dC_forget_43 rfl (lv_at hl 1 rfl) ?_
  refine gf_C_37 (v := .ref (a 22)) hx hb hA hown hK hP 3 rfl rfl dC_forget_44 ?_
  refine lv_aload_n hx hb dC_forget_47 rfl (lv_at hl 1 rfl) ?_
  refine gf_C_11 (v := .ref (a 1)) hx hb hA hown hK hP 3 rfl rfl dC_forget_48 ?_
  refine ks_rv ⟨hx, hb, hml, hown, hA⟩ (c_size l D a kI kL kZ (va_up (va_up (va_up (va_up u.1 0 (tm_clr (u.1 0) ((u.2.2 0) * 7))) 1 (tm_clr (u.1 1) ((u.2.2 0) * 7))) 2 (tm_clr (u.1 2) ((u.2.2 0) * 7))) 3 (tm_clr (u.1 3) 1), u.2.1, u.2.2)  ) (kw_C_82 hA rfl rfl ⟨Nat.le_trans (Nat.le_of_ble_eq_true rfl) hRf, Nat.le_trans (Nat.le_of_ble_eq_true rfl) hRl⟩) hK hP hS 1 1 rfl rfl rfl hl.1 (Nat.le_of_ble_eq_true rfl) ⟨by omega, by omega⟩ dC_forget_51 rfl (fun H locs hP hS => ?_)
  refine tq_i (y := nI (u.2.2 0)) rfl ?_
  refine k_clear ⟨hx, hb, hml, hown, hA⟩ (kw_C_91 hA rfl rfl ⟨Nat.le_trans (Nat.le_of_ble_eq_true rfl) hRf, Nat.le_trans (Nat.le_of_ble_eq_true rfl) hRl⟩) hK hP hD hS 22 23 1 rfl rfl (by decide) rfl (by omega) (by decide) (by decide) hl.1 (Nat.le_of_ble_eq_true rfl) ⟨by omega, by omega⟩ dC_forget_54 (fun H locs hP hD hS => ?_)
  have hP : va_P D vwA (sW a kI kL kZ (va_up (va_up (va_up (va_up (va_up u.1 0 (tm_clr (u.1 0) ((u.2.2 0) * 7))) 1 (tm_clr (u.1 1) ((u.2.2 0) * 7))) 2 (tm_clr (u.1 2) ((u.2.2 0) * 7))) 3 (tm_clr (u.1 3) 1)) 4 (tm_clr (u.1 4) (u.2.2 0)), u.2.1, u.2.2)) H := hP
  have hD : va_D (sA a) (sW a kI kL kZ (va_up (va_up (va_up (va_up (va_up u.1 0 (tm_clr (u.1 0) ((u.2.2 0) * 7))) 1 (tm_clr (u.1 1) ((u.2.2 0) * 7))) 2 (tm_clr (u.1 2) ((u.2.2 0) * 7))) 3 (tm_clr (u.1 3) 1)) 4 (tm_clr (u.1 4) (u.2.2 0)), u.2.1, u.2.2)) := hD
  refine lv_aload_n hx hb dC_forget_57 rfl (lv_at hl 1 rfl) ?_
  refine gf_C_40 (v := .ref (a 24)) hx hb hA hown hK hP 3 rfl rfl dC_forget_58 ?_
  refine lv_bipush (v := nI 6) hx hb dC_forget_61 (by decide +kernel) ?_
  refine k_clear ⟨hx, hb, hml, hown, hA⟩ (kw_C_91 hA rfl rfl ⟨Nat.le_trans (Nat.le_of_ble_eq_true rfl) hRf, Nat.le_trans (Nat.le_of_ble_eq_true rfl) hRl⟩) hK hP hD hS 24 25 1 rfl rfl (by decide) rfl (by omega) (by decide) (by decide) hl.1 (Nat.le_of_ble_eq_true rfl) ⟨by omega, by omega⟩ dC_forget_63 (fun H locs hP hD hS => ?_)
  have hP : va_P D vwA (sW a kI kL kZ (va_up (va_up (va_up (va_up (va_up (va_up u.1 0 (tm_clr (u.1 0) ((u.2.2 0) * 7))) 1 (tm_clr (u.1 1) ((u.2.2 0) * 7))) 2 (tm_clr (u.1 2) ((u.2.2 0) * 7))) 3 (tm_clr (u.1 3) 1)) 4 (tm_clr (u.1 4) (u.2.2 0))) 5 (tm_clr (u.1 5) 6), u.2.1, u.2.2)) H := hP
  have hD : va_D (sA a) (sW a kI kL kZ (va_up (va_up (va_up (va_up (va_up (va_up u.1 0 (tm_clr (u.1 0) ((u.2.2 0) * 7))) 1 (tm_clr (u.1 1) ((u.2.2 0) * 7))) 2 (tm_clr (u.1 2) ((u.2.2 0) * 7))) 3 (tm_clr (u.1 3) 1)) 4 (tm_clr (u.1 4) (u.2.2 0))) 5 (tm_clr (u.1 5) 6), u.2.1, u.2.2)) := hD
  refine lv_aload_n hx hb dC_forget_66 rfl (lv_at hl 1 rfl) ?_
  refine gf_C_43 (v := .ref (a 26)) hx hb hA hown hK hP 3 rfl rfl dC_forget_67 ?_
  refine lv_bipush (v := nI 36) hx hb dC_forget_70 (by decide +kernel) ?_
  refine k_clear ⟨hx, hb, hml, hown, hA⟩ (kw_C_91 hA rfl rfl ⟨Nat.le_trans (Nat.le_of_ble_eq_true rfl) hRf, Nat.le_trans (Nat.le_of_ble_eq_true rfl) hRl⟩) hK hP hD hS 26 27 1 rfl rfl (by decide) rfl (by omega) (by decide) (by decide) hl.1 (Nat.le_of_ble_eq_true rfl) ⟨by omega, by omega⟩ dC_forget_72 (fun H locs hP hD hS => ?_)
  have hP : va_P D vwA (sW a kI kL kZ (va_up (va_up (va_up (va_up (va_up (va_up (va_up u.1 0 (tm_clr (u.1 0) ((u.2.2 0) * 7))) 1 (tm_clr (u.1 1) ((u.2.2 0) * 7))) 2 (tm_clr (u.1 2) ((u.2.2 0) * 7))) 3 (tm_clr (u.1 3) 1)) 4 (tm_clr (u.1 4) (u.2.2 0))) 5 (tm_clr (u.1 5) 6)) 6 (tm_clr (u.1 6) 36), u.2.1, u.2.2)) H := hP
  have hD : va_D (sA a) (sW a kI kL kZ (va_up (va_up (va_up (va_up (va_up (va_up (va_up u.1 0 (tm_clr (u.1 0) ((u.2.2 0) * 7))) 1 (tm_clr (u.1 1) ((u.2.2 0) * 7))) 2 (tm_clr (u.1 2) ((u.2.2 0) * 7))) 3 (tm_clr (u.1 3) 1)) 4 (tm_clr (u.1 4) (u.2.2 0))) 5 (tm_clr (u.1 5) 6)) 6 (tm_clr (u.1 6) 36), u.2.1, u.2.2)) := hD
  refine lv_aload_n hx hb dC_forget_75 rfl (lv_at hl 1 rfl) ?_
  refine lv_aload_n hx hb dC_forget_76 rfl (lv_at hl 1 rfl) ?_
  refine gf_C_11 (v := .ref (a 1)) hx hb hA hown hK hP 3 rfl rfl dC_forget_77 ?_
  refine ks_rv ⟨hx, hb, hml, hown, hA⟩ (c_size l D a kI kL kZ (va_up (va_up (va_up (va_up (va_up (va_up (va_up u.1 0 (tm_clr (u.1 0) ((u.2.2 0) * 7))) 1 (tm_clr (u.1 1) ((u.2.2 0) * 7))) 2 (tm_clr (u.1 2) ((u.2.2 0) * 7))) 3 (tm_clr (u.1 3) 1)) 4 (tm_clr (u.1 4) (u.2.2 0))) 5 (tm_clr (u.1 5) 6)) 6 (tm_clr (u.1 6) 36), u.2.1, u.2.2)  ) (kw_C_82 hA rfl rfl ⟨Nat.le_trans (Nat.le_of_ble_eq_true rfl) hRf, Nat.le_trans (Nat.le_of_ble_eq_true rfl) hRl⟩) hK hP hS 1 1 rfl rfl rfl hl.1 (Nat.le_of_ble_eq_true rfl) ⟨by omega, by omega⟩ dC_forget_80 rfl (fun H locs hP hS => ?_)
  refine tq_i (y := nI (u.2.2 0)) rfl ?_
  refine pf_C_46 (v := .int (nI (u.2.2 0))) hx hb hA hown hK hP hD hS 3 rfl rfl rfl (Nat.le_of_ble_eq_true rfl) dC_forget_83 (fun H locs hP hD hS => ?_)
  have hP : va_P D vwA (sW a kI kL kZ (va_up (va_up (va_up (va_up (va_up (va_up (va_up u.1 0 (tm_clr (u.1 0) ((u.2.2 0) * 7))) 1 (tm_clr (u.1 1) ((u.2.2 0) * 7))) 2 (tm_clr (u.1 2) ((u.2.2 0) * 7))) 3 (tm_clr (u.1 3) 1)) 4 (tm_clr (u.1 4) (u.2.2 0))) 5 (tm_clr (u.1 5) 6)) 6 (tm_clr (u.1 6) 36), u.2.1, va_up u.2.2 4 (u.2.2 0))) H := hP
  have hD : va_D (sA a) (sW a kI kL kZ (va_up (va_up (va_up (va_up (va_up (va_up (va_up u.1 0 (tm_clr (u.1 0) ((u.2.2 0) * 7))) 1 (tm_clr (u.1 1) ((u.2.2 0) * 7))) 2 (tm_clr (u.1 2) ((u.2.2 0) * 7))) 3 (tm_clr (u.1 3) 1)) 4 (tm_clr (u.1 4) (u.2.2 0))) 5 (tm_clr (u.1 5) 6)) 6 (tm_clr (u.1 6) 36), u.2.1, va_up u.2.2 4 (u.2.2 0))) := hD
  refine lv_aload_n hx hb dC_forget_86 rfl (lv_at hl 1 rfl) ?_
  refine lv_iconst (v := nI 0) hx hb dC_forget_87 (by decide +kernel) ?_
  refine pf_C_50 (v := .int (nI 0)) hx hb hA hown hK hP hD hS 3 rfl rfl rfl (Nat.le_of_ble_eq_true rfl) dC_forget_88 (fun H locs hP hD hS => ?_)
  have hP : va_P D vwA (sW a kI kL kZ (va_up (va_up (va_up (va_up (va_up (va_up (va_up u.1 0 (tm_clr (u.1 0) ((u.2.2 0) * 7))) 1 (tm_clr (u.1 1) ((u.2.2 0) * 7))) 2 (tm_clr (u.1 2) ((u.2.2 0) * 7))) 3 (tm_clr (u.1 3) 1)) 4 (tm_clr (u.1 4) (u.2.2 0))) 5 (tm_clr (u.1 5) 6)) 6 (tm_clr (u.1 6) 36), u.2.1, va_up (va_up u.2.2 4 (u.2.2 0)) 5 0)) H := hP
  have hD : va_D (sA a) (sW a kI kL kZ (va_up (va_up (va_up (va_up (va_up (va_up (va_up u.1 0 (tm_clr (u.1 0) ((u.2.2 0) * 7))) 1 (tm_clr (u.1 1) ((u.2.2 0) * 7))) 2 (tm_clr (u.1 2) ((u.2.2 0) * 7))) 3 (tm_clr (u.1 3) 1)) 4 (tm_clr (u.1 4) (u.2.2 0))) 5 (tm_clr (u.1 5) 6)) 6 (tm_clr (u.1 6) 36), u.2.1, va_up (va_up u.2.2 4 (u.2.2 0)) 5 0)) := hD
  refine lv_aload_n hx hb dC_forget_91 rfl (lv_at hl 1 rfl) ?_
  refine lv_iconst (v := nI 0) hx hb dC_forget_92 (by decide +kernel) ?_
  refine pf_C_53 (v := .int (nI 0)) hx hb hA hown hK hP hD hS 3 rfl rfl rfl (Nat.le_of_ble_eq_true rfl) dC_forget_93 (fun H locs hP hD hS => ?_)
  have hP : va_P D vwA (sW a kI kL kZ (va_up (va_up (va_up (va_up (va_up (va_up (va_up u.1 0 (tm_clr (u.1 0) ((u.2.2 0) * 7))) 1 (tm_clr (u.1 1) ((u.2.2 0) * 7))) 2 (tm_clr (u.1 2) ((u.2.2 0) * 7))) 3 (tm_clr (u.1 3) 1)) 4 (tm_clr (u.1 4) (u.2.2 0))) 5 (tm_clr (u.1 5) 6)) 6 (tm_clr (u.1 6) 36), u.2.1, va_up (va_up (va_up u.2.2 4 (u.2.2 0)) 5 0) 6 0)) H := hP
  have hD : va_D (sA a) (sW a kI kL kZ (va_up (va_up (va_up (va_up (va_up (va_up (va_up u.1 0 (tm_clr (u.1 0) ((u.2.2 0) * 7))) 1 (tm_clr (u.1 1) ((u.2.2 0) * 7))) 2 (tm_clr (u.1 2) ((u.2.2 0) * 7))) 3 (tm_clr (u.1 3) 1)) 4 (tm_clr (u.1 4) (u.2.2 0))) 5 (tm_clr (u.1 5) 6)) 6 (tm_clr (u.1 6) 36), u.2.1, va_up (va_up (va_up u.2.2 4 (u.2.2 0)) 5 0) 6 0)) := hD
  subst hQe
  exact W.vret hx hb hr (fun t ht hW => ⟨⟨(va_up (va_up (va_up (va_up (va_up (va_up (va_up u.1 0 (tm_clr (u.1 0) ((u.2.2 0) * 7))) 1 (tm_clr (u.1 1) ((u.2.2 0) * 7))) 2 (tm_clr (u.1 2) ((u.2.2 0) * 7))) 3 (tm_clr (u.1 3) 1)) 4 (tm_clr (u.1 4) (u.2.2 0))) 5 (tm_clr (u.1 5) 6)) 6 (tm_clr (u.1 6) 36), u.2.1, va_up (va_up (va_up u.2.2 4 (u.2.2 0)) 5 0) 6 0), rfl, rfl, tq_hp ht hP⟩, hS.F ht⟩) hS.2.2 dC_forget_96
set_option maxHeartbeats 4000000 in
set_option maxRecDepth 100000 in
/-- c_reaches -/
theorem c_reaches (l : Launch) (D : va_G) (a : Nat → Nat) (kI kL kZ : ClassId) (u : sU) (x i y : Nat) (hx1 : x < 160) (hi : i < 6) (hy : y < 160) : Met l yC_reaches (wC_reaches :: wA) ({ frames := 2, cells := 0, slots := 0, locals := 46 }) (va_Pc [.ref (a 3), .int (nI x), .int (nI i), .int (nI y)] (tq_rB D vwA (sW a kI kL kZ u) (sT kI kL kZ))) (va_Qi (fun r (_ : Unit) => ∃ b : Bool, r = bI b ∧ (b = true ↔ u.1 0 (x * 7 + 6) 1 = true ∨ ∃ d, d < 160 ∧ u.1 0 (x * 7 + i) d = true ∧ u.1 0 (d * 7 + 6) y = true)) (fun _ _ => True) (fun _ => False)) 0 0 (fun _ => False) := by
  refine Met.ofW (cc := bC_reaches) (maxL := 6) (ret := (some .boolean)) (by decide +kernel) rfl ?_
  intro p e s m args below meth c s₁ B1 hml hv
  obtain ⟨rfl, hP, hK⟩ := hv
  have hx := B1.exec
  have hb := B1.bytes
  have hr := B1.returns
  have hA : ∀ w ∈ wA, w.before ([.ref (a 3), .int (nI x), .int (nI i), .int (nI y)] : List Value).toArray s = true := fun w h => atoms_spec (ws := wC_reaches :: wA) B1.pre w (List.mem_cons_of_mem _ h)
  have hown : s.vm.findClass RcC = some m.cls := findClass_of_methodNamed B1.named
  have hlocks := B1.notSynchronized
  have hS : va_S (fun _ => False) s.heap s.heap [] := va_S.rf
  have hl := lv_entry ([.ref (a 3), .int (nI x), .int (nI i), .int (nI y)]) (n := 6) (Nat.le_of_ble_eq_true rfl)
  rw [lg_entry_eq]
  generalize (lg_sl ([.ref (a 3), .int (nI x), .int (nI i), .int (nI y)]) ++ List.replicate (6 - (lg_sl ([.ref (a 3), .int (nI x), .int (nI i), .int (nI y)])).length) Slot.unset).toArray = ls at hl ⊢
  have hl : lv_has ls 6 [(0, .ref (a 3)), (1, .int (nI x)), (2, .int (nI i)), (3, .int (nI y))] := hl
  refine tq_gen (fun R Q hRe hQe => ?_)
  have hRf : 2 ≤ R.frames := by rw [hRe]; exact Nat.le_of_ble_eq_true rfl
  have hRl : 46 ≤ R.locals := by rw [hRe]; exact Nat.le_of_ble_eq_true rfl
  have hRc : 0 ≤ R.cells := by rw [hRe]; exact Nat.le_of_ble_eq_true rfl
  have hRs : 0 ≤ R.slots := by rw [hRe]; exact Nat.le_of_ble_eq_true rfl
  refine lv_aload_n hx hb dC_reaches_0 rfl (lv_at hl 0 rfl) ?_
  refine lv_iload_n hx hb dC_reaches_1 rfl (lv_at hl 1 rfl) ?_
  refine ks_rv ⟨hx, hb, hml, hown, hA⟩ (c_isEmpty l D a kI kL kZ u x (by omega)) (kw_C_65 hA rfl rfl ⟨Nat.le_trans (Nat.le_of_ble_eq_true rfl) hRf, Nat.le_trans (Nat.le_of_ble_eq_true rfl) hRl⟩) hK hP hS 3 3 rfl rfl rfl hl.1 (Nat.le_of_ble_eq_true rfl) ⟨by omega, by omega⟩ dC_reaches_2 rfl (fun H locs hP hS => ?_)
  refine tq_bf hx hb dC_reaches_5 (tgt := 10) (by decide) (fun h5 => ?_) (fun h5 => ?_)
  · refine lv_iload_n hx hb dC_reaches_10 rfl (lv_at hl 1 rfl) ?_
    refine lv_iload_n hx hb dC_reaches_11 rfl (lv_at hl 2 rfl) ?_
    refine ks_s ⟨hx, hb, hml, hown, hA⟩ (c_row l x i) (kw_C_57 hA rfl rfl ⟨Nat.le_trans (Nat.le_of_ble_eq_true rfl) hRf, Nat.le_trans (Nat.le_of_ble_eq_true rfl) hRl⟩) hP hS rfl hl.1 (Nat.le_of_ble_eq_true rfl) ⟨by omega, by omega⟩ dC_reaches_12 rfl (fun H locs hP hS => ?_)
    refine lv_istore (lv' := [(4, .int (nI (x * 7 + i))), (0, .ref (a 3)), (1, .int (nI x)), (2, .int (nI i)), (3, .int (nI y))]) hx hb dC_reaches_15 hl (by decide) rfl (fun ls hl => ?_)
    refine lv_aload_n hx hb dC_reaches_17 rfl (lv_at hl 1 rfl) ?_
    refine gf_C_24 (v := .ref (a 14)) hx hb hA hown hK hP 3 rfl rfl dC_reaches_18 ?_
    refine lv_iload hx hb dC_reaches_21 (lv_at hl 0 rfl) ?_
    refine lv_iconst (v := nI 0) hx hb dC_reaches_23 (by decide +kernel) ?_
    refine k_next ⟨hx, hb, hml, hown, hA⟩ (kw_C_69 hA rfl rfl ⟨Nat.le_trans (Nat.le_of_ble_eq_true rfl) hRf, Nat.le_trans (Nat.le_of_ble_eq_true rfl) hRl⟩) hK hP hS 14 15 1 rfl rfl rfl (by decide) (by omega) (by decide) (by decide) (by omega) (by omega) hl.1 (Nat.le_of_ble_eq_true rfl) ⟨by omega, by omega⟩ dC_reaches_24 (fun r1 H locs hr1 hP hS => ?_)
    refine lv_istore (lv' := [(5, .int (nI r1)), (4, .int (nI (x * 7 + i))), (0, .ref (a 3)), (1, .int (nI x)), (2, .int (nI i)), (3, .int (nI y))]) hx hb dC_reaches_27 hl (by decide) rfl (fun ls hl => ?_)
    have lp : ∀ (fu : Nat) (r : Nat) (ls : Array Slot) (H : Heap) (locs : List Loc), (∀ b, b < r → b < 160 → u.1 0 (x * 7 + i) b = true → u.1 0 (b * 7 + 6) y = false) → (r < 160 → u.1 0 (x * 7 + i) r = true) → r < 224 → va_P D vwA (sW a kI kL kZ u) H → va_S (fun _ => False) s.heap H locs → 224 - r < fu → lv_has ls 6 [(5, .int (nI r)), (4, .int (nI (x * 7 + i))), (0, .ref (a 3)), (1, .int (nI x)), (2, .int (nI i)), (3, .int (nI y))] → W p l e R s m ([.ref (a 3), .int (nI x), .int (nI i), .int (nI y)] : List Value).toArray below meth c H locs 0 0 Q (F0 m 29 ls []) := by
      intro fu
      induction fu with
      | zero => intros; omega
      | succ fu ih29 =>
        intro r ls H locs g1 g2 g3 hP hS hfu hl
        refine lv_iload hx hb dC_reaches_29 (lv_at hl 0 rfl) ?_
        refine lv_sipush (v := nI 160) hx hb dC_reaches_31 (by decide +kernel) ?_
        refine tq_ge hx hb dC_reaches_34 (tgt := 75) (by decide) (by omega) (by omega) (fun h34 => ?_) (fun h34 => ?_)
        · refine lv_iconst (v := nI 0) hx hb dC_reaches_75 (by decide +kernel) ?_
          subst hQe
          exact W.zret (v := nI 0) (ty := .boolean) hx hb hr rfl (fun t ht hW => ⟨⟨_, (), rfl, ⟨false, rfl, (fun z => (by cases z)), fun z => z.elim (fun z => (by rw [h5] at z; cases z)) (fun ⟨d, a1, a2, a3⟩ => (by rw [g1 d (by omega) a1 a2] at a3; cases a3))⟩, trivial⟩, hS.F ht⟩) hS.2.2 dC_reaches_76
        · refine lv_aload_n hx hb dC_reaches_37 rfl (lv_at hl 2 rfl) ?_
          refine gf_C_24 (v := .ref (a 14)) hx hb hA hown hK hP 3 rfl rfl dC_reaches_38 ?_
          refine lv_iload hx hb dC_reaches_41 (lv_at hl 0 rfl) ?_
          refine lv_bipush (v := nI 6) hx hb dC_reaches_43 (by decide +kernel) ?_
          refine ks_s ⟨hx, hb, hml, hown, hA⟩ (c_row l r 6) (kw_C_57 hA rfl rfl ⟨Nat.le_trans (Nat.le_of_ble_eq_true rfl) hRf, Nat.le_trans (Nat.le_of_ble_eq_true rfl) hRl⟩) hP hS rfl hl.1 (Nat.le_of_ble_eq_true rfl) ⟨by omega, by omega⟩ dC_reaches_45 rfl (fun H locs hP hS => ?_)
          refine lv_iload_n hx hb dC_reaches_48 rfl (lv_at hl 5 rfl) ?_
          refine k_holds ⟨hx, hb, hml, hown, hA⟩ (kw_C_61 hA rfl rfl ⟨Nat.le_trans (Nat.le_of_ble_eq_true rfl) hRf, Nat.le_trans (Nat.le_of_ble_eq_true rfl) hRl⟩) hK hP hS 14 15 1 rfl rfl rfl (by omega) (by omega) (by decide) (by decide) hl.1 (Nat.le_of_ble_eq_true rfl) ⟨by omega, by omega⟩ dC_reaches_49 (fun H locs hP hS => ?_)
          refine tq_bf hx hb dC_reaches_52 (tgt := 57) (by decide) (fun h52 => ?_) (fun h52 => ?_)
          · refine lv_aload_n hx hb dC_reaches_57 rfl (lv_at hl 2 rfl) ?_
            refine gf_C_24 (v := .ref (a 14)) hx hb hA hown hK hP 3 rfl rfl dC_reaches_58 ?_
            refine lv_iload hx hb dC_reaches_61 (lv_at hl 1 rfl) ?_
            refine lv_iload hx hb dC_reaches_63 (lv_at hl 0 rfl) ?_
            refine lv_iconst (v := nI 1) hx hb dC_reaches_65 (by decide +kernel) ?_
            refine tq_iadd hx hb dC_reaches_66 ?_
            refine k_next ⟨hx, hb, hml, hown, hA⟩ (kw_C_69 hA rfl rfl ⟨Nat.le_trans (Nat.le_of_ble_eq_true rfl) hRf, Nat.le_trans (Nat.le_of_ble_eq_true rfl) hRl⟩) hK hP hS 14 15 1 rfl rfl rfl (by decide) (by omega) (by decide) (by decide) (by omega) (by omega) hl.1 (Nat.le_of_ble_eq_true rfl) ⟨by omega, by omega⟩ dC_reaches_67 (fun r2 H locs hr2 hP hS => ?_)
            refine lv_istore (lv' := [(5, .int (nI r2)), (4, .int (nI (x * 7 + i))), (0, .ref (a 3)), (1, .int (nI x)), (2, .int (nI i)), (3, .int (nI y))]) hx hb dC_reaches_70 hl (by decide) rfl (fun ls hl => ?_)
            refine lv_goto hx hb dC_reaches_72 (tgt := 29) (by decide) ?_
            have hge := hr2.1
            have hlt := hr2.2.1
            exact ih29 r2 ls H locs (tm_nx_step g1 h52 hr2) hr2.2.2.2 (by omega) hP hS (by omega) (lv_sub hl [0, 1, 2, 3, 4, 5] rfl)
          · refine lv_iconst (v := nI 1) hx hb dC_reaches_55 (by decide +kernel) ?_
            subst hQe
            exact W.zret (v := nI 1) (ty := .boolean) hx hb hr rfl (fun t ht hW => ⟨⟨_, (), rfl, ⟨true, rfl, fun _ => Or.inr ⟨_, h34, g2 h34, h52⟩, fun _ => rfl⟩, trivial⟩, hS.F ht⟩) hS.2.2 dC_reaches_56
    exact lp _ r1 ls _ _ (tm_nx_first hr1) hr1.2.2.2 (by have := hr1.2.1; omega) hP hS (Nat.lt_succ_self _) (lv_sub hl [0, 1, 2, 3, 4, 5] rfl)
  · refine lv_iconst (v := nI 1) hx hb dC_reaches_8 (by decide +kernel) ?_
    subst hQe
    exact W.zret (v := nI 1) (ty := .boolean) hx hb hr rfl (fun t ht hW => ⟨⟨_, (), rfl, ⟨true, rfl, fun _ => Or.inl h5, fun _ => rfl⟩, trivial⟩, hS.F ht⟩) hS.2.2 dC_reaches_9
set_option maxHeartbeats 4000000 in
set_option maxRecDepth 100000 in
/-- c_admitBoth -/
theorem c_admitBoth (l : Launch) (D : va_G) (a : Nat → Nat) (kI kL kZ : ClassId) (u : sU) (N : Nat) (kd fa fb : Nat → Nat) (htm : s_tm u N kd fa fb) (htr : s_tr u) (k : Nat) (hk : k < N) (hk2 : kd k = 2) : Met l yC_admitBoth (wC_admitBoth :: wA) ({ frames := 2, cells := 0, slots := 0, locals := 49 }) (va_Pc [.ref (a 3), .int (nI k)] (tq_wB D vwA (sW a kI kL kZ u) (sT kI kL kZ))) (va_Qv (fun (u' : sU) => s_ext u u' ∧ s_snd u u' (fun (G : Nat → Nat → Prop) => ∀ z, z < 160 → G (z * 7 + 6) (fa k) → G (z * 7 + 6) (fb k) → G (z * 7 + 6) k) ∧ ∀ b, b < 160 → (u.1 0 (b * 7 + 6) (fa k) = true → u.1 0 (b * 7 + 6) (fb k) = true → u'.1 0 (b * 7 + 6) k = true)) (fun u' t => va_P D vwA (sW a kI kL kZ u') t.heap) (sA a)) 0 0 (sA a) := by
  refine Met.ofW (cc := bC_admitBoth) (maxL := 4) (ret := none) (by decide +kernel) rfl ?_
  intro p e s m args below meth c s₁ B1 hml hv
  obtain ⟨rfl, hP, hK, hD0⟩ := hv
  have hx := B1.exec
  have hb := B1.bytes
  have hr := B1.returns
  have hA : ∀ w ∈ wA, w.before ([.ref (a 3), .int (nI k)] : List Value).toArray s = true := fun w h => atoms_spec (ws := wC_admitBoth :: wA) B1.pre w (List.mem_cons_of_mem _ h)
  have hown : s.vm.findClass RcC = some m.cls := findClass_of_methodNamed B1.named
  have hlocks := B1.notSynchronized
  have hS : va_S (sA a) s.heap s.heap [] := va_S.rf
  have hl := lv_entry ([.ref (a 3), .int (nI k)]) (n := 4) (Nat.le_of_ble_eq_true rfl)
  rw [lg_entry_eq]
  generalize (lg_sl ([.ref (a 3), .int (nI k)]) ++ List.replicate (4 - (lg_sl ([.ref (a 3), .int (nI k)])).length) Slot.unset).toArray = ls at hl ⊢
  have hl : lv_has ls 4 [(0, .ref (a 3)), (1, .int (nI k))] := hl
  refine tq_gen (fun R Q hRe hQe => ?_)
  have hRf : 2 ≤ R.frames := by rw [hRe]; exact Nat.le_of_ble_eq_true rfl
  have hRl : 49 ≤ R.locals := by rw [hRe]; exact Nat.le_of_ble_eq_true rfl
  have hRc : 0 ≤ R.cells := by rw [hRe]; exact Nat.le_of_ble_eq_true rfl
  have hRs : 0 ≤ R.slots := by rw [hRe]; exact Nat.le_of_ble_eq_true rfl
  have hD := sA_D hD0
  have hN := tm_N htm
  have hb2 := tm_2 htm hk hk2
  refine lv_aload_n hx hb dC_admitBoth_0 rfl (lv_at hl 0 rfl) ?_
  refine gf_C_11 (v := .ref (a 1)) hx hb hA hown hK hP 3 rfl rfl dC_admitBoth_1 ?_
  refine lv_iload_n hx hb dC_admitBoth_4 rfl (lv_at hl 1 rfl) ?_
  refine ks_rv ⟨hx, hb, hml, hown, hA⟩ (c_left l D a kI kL kZ u k (by omega)) (kw_C_164 hA rfl rfl ⟨Nat.le_trans (Nat.le_of_ble_eq_true rfl) hRf, Nat.le_trans (Nat.le_of_ble_eq_true rfl) hRl⟩) hK hP hS 1 1 rfl rfl rfl hl.1 (Nat.le_of_ble_eq_true rfl) ⟨by omega, by omega⟩ dC_admitBoth_5 rfl (fun H locs hP hS => ?_)
  refine tq_i hb2.1 ?_
  refine lv_bipush (v := nI 6) hx hb dC_admitBoth_8 (by decide +kernel) ?_
  refine ks_s ⟨hx, hb, hml, hown, hA⟩ (c_row l (fa k) 6) (kw_C_57 hA rfl rfl ⟨Nat.le_trans (Nat.le_of_ble_eq_true rfl) hRf, Nat.le_trans (Nat.le_of_ble_eq_true rfl) hRl⟩) hP hS rfl hl.1 (Nat.le_of_ble_eq_true rfl) ⟨by omega, by omega⟩ dC_admitBoth_10 rfl (fun H locs hP hS => ?_)
  refine lv_istore_n (lv' := [(2, .int (nI ((fa k) * 7 + 6))), (0, .ref (a 3)), (1, .int (nI k))]) hx hb dC_admitBoth_13 rfl hl (by decide) rfl (fun ls hl => ?_)
  refine lv_aload_n hx hb dC_admitBoth_14 rfl (lv_at hl 1 rfl) ?_
  refine gf_C_28 (v := .ref (a 16)) hx hb hA hown hK hP 3 rfl rfl dC_admitBoth_15 ?_
  refine lv_iload_n hx hb dC_admitBoth_18 rfl (lv_at hl 0 rfl) ?_
  refine lv_iconst (v := nI 0) hx hb dC_admitBoth_19 (by decide +kernel) ?_
  refine k_next ⟨hx, hb, hml, hown, hA⟩ (kw_C_69 hA rfl rfl ⟨Nat.le_trans (Nat.le_of_ble_eq_true rfl) hRf, Nat.le_trans (Nat.le_of_ble_eq_true rfl) hRl⟩) hK hP hS 16 17 1 rfl rfl rfl (by decide) (by omega) (by decide) (by decide) (by omega) (by omega) hl.1 (Nat.le_of_ble_eq_true rfl) ⟨by omega, by omega⟩ dC_admitBoth_20 (fun r1 H locs hr1 hP hS => ?_)
  refine lv_istore_n (lv' := [(3, .int (nI r1)), (2, .int (nI ((fa k) * 7 + 6))), (0, .ref (a 3)), (1, .int (nI k))]) hx hb dC_admitBoth_23 rfl hl (by decide) rfl (fun ls hl => ?_)
  have lp : ∀ (fu : Nat) (r : Nat) (v : sU) (ls : Array Slot) (H : Heap) (locs : List Loc), s_ext u v → s_snd u v (fun (G : Nat → Nat → Prop) => ∀ z, z < 160 → G (z * 7 + 6) (fa k) → G (z * 7 + 6) (fb k) → G (z * 7 + 6) k) → (∀ b, b < r → b < 160 → (u.1 0 (b * 7 + 6) (fa k) = true → u.1 0 (b * 7 + 6) (fb k) = true → v.1 0 (b * 7 + 6) k = true)) → (r < 160 → v.1 1 (fa k * 7 + 6) r = true) → r < 224 → va_P D vwA (sW a kI kL kZ v) H → va_D (sA a) (sW a kI kL kZ v) → va_S (sA a) s.heap H locs → 224 - r < fu → lv_has ls 4 [(3, .int (nI r)), (2, .int (nI ((fa k) * 7 + 6))), (0, .ref (a 3)), (1, .int (nI k))] → W p l e R s m ([.ref (a 3), .int (nI k)] : List Value).toArray below meth c H locs 0 0 Q (F0 m 24 ls []) := by
    intro fu
    induction fu with
    | zero => intros; omega
    | succ fu ih24 =>
      intro r v ls H locs g1 g2 g3 g4 g5 hP hD hS hfu hl
      refine lv_iload_n hx hb dC_admitBoth_24 rfl (lv_at hl 0 rfl) ?_
      refine lv_sipush (v := nI 160) hx hb dC_admitBoth_25 (by decide +kernel) ?_
      refine tq_ge hx hb dC_admitBoth_28 (tgt := 78) (by decide) (by omega) (by omega) (fun h28 => ?_) (fun h28 => ?_)
      · subst hQe
        exact W.vret hx hb hr (fun t ht hW => ⟨⟨v, rfl, ⟨g1, g2, fun b a1 => g3 b (by omega) a1⟩, tq_hp ht hP⟩, hS.F ht⟩) hS.2.2 dC_admitBoth_78
      · refine lv_aload_n hx hb dC_admitBoth_31 rfl (lv_at hl 2 rfl) ?_
        refine gf_C_24 (v := .ref (a 14)) hx hb hA hown hK hP 3 rfl rfl dC_admitBoth_32 ?_
        refine lv_iload_n hx hb dC_admitBoth_35 rfl (lv_at hl 0 rfl) ?_
        refine lv_bipush (v := nI 6) hx hb dC_admitBoth_36 (by decide +kernel) ?_
        refine ks_s ⟨hx, hb, hml, hown, hA⟩ (c_row l r 6) (kw_C_57 hA rfl rfl ⟨Nat.le_trans (Nat.le_of_ble_eq_true rfl) hRf, Nat.le_trans (Nat.le_of_ble_eq_true rfl) hRl⟩) hP hS rfl hl.1 (Nat.le_of_ble_eq_true rfl) ⟨by omega, by omega⟩ dC_admitBoth_38 rfl (fun H locs hP hS => ?_)
        refine lv_aload_n hx hb dC_admitBoth_41 rfl (lv_at hl 2 rfl) ?_
        refine gf_C_11 (v := .ref (a 1)) hx hb hA hown hK hP 3 rfl rfl dC_admitBoth_42 ?_
        refine lv_iload_n hx hb dC_admitBoth_45 rfl (lv_at hl 3 rfl) ?_
        refine ks_rv ⟨hx, hb, hml, hown, hA⟩ (c_right l D a kI kL kZ v k (by omega)) (kw_C_167 hA rfl rfl ⟨Nat.le_trans (Nat.le_of_ble_eq_true rfl) hRf, Nat.le_trans (Nat.le_of_ble_eq_true rfl) hRl⟩) hK hP hS 1 1 rfl rfl rfl hl.1 (Nat.le_of_ble_eq_true rfl) ⟨by omega, by omega⟩ dC_admitBoth_46 rfl (fun H locs hP hS => ?_)
        refine tq_i ((tm_2 (tm_ext htm g1) hk hk2).2.1) ?_
        refine k_holds ⟨hx, hb, hml, hown, hA⟩ (kw_C_61 hA rfl rfl ⟨Nat.le_trans (Nat.le_of_ble_eq_true rfl) hRf, Nat.le_trans (Nat.le_of_ble_eq_true rfl) hRl⟩) hK hP hS 14 15 1 rfl rfl rfl (by omega) (by omega) (by decide) (by decide) hl.1 (Nat.le_of_ble_eq_true rfl) ⟨by omega, by omega⟩ dC_admitBoth_49 (fun H locs hP hS => ?_)
        refine tq_bf hx hb dC_admitBoth_52 (tgt := 63) (by decide) (fun h52 => ?_) (fun h52 => ?_)
        · refine lv_aload_n hx hb dC_admitBoth_63 rfl (lv_at hl 2 rfl) ?_
          refine gf_C_28 (v := .ref (a 16)) hx hb hA hown hK hP 3 rfl rfl dC_admitBoth_64 ?_
          refine lv_iload_n hx hb dC_admitBoth_67 rfl (lv_at hl 1 rfl) ?_
          refine lv_iload_n hx hb dC_admitBoth_68 rfl (lv_at hl 0 rfl) ?_
          refine lv_iconst (v := nI 1) hx hb dC_admitBoth_69 (by decide +kernel) ?_
          refine tq_iadd hx hb dC_admitBoth_70 ?_
          refine k_next ⟨hx, hb, hml, hown, hA⟩ (kw_C_69 hA rfl rfl ⟨Nat.le_trans (Nat.le_of_ble_eq_true rfl) hRf, Nat.le_trans (Nat.le_of_ble_eq_true rfl) hRl⟩) hK hP hS 16 17 1 rfl rfl rfl (by decide) (by omega) (by decide) (by decide) (by omega) (by omega) hl.1 (Nat.le_of_ble_eq_true rfl) ⟨by omega, by omega⟩ dC_admitBoth_71 (fun r2 H locs hr2 hP hS => ?_)
          refine lv_istore_n (lv' := [(3, .int (nI r2)), (2, .int (nI ((fa k) * 7 + 6))), (0, .ref (a 3)), (1, .int (nI k))]) hx hb dC_admitBoth_74 rfl hl (by decide) rfl (fun ls hl => ?_)
          refine lv_goto hx hb dC_admitBoth_75 (tgt := 24) (by decide) ?_
          have hge := hr2.1
          have hlt := hr2.2.1
          exact ih24 r2 v ls H locs g1 g2 (nx_mono_step (P := fun b => (u.1 0 (b * 7 + 6) (fa k) = true → u.1 0 (b * 7 + 6) (fb k) = true → v.1 0 (b * 7 + 6) k = true)) g3 (fun a1 a2 => absurd (g1.1 _ _ a2) (by rw [h52]; decide)) hr2 (fun b a1 a2 a3 _ => absurd (g1.1 _ _ a3) (by rw [src_fact (tr_ext htr g1) a1 (by decide) (by omega) a2]; decide))) hr2.2.2.2 (by omega) hP hD hS (by omega) (lv_sub hl [0, 1, 2, 3] rfl)
        · refine lv_aload_n hx hb dC_admitBoth_55 rfl (lv_at hl 2 rfl) ?_
          refine lv_iload_n hx hb dC_admitBoth_56 rfl (lv_at hl 0 rfl) ?_
          refine lv_bipush (v := nI 6) hx hb dC_admitBoth_57 (by decide +kernel) ?_
          refine lv_iload_n hx hb dC_admitBoth_59 rfl (lv_at hl 3 rfl) ?_
          refine ks_v (wf := sW a kI kL kZ) (u := v) ⟨hx, hb, hml, hown, hA⟩ (c_add l D a kI kL kZ v r 6 k (by omega) (by omega) (by omega)) (kw_C_94 hA rfl rfl ⟨Nat.le_trans (Nat.le_of_ble_eq_true rfl) hRf, Nat.le_trans (Nat.le_of_ble_eq_true rfl) hRl⟩) hK hP hD hS (fun _ h => h) (fun u' => sW_adr u') 3 3 rfl rfl rfl hl.1 (Nat.le_of_ble_eq_true rfl) ⟨by omega, by omega⟩ dC_admitBoth_60 rfl (fun u3 H locs hu3 hP hD hS => ?_)
          refine lv_aload_n hx hb dC_admitBoth_63 rfl (lv_at hl 2 rfl) ?_
          refine gf_C_28 (v := .ref (a 16)) hx hb hA hown hK hP 3 rfl rfl dC_admitBoth_64 ?_
          refine lv_iload_n hx hb dC_admitBoth_67 rfl (lv_at hl 1 rfl) ?_
          refine lv_iload_n hx hb dC_admitBoth_68 rfl (lv_at hl 0 rfl) ?_
          refine lv_iconst (v := nI 1) hx hb dC_admitBoth_69 (by decide +kernel) ?_
          refine tq_iadd hx hb dC_admitBoth_70 ?_
          refine k_next ⟨hx, hb, hml, hown, hA⟩ (kw_C_69 hA rfl rfl ⟨Nat.le_trans (Nat.le_of_ble_eq_true rfl) hRf, Nat.le_trans (Nat.le_of_ble_eq_true rfl) hRl⟩) hK hP hS 16 17 1 rfl rfl rfl (by decide) (by omega) (by decide) (by decide) (by omega) (by omega) hl.1 (Nat.le_of_ble_eq_true rfl) ⟨by omega, by omega⟩ dC_admitBoth_71 (fun r4 H locs hr4 hP hS => ?_)
          refine lv_istore_n (lv' := [(3, .int (nI r4)), (2, .int (nI ((fa k) * 7 + 6))), (0, .ref (a 3)), (1, .int (nI k))]) hx hb dC_admitBoth_74 rfl hl (by decide) rfl (fun ls hl => ?_)
          refine lv_goto hx hb dC_admitBoth_75 (tgt := 24) (by decide) ?_
          have hge := hr4.1
          have hlt := hr4.2.1
          exact ih24 r4 u3 ls H locs (ext_trans g1 hu3.1) (snd_fact g2 hu3 (fun G h1 h2 => h2 r h28 (h1 _ _ (src_fact (tr_ext htr g1) h28 (by decide) (by omega) (g4 h28))) (h1 _ _ h52))) (nx_mono_step (P := fun b => (u.1 0 (b * 7 + 6) (fa k) = true → u.1 0 (b * 7 + 6) (fb k) = true → u3.1 0 (b * 7 + 6) k = true)) (fun b a1 a2 a3 a4 => hu3.1.1 _ _ (g3 b a1 a2 a3 a4)) (fun _ _ => (hu3.2 _ _).mpr (Or.inr ⟨rfl, rfl⟩)) hr4 (fun b a1 a2 a3 _ => absurd ((ext_trans g1 hu3.1).1 _ _ a3) (by rw [src_fact (tr_ext (tr_ext htr g1) hu3.1) a1 (by decide) (by omega) a2]; decide))) hr4.2.2.2 (by omega) hP hD hS (by omega) (lv_sub hl [0, 1, 2, 3] rfl)
  exact lp _ r1 u ls _ _ (ext_refl u) snd_refl (nx_mono_first (P := fun b => (u.1 0 (b * 7 + 6) (fa k) = true → u.1 0 (b * 7 + 6) (fb k) = true → u.1 0 (b * 7 + 6) k = true)) hr1 (fun b a1 a2 a3 _ => absurd a3 (by rw [src_fact htr a1 (by decide) (by omega) a2]; decide))) hr1.2.2.2 (by have := hr1.2.1; omega) hP hD hS (Nat.lt_succ_self _) (lv_sub hl [0, 1, 2, 3] rfl)
set_option maxHeartbeats 4000000 in
set_option maxRecDepth 100000 in
/-- c_admitSome -/
theorem c_admitSome (l : Launch) (D : va_G) (a : Nat → Nat) (kI kL kZ : ClassId) (u : sU) (N : Nat) (kd fa fb : Nat → Nat) (htm : s_tm u N kd fa fb) (htr : s_tr u) (k : Nat) (hk : k < N) (hk3 : kd k = 3) : Met l yC_admitSome (wC_admitSome :: wA) ({ frames := 3, cells := 0, slots := 0, locals := 74 }) (va_Pc [.ref (a 3), .int (nI k)] (tq_wB D vwA (sW a kI kL kZ u) (sT kI kL kZ))) (va_Qv (fun (u' : sU) => s_ext u u' ∧ s_snd u u' (fun (G : Nat → Nat → Prop) => ∀ z d, z < 160 → G (z * 7 + fa k) d → G (d * 7 + 6) (fb k) → G (z * 7 + 6) k) ∧ ∀ b, b < 160 → (u.1 0 (b * 7 + 6) (fb k) = true → ∀ z, z < 160 → u.1 0 (z * 7 + fa k) b = true → u'.1 0 (z * 7 + 6) k = true)) (fun u' t => va_P D vwA (sW a kI kL kZ u') t.heap) (sA a)) 0 0 (sA a) := by
  refine Met.ofW (cc := bC_admitSome) (maxL := 4) (ret := none) (by decide +kernel) rfl ?_
  intro p e s m args below meth c s₁ B1 hml hv
  obtain ⟨rfl, hP, hK, hD0⟩ := hv
  have hx := B1.exec
  have hb := B1.bytes
  have hr := B1.returns
  have hA : ∀ w ∈ wA, w.before ([.ref (a 3), .int (nI k)] : List Value).toArray s = true := fun w h => atoms_spec (ws := wC_admitSome :: wA) B1.pre w (List.mem_cons_of_mem _ h)
  have hown : s.vm.findClass RcC = some m.cls := findClass_of_methodNamed B1.named
  have hlocks := B1.notSynchronized
  have hS : va_S (sA a) s.heap s.heap [] := va_S.rf
  have hl := lv_entry ([.ref (a 3), .int (nI k)]) (n := 4) (Nat.le_of_ble_eq_true rfl)
  rw [lg_entry_eq]
  generalize (lg_sl ([.ref (a 3), .int (nI k)]) ++ List.replicate (4 - (lg_sl ([.ref (a 3), .int (nI k)])).length) Slot.unset).toArray = ls at hl ⊢
  have hl : lv_has ls 4 [(0, .ref (a 3)), (1, .int (nI k))] := hl
  refine tq_gen (fun R Q hRe hQe => ?_)
  have hRf : 3 ≤ R.frames := by rw [hRe]; exact Nat.le_of_ble_eq_true rfl
  have hRl : 74 ≤ R.locals := by rw [hRe]; exact Nat.le_of_ble_eq_true rfl
  have hRc : 0 ≤ R.cells := by rw [hRe]; exact Nat.le_of_ble_eq_true rfl
  have hRs : 0 ≤ R.slots := by rw [hRe]; exact Nat.le_of_ble_eq_true rfl
  have hD := sA_D hD0
  have hN := tm_N htm
  have hb3 := tm_3 htm hk hk3
  refine lv_aload_n hx hb dC_admitSome_0 rfl (lv_at hl 0 rfl) ?_
  refine gf_C_11 (v := .ref (a 1)) hx hb hA hown hK hP 3 rfl rfl dC_admitSome_1 ?_
  refine lv_iload_n hx hb dC_admitSome_4 rfl (lv_at hl 1 rfl) ?_
  refine ks_rv ⟨hx, hb, hml, hown, hA⟩ (c_right l D a kI kL kZ u k (by omega)) (kw_C_167 hA rfl rfl ⟨Nat.le_trans (Nat.le_of_ble_eq_true rfl) hRf, Nat.le_trans (Nat.le_of_ble_eq_true rfl) hRl⟩) hK hP hS 1 1 rfl rfl rfl hl.1 (Nat.le_of_ble_eq_true rfl) ⟨by omega, by omega⟩ dC_admitSome_5 rfl (fun H locs hP hS => ?_)
  refine tq_i hb3.2.1 ?_
  refine lv_bipush (v := nI 6) hx hb dC_admitSome_8 (by decide +kernel) ?_
  refine ks_s ⟨hx, hb, hml, hown, hA⟩ (c_row l (fb k) 6) (kw_C_57 hA rfl rfl ⟨Nat.le_trans (Nat.le_of_ble_eq_true rfl) hRf, Nat.le_trans (Nat.le_of_ble_eq_true rfl) hRl⟩) hP hS rfl hl.1 (Nat.le_of_ble_eq_true rfl) ⟨by omega, by omega⟩ dC_admitSome_10 rfl (fun H locs hP hS => ?_)
  refine lv_istore_n (lv' := [(2, .int (nI ((fb k) * 7 + 6))), (0, .ref (a 3)), (1, .int (nI k))]) hx hb dC_admitSome_13 rfl hl (by decide) rfl (fun ls hl => ?_)
  refine lv_aload_n hx hb dC_admitSome_14 rfl (lv_at hl 1 rfl) ?_
  refine gf_C_28 (v := .ref (a 16)) hx hb hA hown hK hP 3 rfl rfl dC_admitSome_15 ?_
  refine lv_iload_n hx hb dC_admitSome_18 rfl (lv_at hl 0 rfl) ?_
  refine lv_iconst (v := nI 0) hx hb dC_admitSome_19 (by decide +kernel) ?_
  refine k_next ⟨hx, hb, hml, hown, hA⟩ (kw_C_69 hA rfl rfl ⟨Nat.le_trans (Nat.le_of_ble_eq_true rfl) hRf, Nat.le_trans (Nat.le_of_ble_eq_true rfl) hRl⟩) hK hP hS 16 17 1 rfl rfl rfl (by decide) (by omega) (by decide) (by decide) (by omega) (by omega) hl.1 (Nat.le_of_ble_eq_true rfl) ⟨by omega, by omega⟩ dC_admitSome_20 (fun r1 H locs hr1 hP hS => ?_)
  refine lv_istore_n (lv' := [(3, .int (nI r1)), (2, .int (nI ((fb k) * 7 + 6))), (0, .ref (a 3)), (1, .int (nI k))]) hx hb dC_admitSome_23 rfl hl (by decide) rfl (fun ls hl => ?_)
  have lp : ∀ (fu : Nat) (r : Nat) (v : sU) (ls : Array Slot) (H : Heap) (locs : List Loc), s_ext u v → s_snd u v (fun (G : Nat → Nat → Prop) => ∀ z d, z < 160 → G (z * 7 + fa k) d → G (d * 7 + 6) (fb k) → G (z * 7 + 6) k) → (∀ b, b < r → b < 160 → (u.1 0 (b * 7 + 6) (fb k) = true → ∀ z, z < 160 → u.1 0 (z * 7 + fa k) b = true → v.1 0 (z * 7 + 6) k = true)) → (r < 160 → v.1 1 (fb k * 7 + 6) r = true) → r < 224 → va_P D vwA (sW a kI kL kZ v) H → va_D (sA a) (sW a kI kL kZ v) → va_S (sA a) s.heap H locs → 224 - r < fu → lv_has ls 4 [(3, .int (nI r)), (2, .int (nI ((fb k) * 7 + 6))), (0, .ref (a 3)), (1, .int (nI k))] → W p l e R s m ([.ref (a 3), .int (nI k)] : List Value).toArray below meth c H locs 0 0 Q (F0 m 24 ls []) := by
    intro fu
    induction fu with
    | zero => intros; omega
    | succ fu ih24 =>
      intro r v ls H locs g1 g2 g3 g4 g5 hP hD hS hfu hl
      refine lv_iload_n hx hb dC_admitSome_24 rfl (lv_at hl 0 rfl) ?_
      refine lv_sipush (v := nI 160) hx hb dC_admitSome_25 (by decide +kernel) ?_
      refine tq_ge hx hb dC_admitSome_28 (tgt := 65) (by decide) (by omega) (by omega) (fun h28 => ?_) (fun h28 => ?_)
      · subst hQe
        exact W.vret hx hb hr (fun t ht hW => ⟨⟨v, rfl, ⟨g1, g2, fun b a1 => g3 b (by omega) a1⟩, tq_hp ht hP⟩, hS.F ht⟩) hS.2.2 dC_admitSome_65
      · refine lv_aload_n hx hb dC_admitSome_31 rfl (lv_at hl 2 rfl) ?_
        refine lv_iload_n hx hb dC_admitSome_32 rfl (lv_at hl 0 rfl) ?_
        refine lv_aload_n hx hb dC_admitSome_33 rfl (lv_at hl 2 rfl) ?_
        refine gf_C_11 (v := .ref (a 1)) hx hb hA hown hK hP 3 rfl rfl dC_admitSome_34 ?_
        refine lv_iload_n hx hb dC_admitSome_37 rfl (lv_at hl 3 rfl) ?_
        refine ks_rv ⟨hx, hb, hml, hown, hA⟩ (c_left l D a kI kL kZ v k (by omega)) (kw_C_164 hA rfl rfl ⟨Nat.le_trans (Nat.le_of_ble_eq_true rfl) hRf, Nat.le_trans (Nat.le_of_ble_eq_true rfl) hRl⟩) hK hP hS 1 1 rfl rfl rfl hl.1 (Nat.le_of_ble_eq_true rfl) ⟨by omega, by omega⟩ dC_admitSome_38 rfl (fun H locs hP hS => ?_)
        refine tq_i ((tm_3 (tm_ext htm g1) hk hk3).1) ?_
        refine ks_s ⟨hx, hb, hml, hown, hA⟩ (c_row l r (fa k)) (kw_C_57 hA rfl rfl ⟨Nat.le_trans (Nat.le_of_ble_eq_true rfl) hRf, Nat.le_trans (Nat.le_of_ble_eq_true rfl) hRl⟩) hP hS rfl hl.1 (Nat.le_of_ble_eq_true rfl) ⟨by omega, by omega⟩ dC_admitSome_41 rfl (fun H locs hP hS => ?_)
        refine lv_bipush (v := nI 6) hx hb dC_admitSome_44 (by decide +kernel) ?_
        refine lv_iload_n hx hb dC_admitSome_46 rfl (lv_at hl 3 rfl) ?_
        refine ks_v (wf := sW a kI kL kZ) (u := v) ⟨hx, hb, hml, hown, hA⟩ (c_addFromAll l D a kI kL kZ v r (fa k) 6 k (tr_ext htr g1) (by omega) (by omega) (by omega) (by omega)) (kw_C_113 hA rfl rfl ⟨Nat.le_trans (Nat.le_of_ble_eq_true rfl) hRf, Nat.le_trans (Nat.le_of_ble_eq_true rfl) hRl⟩) hK hP hD hS (fun _ h => h) (fun u' => sW_adr u') 3 3 rfl rfl rfl hl.1 (Nat.le_of_ble_eq_true rfl) ⟨by omega, by omega⟩ dC_admitSome_47 rfl (fun u2 H locs hu2 hP hD hS => ?_)
        refine lv_aload_n hx hb dC_admitSome_50 rfl (lv_at hl 2 rfl) ?_
        refine gf_C_28 (v := .ref (a 16)) hx hb hA hown hK hP 3 rfl rfl dC_admitSome_51 ?_
        refine lv_iload_n hx hb dC_admitSome_54 rfl (lv_at hl 1 rfl) ?_
        refine lv_iload_n hx hb dC_admitSome_55 rfl (lv_at hl 0 rfl) ?_
        refine lv_iconst (v := nI 1) hx hb dC_admitSome_56 (by decide +kernel) ?_
        refine tq_iadd hx hb dC_admitSome_57 ?_
        refine k_next ⟨hx, hb, hml, hown, hA⟩ (kw_C_69 hA rfl rfl ⟨Nat.le_trans (Nat.le_of_ble_eq_true rfl) hRf, Nat.le_trans (Nat.le_of_ble_eq_true rfl) hRl⟩) hK hP hS 16 17 1 rfl rfl rfl (by decide) (by omega) (by decide) (by decide) (by omega) (by omega) hl.1 (Nat.le_of_ble_eq_true rfl) ⟨by omega, by omega⟩ dC_admitSome_58 (fun r3 H locs hr3 hP hS => ?_)
        refine lv_istore_n (lv' := [(3, .int (nI r3)), (2, .int (nI ((fb k) * 7 + 6))), (0, .ref (a 3)), (1, .int (nI k))]) hx hb dC_admitSome_61 rfl hl (by decide) rfl (fun ls hl => ?_)
        refine lv_goto hx hb dC_admitSome_62 (tgt := 24) (by decide) ?_
        have hge := hr3.1
        have hlt := hr3.2.1
        exact ih24 r3 u2 ls H locs (ext_trans g1 hu2.1) (from_snd h28 (by omega) (tr_ext htr g1) g2 hu2.2 (fun G h1 h2 z a1 a2 => h1 z r a1 a2 (h2 _ _ (src_fact (tr_ext htr g1) h28 (by decide) (by omega) (g4 h28))))) (nx_mono_step (P := fun b => (u.1 0 (b * 7 + 6) (fb k) = true → ∀ z, z < 160 → u.1 0 (z * 7 + fa k) b = true → u2.1 0 (z * 7 + 6) k = true)) (fun b a1 a2 a3 z a4 a5 => hu2.1.1 _ _ (g3 b a1 a2 a3 z a4 a5)) (fun _ z a4 a5 => from_all h28 (by omega) (tr_ext htr g1) g1 hu2.2 a4 a5) hr3 (fun b a1 a2 a3 _ _ _ => absurd ((ext_trans g1 hu2.1).1 _ _ a3) (by rw [src_fact (tr_ext (tr_ext htr g1) hu2.1) a1 (by decide) (by omega) a2]; decide))) hr3.2.2.2 (by omega) hP hD hS (by omega) (lv_sub hl [0, 1, 2, 3] rfl)
  exact lp _ r1 u ls _ _ (ext_refl u) snd_refl (nx_mono_first (P := fun b => (u.1 0 (b * 7 + 6) (fb k) = true → ∀ z, z < 160 → u.1 0 (z * 7 + fa k) b = true → u.1 0 (z * 7 + 6) k = true)) hr1 (fun b a1 a2 a3 _ _ _ => absurd a3 (by rw [src_fact htr a1 (by decide) (by omega) a2]; decide))) hr1.2.2.2 (by have := hr1.2.1; omega) hP hD hS (Nat.lt_succ_self _) (lv_sub hl [0, 1, 2, 3] rfl)
