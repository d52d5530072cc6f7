/-! The contracts of Closure.hear, by the kind of the axiom. Written by wip/whole/gen/genclos5.py. -/
set_option maxHeartbeats 4000000 in
set_option maxRecDepth 100000 in
/-- c_hear0 -/
theorem c_hear0 (l : Launch) (D : va_G) (a : Nat → Nat) (kI kL kZ : ClassId) (u : sU) (k x y : Nat) (h1 : 1 ≤ k) (h2 : k ≤ 100) (e4 : u.2.1 4 (k - 1) = nI 0) (e5 : u.2.1 5 (k - 1) = nI x) (e6 : u.2.1 6 (k - 1) = nI y) (htr : s_tr u) (hx1 : x < 160) (hy1 : y < 160) : Met l yC_hear (wC_hear :: wA) ({ frames := 3, cells := 0, slots := 0, locals := 74 }) (va_Pc [.ref (a 3), .int (nI k)] (tq_wB D vwA (sW a kI kL kZ u) (sT kI kL kZ))) (va_Qv (fun (u' : sU) => s_ext (s_put u 4 x y) u' ∧ s_from (s_put u 4 x y) u' (x * 7 + 6) 6 y 160) (fun u' t => va_P D vwA (sW a kI kL kZ u') t.heap) (sA a)) 0 0 (sA a) := by
  refine Met.ofW (cc := bC_hear) (maxL := 7) (ret := none) (by decide +kernel) rfl ?_
  intro p e s m args below meth c s₁ B1 hml hv
  obtain ⟨rfl, hP, hK, hD0⟩ := hv
  have hx := B1.exec
  have hb := B1.bytes
  have hr := B1.returns
  have hA : ∀ w ∈ wA, w.before ([.ref (a 3), .int (nI k)] : List Value).toArray s = true := fun w h => atoms_spec (ws := wC_hear :: wA) B1.pre w (List.mem_cons_of_mem _ h)
  have hown : s.vm.findClass RcC = some m.cls := findClass_of_methodNamed B1.named
  have hlocks := B1.notSynchronized
  have hS : va_S (sA a) s.heap s.heap [] := va_S.rf
  have hl := lv_entry ([.ref (a 3), .int (nI k)]) (n := 7) (Nat.le_of_ble_eq_true rfl)
  rw [lg_entry_eq]
  generalize (lg_sl ([.ref (a 3), .int (nI k)]) ++ List.replicate (7 - (lg_sl ([.ref (a 3), .int (nI k)])).length) Slot.unset).toArray = ls at hl ⊢
  have hl : lv_has ls 7 [(0, .ref (a 3)), (1, .int (nI k))] := hl
  refine tq_gen (fun R Q hRe hQe => ?_)
  have hRf : 3 ≤ R.frames := by rw [hRe]; exact Nat.le_of_ble_eq_true rfl
  have hRl : 74 ≤ R.locals := by rw [hRe]; exact Nat.le_of_ble_eq_true rfl
  have hRc : 0 ≤ R.cells := by rw [hRe]; exact Nat.le_of_ble_eq_true rfl
  have hRs : 0 ≤ R.slots := by rw [hRe]; exact Nat.le_of_ble_eq_true rfl
  have hD := sA_D hD0
  refine lv_aload_n hx hb dC_hear_0 rfl (lv_at hl 0 rfl) ?_
  refine gf_C_15 (v := .ref (a 2)) hx hb hA hown hK hP 3 rfl rfl dC_hear_1 ?_
  refine lv_iload_n hx hb dC_hear_4 rfl (lv_at hl 1 rfl) ?_
  refine ks_rv ⟨hx, hb, hml, hown, hA⟩ (c_axfirst l D a kI kL kZ u k (by omega) (by omega)) (kw_C_98 hA rfl rfl ⟨Nat.le_trans (Nat.le_of_ble_eq_true rfl) hRf, Nat.le_trans (Nat.le_of_ble_eq_true rfl) hRl⟩) hK hP hS 2 2 rfl rfl rfl hl.1 (Nat.le_of_ble_eq_true rfl) ⟨by omega, by omega⟩ dC_hear_5 rfl (fun H locs hP hS => ?_)
  refine tq_i e5 ?_
  refine lv_istore_n (lv' := [(2, .int (nI x)), (0, .ref (a 3)), (1, .int (nI k))]) hx hb dC_hear_8 rfl hl (by decide) rfl (fun ls hl => ?_)
  refine lv_aload_n hx hb dC_hear_9 rfl (lv_at hl 1 rfl) ?_
  refine gf_C_15 (v := .ref (a 2)) hx hb hA hown hK hP 3 rfl rfl dC_hear_10 ?_
  refine lv_iload_n hx hb dC_hear_13 rfl (lv_at hl 2 rfl) ?_
  refine ks_rv ⟨hx, hb, hml, hown, hA⟩ (c_axsecond l D a kI kL kZ u k (by omega) (by omega)) (kw_C_104 hA rfl rfl ⟨Nat.le_trans (Nat.le_of_ble_eq_true rfl) hRf, Nat.le_trans (Nat.le_of_ble_eq_true rfl) hRl⟩) hK hP hS 2 2 rfl rfl rfl hl.1 (Nat.le_of_ble_eq_true rfl) ⟨by omega, by omega⟩ dC_hear_14 rfl (fun H locs hP hS => ?_)
  refine tq_i e6 ?_
  refine lv_istore_n (lv' := [(3, .int (nI y)), (2, .int (nI x)), (0, .ref (a 3)), (1, .int (nI k))]) hx hb dC_hear_17 rfl hl (by decide) rfl (fun ls hl => ?_)
  refine lv_aload_n hx hb dC_hear_18 rfl (lv_at hl 2 rfl) ?_
  refine gf_C_15 (v := .ref (a 2)) hx hb hA hown hK hP 3 rfl rfl dC_hear_19 ?_
  refine lv_iload_n hx hb dC_hear_22 rfl (lv_at hl 3 rfl) ?_
  refine ks_rv ⟨hx, hb, hml, hown, hA⟩ (c_axkind l D a kI kL kZ u k (by omega) (by omega)) (kw_C_107 hA rfl rfl ⟨Nat.le_trans (Nat.le_of_ble_eq_true rfl) hRf, Nat.le_trans (Nat.le_of_ble_eq_true rfl) hRl⟩) hK hP hS 2 2 rfl rfl rfl hl.1 (Nat.le_of_ble_eq_true rfl) ⟨by omega, by omega⟩ dC_hear_23 rfl (fun H locs hP hS => ?_)
  refine tq_i e4 ?_
  refine lv_tableIn hx hb dC_hear_26 (off := 26) (tgt := 52) (by decide +kernel) (by decide +kernel) (by decide +kernel) (by decide) ?_
  refine lv_aload_n hx hb dC_hear_52 rfl (lv_at hl 2 rfl) ?_
  refine gf_C_37 (v := .ref (a 22)) hx hb hA hown hK hP 3 rfl rfl dC_hear_53 ?_
  refine lv_iload_n hx hb dC_hear_56 rfl (lv_at hl 1 rfl) ?_
  refine lv_iload_n hx hb dC_hear_57 rfl (lv_at hl 0 rfl) ?_
  refine k_put ⟨hx, hb, hml, hown, hA⟩ (kw_C_110 hA rfl rfl ⟨Nat.le_trans (Nat.le_of_ble_eq_true rfl) hRf, Nat.le_trans (Nat.le_of_ble_eq_true rfl) hRl⟩) hK hP hD hS 22 23 1 rfl rfl (by decide) rfl (by omega) (by omega) (by decide) (by decide) hl.1 (Nat.le_of_ble_eq_true rfl) ⟨by omega, by omega⟩ dC_hear_58 (fun H locs hP hD hS => ?_)
  have hP : va_P D vwA (sW a kI kL kZ (va_up u.1 4 (tm_put (u.1 4) x y), u.2.1, u.2.2)) H := hP
  have hD : va_D (sA a) (sW a kI kL kZ (va_up u.1 4 (tm_put (u.1 4) x y), u.2.1, u.2.2)) := hD
  refine lv_pop hx hb dC_hear_61 rfl ?_
  refine lv_aload_n hx hb dC_hear_62 rfl (lv_at hl 2 rfl) ?_
  refine lv_iload_n hx hb dC_hear_63 rfl (lv_at hl 1 rfl) ?_
  refine lv_bipush (v := nI 6) hx hb dC_hear_64 (by decide +kernel) ?_
  refine ks_s ⟨hx, hb, hml, hown, hA⟩ (c_row l x 6) (kw_C_57 hA rfl rfl ⟨Nat.le_trans (Nat.le_of_ble_eq_true rfl) hRf, Nat.le_trans (Nat.le_of_ble_eq_true rfl) hRl⟩) hP hS rfl hl.1 (Nat.le_of_ble_eq_true rfl) ⟨by omega, by omega⟩ dC_hear_66 rfl (fun H locs hP hS => ?_)
  refine lv_bipush (v := nI 6) hx hb dC_hear_69 (by decide +kernel) ?_
  refine lv_iload_n hx hb dC_hear_71 rfl (lv_at hl 0 rfl) ?_
  refine ks_v (wf := sW a kI kL kZ) (u := (va_up u.1 4 (tm_put (u.1 4) x y), u.2.1, u.2.2)) ⟨hx, hb, hml, hown, hA⟩ (c_addFromAll l D a kI kL kZ (va_up u.1 4 (tm_put (u.1 4) x y), u.2.1, u.2.2) x 6 6 y htr (by omega) (by omega) (by omega) (by omega)) (kw_C_113 hA rfl rfl ⟨Nat.le_trans (Nat.le_of_ble_eq_true rfl) hRf, Nat.le_trans (Nat.le_of_ble_eq_true rfl) hRl⟩) hK hP hD hS (fun _ h => h) (fun u' => sW_adr u') 3 3 rfl rfl rfl hl.1 (Nat.le_of_ble_eq_true rfl) ⟨by omega, by omega⟩ dC_hear_72 rfl (fun u1 H locs hu1 hP hD hS => ?_)
  refine lv_goto hx hb dC_hear_75 (tgt := 283) (by decide) ?_
  subst hQe
  exact W.vret hx hb hr (fun t ht hW => ⟨⟨u1, rfl, hu1, tq_hp ht hP⟩, hS.F ht⟩) hS.2.2 dC_hear_283
set_option maxHeartbeats 4000000 in
set_option maxRecDepth 100000 in
/-- c_hear1 -/
theorem c_hear1 (l : Launch) (D : va_G) (a : Nat → Nat) (kI kL kZ : ClassId) (u : sU) (k x y : Nat) (h1 : 1 ≤ k) (h2 : k ≤ 100) (e4 : u.2.1 4 (k - 1) = nI 1) (e5 : u.2.1 5 (k - 1) = nI x) (e6 : u.2.1 6 (k - 1) = nI y) (htr : s_tr u) (hx1 : x < 160) (hy1 : y < 160) : Met l yC_hear (wC_hear :: wA) ({ frames := 3, cells := 0, slots := 0, locals := 74 }) (va_Pc [.ref (a 3), .int (nI k)] (tq_wB D vwA (sW a kI kL kZ u) (sT kI kL kZ))) (va_Qv (fun (u' : sU) => ∃ v, (s_ext (s_put2 u x y) v ∧ s_from (s_put2 u x y) v (x * 7 + 6) 6 y 160) ∧ s_ext v u' ∧ s_from v u' (y * 7 + 6) 6 x 160) (fun u' t => va_P D vwA (sW a kI kL kZ u') t.heap) (sA a)) 0 0 (sA a) := by
  refine Met.ofW (cc := bC_hear) (maxL := 7) (ret := none) (by decide +kernel) rfl ?_
  intro p e s m args below meth c s₁ B1 hml hv
  obtain ⟨rfl, hP, hK, hD0⟩ := hv
  have hx := B1.exec
  have hb := B1.bytes
  have hr := B1.returns
  have hA : ∀ w ∈ wA, w.before ([.ref (a 3), .int (nI k)] : List Value).toArray s = true := fun w h => atoms_spec (ws := wC_hear :: wA) B1.pre w (List.mem_cons_of_mem _ h)
  have hown : s.vm.findClass RcC = some m.cls := findClass_of_methodNamed B1.named
  have hlocks := B1.notSynchronized
  have hS : va_S (sA a) s.heap s.heap [] := va_S.rf
  have hl := lv_entry ([.ref (a 3), .int (nI k)]) (n := 7) (Nat.le_of_ble_eq_true rfl)
  rw [lg_entry_eq]
  generalize (lg_sl ([.ref (a 3), .int (nI k)]) ++ List.replicate (7 - (lg_sl ([.ref (a 3), .int (nI k)])).length) Slot.unset).toArray = ls at hl ⊢
  have hl : lv_has ls 7 [(0, .ref (a 3)), (1, .int (nI k))] := hl
  refine tq_gen (fun R Q hRe hQe => ?_)
  have hRf : 3 ≤ R.frames := by rw [hRe]; exact Nat.le_of_ble_eq_true rfl
  have hRl : 74 ≤ R.locals := by rw [hRe]; exact Nat.le_of_ble_eq_true rfl
  have hRc : 0 ≤ R.cells := by rw [hRe]; exact Nat.le_of_ble_eq_true rfl
  have hRs : 0 ≤ R.slots := by rw [hRe]; exact Nat.le_of_ble_eq_true rfl
  have hD := sA_D hD0
  have htr : s_tr (s_put2 u x y) := htr
  refine lv_aload_n hx hb dC_hear_0 rfl (lv_at hl 0 rfl) ?_
  refine gf_C_15 (v := .ref (a 2)) hx hb hA hown hK hP 3 rfl rfl dC_hear_1 ?_
  refine lv_iload_n hx hb dC_hear_4 rfl (lv_at hl 1 rfl) ?_
  refine ks_rv ⟨hx, hb, hml, hown, hA⟩ (c_axfirst l D a kI kL kZ u k (by omega) (by omega)) (kw_C_98 hA rfl rfl ⟨Nat.le_trans (Nat.le_of_ble_eq_true rfl) hRf, Nat.le_trans (Nat.le_of_ble_eq_true rfl) hRl⟩) hK hP hS 2 2 rfl rfl rfl hl.1 (Nat.le_of_ble_eq_true rfl) ⟨by omega, by omega⟩ dC_hear_5 rfl (fun H locs hP hS => ?_)
  refine tq_i e5 ?_
  refine lv_istore_n (lv' := [(2, .int (nI x)), (0, .ref (a 3)), (1, .int (nI k))]) hx hb dC_hear_8 rfl hl (by decide) rfl (fun ls hl => ?_)
  refine lv_aload_n hx hb dC_hear_9 rfl (lv_at hl 1 rfl) ?_
  refine gf_C_15 (v := .ref (a 2)) hx hb hA hown hK hP 3 rfl rfl dC_hear_10 ?_
  refine lv_iload_n hx hb dC_hear_13 rfl (lv_at hl 2 rfl) ?_
  refine ks_rv ⟨hx, hb, hml, hown, hA⟩ (c_axsecond l D a kI kL kZ u k (by omega) (by omega)) (kw_C_104 hA rfl rfl ⟨Nat.le_trans (Nat.le_of_ble_eq_true rfl) hRf, Nat.le_trans (Nat.le_of_ble_eq_true rfl) hRl⟩) hK hP hS 2 2 rfl rfl rfl hl.1 (Nat.le_of_ble_eq_true rfl) ⟨by omega, by omega⟩ dC_hear_14 rfl (fun H locs hP hS => ?_)
  refine tq_i e6 ?_
  refine lv_istore_n (lv' := [(3, .int (nI y)), (2, .int (nI x)), (0, .ref (a 3)), (1, .int (nI k))]) hx hb dC_hear_17 rfl hl (by decide) rfl (fun ls hl => ?_)
  refine lv_aload_n hx hb dC_hear_18 rfl (lv_at hl 2 rfl) ?_
  refine gf_C_15 (v := .ref (a 2)) hx hb hA hown hK hP 3 rfl rfl dC_hear_19 ?_
  refine lv_iload_n hx hb dC_hear_22 rfl (lv_at hl 3 rfl) ?_
  refine ks_rv ⟨hx, hb, hml, hown, hA⟩ (c_axkind l D a kI kL kZ u k (by omega) (by omega)) (kw_C_107 hA rfl rfl ⟨Nat.le_trans (Nat.le_of_ble_eq_true rfl) hRf, Nat.le_trans (Nat.le_of_ble_eq_true rfl) hRl⟩) hK hP hS 2 2 rfl rfl rfl hl.1 (Nat.le_of_ble_eq_true rfl) ⟨by omega, by omega⟩ dC_hear_23 rfl (fun H locs hP hS => ?_)
  refine tq_i e4 ?_
  refine lv_tableIn hx hb dC_hear_26 (off := 52) (tgt := 78) (by decide +kernel) (by decide +kernel) (by decide +kernel) (by decide) ?_
  refine lv_aload_n hx hb dC_hear_78 rfl (lv_at hl 2 rfl) ?_
  refine gf_C_37 (v := .ref (a 22)) hx hb hA hown hK hP 3 rfl rfl dC_hear_79 ?_
  refine lv_iload_n hx hb dC_hear_82 rfl (lv_at hl 1 rfl) ?_
  refine lv_iload_n hx hb dC_hear_83 rfl (lv_at hl 0 rfl) ?_
  refine k_put ⟨hx, hb, hml, hown, hA⟩ (kw_C_110 hA rfl rfl ⟨Nat.le_trans (Nat.le_of_ble_eq_true rfl) hRf, Nat.le_trans (Nat.le_of_ble_eq_true rfl) hRl⟩) hK hP hD hS 22 23 1 rfl rfl (by decide) rfl (by omega) (by omega) (by decide) (by decide) hl.1 (Nat.le_of_ble_eq_true rfl) ⟨by omega, by omega⟩ dC_hear_84 (fun H locs hP hD hS => ?_)
  have hP : va_P D vwA (sW a kI kL kZ (va_up u.1 4 (tm_put (u.1 4) x y), u.2.1, u.2.2)) H := hP
  have hD : va_D (sA a) (sW a kI kL kZ (va_up u.1 4 (tm_put (u.1 4) x y), u.2.1, u.2.2)) := hD
  refine lv_pop hx hb dC_hear_87 rfl ?_
  refine lv_aload_n hx hb dC_hear_88 rfl (lv_at hl 2 rfl) ?_
  refine gf_C_37 (v := .ref (a 22)) hx hb hA hown hK hP 3 rfl rfl dC_hear_89 ?_
  refine lv_iload_n hx hb dC_hear_92 rfl (lv_at hl 0 rfl) ?_
  refine lv_iload_n hx hb dC_hear_93 rfl (lv_at hl 1 rfl) ?_
  refine k_put ⟨hx, hb, hml, hown, hA⟩ (kw_C_110 hA rfl rfl ⟨Nat.le_trans (Nat.le_of_ble_eq_true rfl) hRf, Nat.le_trans (Nat.le_of_ble_eq_true rfl) hRl⟩) hK hP hD hS 22 23 1 rfl rfl (by decide) rfl (by omega) (by omega) (by decide) (by decide) hl.1 (Nat.le_of_ble_eq_true rfl) ⟨by omega, by omega⟩ dC_hear_94 (fun H locs hP hD hS => ?_)
  have hP : va_P D vwA (sW a kI kL kZ (va_up u.1 4 (tm_put (tm_put (u.1 4) x y) y x), u.2.1, u.2.2)) H := hP
  have hD : va_D (sA a) (sW a kI kL kZ (va_up u.1 4 (tm_put (tm_put (u.1 4) x y) y x), u.2.1, u.2.2)) := hD
  refine lv_pop hx hb dC_hear_97 rfl ?_
  refine lv_aload_n hx hb dC_hear_98 rfl (lv_at hl 2 rfl) ?_
  refine lv_iload_n hx hb dC_hear_99 rfl (lv_at hl 1 rfl) ?_
  refine lv_bipush (v := nI 6) hx hb dC_hear_100 (by decide +kernel) ?_
  refine ks_s ⟨hx, hb, hml, hown, hA⟩ (c_row l x 6) (kw_C_57 hA rfl rfl ⟨Nat.le_trans (Nat.le_of_ble_eq_true rfl) hRf, Nat.le_trans (Nat.le_of_ble_eq_true rfl) hRl⟩) hP hS rfl hl.1 (Nat.le_of_ble_eq_true rfl) ⟨by omega, by omega⟩ dC_hear_102 rfl (fun H locs hP hS => ?_)
  refine lv_bipush (v := nI 6) hx hb dC_hear_105 (by decide +kernel) ?_
  refine lv_iload_n hx hb dC_hear_107 rfl (lv_at hl 0 rfl) ?_
  refine ks_v (wf := sW a kI kL kZ) (u := (va_up u.1 4 (tm_put (tm_put (u.1 4) x y) y x), u.2.1, u.2.2)) ⟨hx, hb, hml, hown, hA⟩ (c_addFromAll l D a kI kL kZ (va_up u.1 4 (tm_put (tm_put (u.1 4) x y) y x), u.2.1, u.2.2) x 6 6 y htr (by omega) (by omega) (by omega) (by omega)) (kw_C_113 hA rfl rfl ⟨Nat.le_trans (Nat.le_of_ble_eq_true rfl) hRf, Nat.le_trans (Nat.le_of_ble_eq_true rfl) hRl⟩) hK hP hD hS (fun _ h => h) (fun u' => sW_adr u') 3 3 rfl rfl rfl hl.1 (Nat.le_of_ble_eq_true rfl) ⟨by omega, by omega⟩ dC_hear_108 rfl (fun u1 H locs hu1 hP hD hS => ?_)
  refine lv_aload_n hx hb dC_hear_111 rfl (lv_at hl 2 rfl) ?_
  refine lv_iload_n hx hb dC_hear_112 rfl (lv_at hl 0 rfl) ?_
  refine lv_bipush (v := nI 6) hx hb dC_hear_113 (by decide +kernel) ?_
  refine ks_s ⟨hx, hb, hml, hown, hA⟩ (c_row l y 6) (kw_C_57 hA rfl rfl ⟨Nat.le_trans (Nat.le_of_ble_eq_true rfl) hRf, Nat.le_trans (Nat.le_of_ble_eq_true rfl) hRl⟩) hP hS rfl hl.1 (Nat.le_of_ble_eq_true rfl) ⟨by omega, by omega⟩ dC_hear_115 rfl (fun H locs hP hS => ?_)
  refine lv_bipush (v := nI 6) hx hb dC_hear_118 (by decide +kernel) ?_
  refine lv_iload_n hx hb dC_hear_120 rfl (lv_at hl 1 rfl) ?_
  refine ks_v (wf := sW a kI kL kZ) (u := u1) ⟨hx, hb, hml, hown, hA⟩ (c_addFromAll l D a kI kL kZ u1 y 6 6 x (tr_ext htr hu1.1) (by omega) (by omega) (by omega) (by omega)) (kw_C_113 hA rfl rfl ⟨Nat.le_trans (Nat.le_of_ble_eq_true rfl) hRf, Nat.le_trans (Nat.le_of_ble_eq_true rfl) hRl⟩) hK hP hD hS (fun _ h => h) (fun u' => sW_adr u') 3 3 rfl rfl rfl hl.1 (Nat.le_of_ble_eq_true rfl) ⟨by omega, by omega⟩ dC_hear_121 rfl (fun u2 H locs hu2 hP hD hS => ?_)
  refine lv_goto hx hb dC_hear_124 (tgt := 283) (by decide) ?_
  subst hQe
  exact W.vret hx hb hr (fun t ht hW => ⟨⟨u2, rfl, ⟨u1, hu1, hu2⟩, tq_hp ht hP⟩, hS.F ht⟩) hS.2.2 dC_hear_283
set_option maxHeartbeats 4000000 in
set_option maxRecDepth 100000 in
/-- c_hear2 -/
theorem c_hear2 (l : Launch) (D : va_G) (a : Nat → Nat) (kI kL kZ : ClassId) (u : sU) (N : Nat) (kd fa fb : Nat → Nat) (htm : s_tm u N kd fa fb) (htr : s_tr u) (k x y : Nat) (h1 : 1 ≤ k) (h2 : k ≤ 100) (e4 : u.2.1 4 (k - 1) = nI 2) (e5 : u.2.1 5 (k - 1) = nI x) (e6 : u.2.1 6 (k - 1) = nI y) (hx1 : x < 6) (hy1 : y < 6) : Met l yC_hear (wC_hear :: wA) ({ frames := 3, cells := 0, slots := 0, locals := 74 }) (va_Pc [.ref (a 3), .int (nI k)] (tq_wB D vwA (sW a kI kL kZ u) (sT kI kL kZ))) (va_Qv (fun (u' : sU) => s_ext (s_put u 5 x y) u' ∧ s_snd (s_put u 5 x y) u' (fun (G : Nat → Nat → Prop) => ∀ z d, z < 160 → G (z * 7 + x) d → G (z * 7 + y) d) ∧ ∀ b, b < N → ∀ z, z < 160 → u.1 0 (z * 7 + x) b = true → u'.1 0 (z * 7 + y) b = true) (fun u' t => va_P D vwA (sW a kI kL kZ u') t.heap) (sA a)) 0 0 (sA a) := by
  refine Met.ofW (cc := bC_hear) (maxL := 7) (ret := none) (by decide +kernel) rfl ?_
  intro p e s m args below meth c s₁ B1 hml hv
  obtain ⟨rfl, hP, hK, hD0⟩ := hv
  have hx := B1.exec
  have hb := B1.bytes
  have hr := B1.returns
  have hA : ∀ w ∈ wA, w.before ([.ref (a 3), .int (nI k)] : List Value).toArray s = true := fun w h => atoms_spec (ws := wC_hear :: wA) B1.pre w (List.mem_cons_of_mem _ h)
  have hown : s.vm.findClass RcC = some m.cls := findClass_of_methodNamed B1.named
  have hlocks := B1.notSynchronized
  have hS : va_S (sA a) s.heap s.heap [] := va_S.rf
  have hl := lv_entry ([.ref (a 3), .int (nI k)]) (n := 7) (Nat.le_of_ble_eq_true rfl)
  rw [lg_entry_eq]
  generalize (lg_sl ([.ref (a 3), .int (nI k)]) ++ List.replicate (7 - (lg_sl ([.ref (a 3), .int (nI k)])).length) Slot.unset).toArray = ls at hl ⊢
  have hl : lv_has ls 7 [(0, .ref (a 3)), (1, .int (nI k))] := hl
  refine tq_gen (fun R Q hRe hQe => ?_)
  have hRf : 3 ≤ R.frames := by rw [hRe]; exact Nat.le_of_ble_eq_true rfl
  have hRl : 74 ≤ R.locals := by rw [hRe]; exact Nat.le_of_ble_eq_true rfl
  have hRc : 0 ≤ R.cells := by rw [hRe]; exact Nat.le_of_ble_eq_true rfl
  have hRs : 0 ≤ R.slots := by rw [hRe]; exact Nat.le_of_ble_eq_true rfl
  have hD := sA_D hD0
  have hN := tm_N htm
  have htr : s_tr (s_put u 5 x y) := htr
  have htm : s_tm (s_put u 5 x y) N kd fa fb := htm
  refine lv_aload_n hx hb dC_hear_0 rfl (lv_at hl 0 rfl) ?_
  refine gf_C_15 (v := .ref (a 2)) hx hb hA hown hK hP 3 rfl rfl dC_hear_1 ?_
  refine lv_iload_n hx hb dC_hear_4 rfl (lv_at hl 1 rfl) ?_
  refine ks_rv ⟨hx, hb, hml, hown, hA⟩ (c_axfirst l D a kI kL kZ u k (by omega) (by omega)) (kw_C_98 hA rfl rfl ⟨Nat.le_trans (Nat.le_of_ble_eq_true rfl) hRf, Nat.le_trans (Nat.le_of_ble_eq_true rfl) hRl⟩) hK hP hS 2 2 rfl rfl rfl hl.1 (Nat.le_of_ble_eq_true rfl) ⟨by omega, by omega⟩ dC_hear_5 rfl (fun H locs hP hS => ?_)
  refine tq_i e5 ?_
  refine lv_istore_n (lv' := [(2, .int (nI x)), (0, .ref (a 3)), (1, .int (nI k))]) hx hb dC_hear_8 rfl hl (by decide) rfl (fun ls hl => ?_)
  refine lv_aload_n hx hb dC_hear_9 rfl (lv_at hl 1 rfl) ?_
  refine gf_C_15 (v := .ref (a 2)) hx hb hA hown hK hP 3 rfl rfl dC_hear_10 ?_
  refine lv_iload_n hx hb dC_hear_13 rfl (lv_at hl 2 rfl) ?_
  refine ks_rv ⟨hx, hb, hml, hown, hA⟩ (c_axsecond l D a kI kL kZ u k (by omega) (by omega)) (kw_C_104 hA rfl rfl ⟨Nat.le_trans (Nat.le_of_ble_eq_true rfl) hRf, Nat.le_trans (Nat.le_of_ble_eq_true rfl) hRl⟩) hK hP hS 2 2 rfl rfl rfl hl.1 (Nat.le_of_ble_eq_true rfl) ⟨by omega, by omega⟩ dC_hear_14 rfl (fun H locs hP hS => ?_)
  refine tq_i e6 ?_
  refine lv_istore_n (lv' := [(3, .int (nI y)), (2, .int (nI x)), (0, .ref (a 3)), (1, .int (nI k))]) hx hb dC_hear_17 rfl hl (by decide) rfl (fun ls hl => ?_)
  refine lv_aload_n hx hb dC_hear_18 rfl (lv_at hl 2 rfl) ?_
  refine gf_C_15 (v := .ref (a 2)) hx hb hA hown hK hP 3 rfl rfl dC_hear_19 ?_
  refine lv_iload_n hx hb dC_hear_22 rfl (lv_at hl 3 rfl) ?_
  refine ks_rv ⟨hx, hb, hml, hown, hA⟩ (c_axkind l D a kI kL kZ u k (by omega) (by omega)) (kw_C_107 hA rfl rfl ⟨Nat.le_trans (Nat.le_of_ble_eq_true rfl) hRf, Nat.le_trans (Nat.le_of_ble_eq_true rfl) hRl⟩) hK hP hS 2 2 rfl rfl rfl hl.1 (Nat.le_of_ble_eq_true rfl) ⟨by omega, by omega⟩ dC_hear_23 rfl (fun H locs hP hS => ?_)
  refine tq_i e4 ?_
  refine lv_tableIn hx hb dC_hear_26 (off := 101) (tgt := 127) (by decide +kernel) (by decide +kernel) (by decide +kernel) (by decide) ?_
  refine lv_aload_n hx hb dC_hear_127 rfl (lv_at hl 2 rfl) ?_
  refine gf_C_40 (v := .ref (a 24)) hx hb hA hown hK hP 3 rfl rfl dC_hear_128 ?_
  refine lv_iload_n hx hb dC_hear_131 rfl (lv_at hl 1 rfl) ?_
  refine lv_iload_n hx hb dC_hear_132 rfl (lv_at hl 0 rfl) ?_
  refine k_put ⟨hx, hb, hml, hown, hA⟩ (kw_C_110 hA rfl rfl ⟨Nat.le_trans (Nat.le_of_ble_eq_true rfl) hRf, Nat.le_trans (Nat.le_of_ble_eq_true rfl) hRl⟩) hK hP hD hS 24 25 1 rfl rfl (by decide) rfl (by omega) (by omega) (by decide) (by decide) hl.1 (Nat.le_of_ble_eq_true rfl) ⟨by omega, by omega⟩ dC_hear_133 (fun H locs hP hD hS => ?_)
  have hP : va_P D vwA (sW a kI kL kZ (va_up u.1 5 (tm_put (u.1 5) x y), u.2.1, u.2.2)) H := hP
  have hD : va_D (sA a) (sW a kI kL kZ (va_up u.1 5 (tm_put (u.1 5) x y), u.2.1, u.2.2)) := hD
  refine lv_pop hx hb dC_hear_136 rfl ?_
  refine lv_iconst (v := nI 0) hx hb dC_hear_137 (by decide +kernel) ?_
  refine lv_istore (lv' := [(4, .int (nI 0)), (3, .int (nI y)), (2, .int (nI x)), (0, .ref (a 3)), (1, .int (nI k))]) hx hb dC_hear_138 hl (by decide) rfl (fun ls hl => ?_)
  have lp : ∀ (fu : Nat) (n : Nat) (v : sU) (ls : Array Slot) (H : Heap) (locs : List Loc), s_ext (s_put u 5 x y) v → s_snd (s_put u 5 x y) v (fun (G : Nat → Nat → Prop) => ∀ z d, z < 160 → G (z * 7 + x) d → G (z * 7 + y) d) → (∀ b, b < n → ∀ z, z < 160 → u.1 0 (z * 7 + x) b = true → v.1 0 (z * 7 + y) b = true) → n ≤ N → va_P D vwA (sW a kI kL kZ v) H → va_D (sA a) (sW a kI kL kZ v) → va_S (sA a) s.heap H locs → N - n < fu → lv_has ls 7 [(4, .int (nI n)), (3, .int (nI y)), (2, .int (nI x)), (0, .ref (a 3)), (1, .int (nI k))] → W p l e R s m ([.ref (a 3), .int (nI k)] : List Value).toArray below meth c H locs 0 0 Q (F0 m 140 ls []) := by
    intro fu
    induction fu with
    | zero => intros; omega
    | succ fu ih140 =>
      intro n v ls H locs g1 g2 g3 g4 hP hD hS hfu hl
      refine lv_iload hx hb dC_hear_140 (lv_at hl 0 rfl) ?_
      refine lv_aload_n hx hb dC_hear_142 rfl (lv_at hl 3 rfl) ?_
      refine gf_C_11 (v := .ref (a 1)) hx hb hA hown hK hP 3 rfl rfl dC_hear_143 ?_
      refine ks_rv ⟨hx, hb, hml, hown, hA⟩ (c_size l D a kI kL kZ v  ) (kw_C_82 hA rfl rfl ⟨Nat.le_trans (Nat.le_of_ble_eq_true rfl) hRf, Nat.le_trans (Nat.le_of_ble_eq_true rfl) hRl⟩) hK hP hS 1 1 rfl rfl rfl hl.1 (Nat.le_of_ble_eq_true rfl) ⟨by omega, by omega⟩ dC_hear_146 rfl (fun H locs hP hS => ?_)
      refine tq_i (congrArg nI (tm_N (tm_ext htm g1)).1) ?_
      refine tq_ge hx hb dC_hear_149 (tgt := 171) (by decide) (by omega) (by omega) (fun h149 => ?_) (fun h149 => ?_)
      · refine lv_goto hx hb dC_hear_171 (tgt := 283) (by decide) ?_
        subst hQe
        exact W.vret hx hb hr (fun t ht hW => ⟨⟨v, rfl, ⟨g1, g2, fun b a1 => g3 b (by omega)⟩, tq_hp ht hP⟩, hS.F ht⟩) hS.2.2 dC_hear_283
      · refine lv_aload_n hx hb dC_hear_152 rfl (lv_at hl 3 rfl) ?_
        refine lv_iload hx hb dC_hear_153 (lv_at hl 0 rfl) ?_
        refine lv_iload_n hx hb dC_hear_155 rfl (lv_at hl 2 rfl) ?_
        refine ks_s ⟨hx, hb, hml, hown, hA⟩ (c_row l n x) (kw_C_57 hA rfl rfl ⟨Nat.le_trans (Nat.le_of_ble_eq_true rfl) hRf, Nat.le_trans (Nat.le_of_ble_eq_true rfl) hRl⟩) hP hS rfl hl.1 (Nat.le_of_ble_eq_true rfl) ⟨by omega, by omega⟩ dC_hear_156 rfl (fun H locs hP hS => ?_)
        refine lv_iload_n hx hb dC_hear_159 rfl (lv_at hl 1 rfl) ?_
        refine lv_iload hx hb dC_hear_160 (lv_at hl 0 rfl) ?_
        refine ks_v (wf := sW a kI kL kZ) (u := v) ⟨hx, hb, hml, hown, hA⟩ (c_addFromAll l D a kI kL kZ v n x y n (tr_ext htr g1) (by omega) (by omega) (by omega) (by omega)) (kw_C_113 hA rfl rfl ⟨Nat.le_trans (Nat.le_of_ble_eq_true rfl) hRf, Nat.le_trans (Nat.le_of_ble_eq_true rfl) hRl⟩) hK hP hD hS (fun _ h => h) (fun u' => sW_adr u') 3 3 rfl rfl rfl hl.1 (Nat.le_of_ble_eq_true rfl) ⟨by omega, by omega⟩ dC_hear_162 rfl (fun u1 H locs hu1 hP hD hS => ?_)
        refine lv_iinc (k := 0) (lv' := [(4, .int (nI (n + 1))), (3, .int (nI y)), (2, .int (nI x)), (0, .ref (a 3)), (1, .int (nI k))]) hx hb dC_hear_165 hl rfl (nI_1 _) (by decide) rfl (fun ls hl => ?_)
        refine lv_goto hx hb dC_hear_168 (tgt := 140) (by decide) ?_
        exact ih140 (n + 1) u1 ls H locs (ext_trans g1 hu1.1) (from_snd (by omega) (by omega) (tr_ext htr g1) g2 hu1.2 (fun G h1 h2 z a1 a2 => h1 z n a1 a2)) (lt_s (p := fun b => ∀ z, z < 160 → u.1 0 (z * 7 + x) b = true → u1.1 0 (z * 7 + y) b = true) (fun b a1 z a2 a3 => hu1.1.1 _ _ (g3 b a1 z a2 a3)) (fun z a2 a3 => from_all (by omega) (by omega) (tr_ext htr g1) g1 hu1.2 a2 a3)) (by omega) hP hD hS (by omega) (lv_sub hl [0, 1, 2, 3, 4] rfl)
  exact lp _ 0 (va_up u.1 5 (tm_put (u.1 5) x y), u.2.1, u.2.2) ls _ _ (ext_refl _) snd_refl (fun b a => absurd a (Nat.not_lt_zero b)) (by omega) hP hD hS (Nat.lt_succ_self _) (lv_sub hl [0, 1, 2, 3, 4] rfl)
set_option maxHeartbeats 4000000 in
set_option maxRecDepth 100000 in
/-- c_hear3 -/
theorem c_hear3 (l : Launch) (D : va_G) (a : Nat → Nat) (kI kL kZ : ClassId) (u : sU) (N : Nat) (kd fa fb : Nat → Nat) (htm : s_tm u N kd fa fb) (htr : s_tr u) (t : Nat) (k x y : Nat) (h1 : 1 ≤ k) (h2 : k ≤ 100) (e4 : u.2.1 4 (k - 1) = nI 3) (e5 : u.2.1 5 (k - 1) = nI x) (e6 : u.2.1 6 (k - 1) = nI y) (e7 : u.2.1 7 (k - 1) = nI t) (hx1 : x < 6) (hy1 : y < 6) (ht1 : t < 6) : Met l yC_hear (wC_hear :: wA) ({ frames := 3, cells := 0, slots := 0, locals := 74 }) (va_Pc [.ref (a 3), .int (nI k)] (tq_wB D vwA (sW a kI kL kZ u) (sT kI kL kZ))) (va_Qv (fun (u' : sU) => s_ext (s_put u 6 (x * 6 + y) t) u' ∧ s_snd (s_put u 6 (x * 6 + y) t) u' (fun (G : Nat → Nat → Prop) => ∀ z d b, z < 160 → G (z * 7 + x) d → G (d * 7 + y) b → G (z * 7 + t) b) ∧ ∀ d, d < N → ∀ b, b < 160 → u.1 0 (d * 7 + y) b = true → ∀ z, z < 160 → u.1 0 (z * 7 + x) d = true → u'.1 0 (z * 7 + t) b = true) (fun u' t => va_P D vwA (sW a kI kL kZ u') t.heap) (sA a)) 0 0 (sA a) := by
  refine Met.ofW (cc := bC_hear) (maxL := 7) (ret := none) (by decide +kernel) rfl ?_
  intro p e s m args below meth c s₁ B1 hml hv
  obtain ⟨rfl, hP, hK, hD0⟩ := hv
  have hx := B1.exec
  have hb := B1.bytes
  have hr := B1.returns
  have hA : ∀ w ∈ wA, w.before ([.ref (a 3), .int (nI k)] : List Value).toArray s = true := fun w h => atoms_spec (ws := wC_hear :: wA) B1.pre w (List.mem_cons_of_mem _ h)
  have hown : s.vm.findClass RcC = some m.cls := findClass_of_methodNamed B1.named
  have hlocks := B1.notSynchronized
  have hS : va_S (sA a) s.heap s.heap [] := va_S.rf
  have hl := lv_entry ([.ref (a 3), .int (nI k)]) (n := 7) (Nat.le_of_ble_eq_true rfl)
  rw [lg_entry_eq]
  generalize (lg_sl ([.ref (a 3), .int (nI k)]) ++ List.replicate (7 - (lg_sl ([.ref (a 3), .int (nI k)])).length) Slot.unset).toArray = ls at hl ⊢
  have hl : lv_has ls 7 [(0, .ref (a 3)), (1, .int (nI k))] := hl
  refine tq_gen (fun R Q hRe hQe => ?_)
  have hRf : 3 ≤ R.frames := by rw [hRe]; exact Nat.le_of_ble_eq_true rfl
  have hRl : 74 ≤ R.locals := by rw [hRe]; exact Nat.le_of_ble_eq_true rfl
  have hRc : 0 ≤ R.cells := by rw [hRe]; exact Nat.le_of_ble_eq_true rfl
  have hRs : 0 ≤ R.slots := by rw [hRe]; exact Nat.le_of_ble_eq_true rfl
  have hD := sA_D hD0
  have hN := tm_N htm
  have htr : s_tr (s_put u 6 (x * 6 + y) t) := htr
  have htm : s_tm (s_put u 6 (x * 6 + y) t) N kd fa fb := htm
  refine lv_aload_n hx hb dC_hear_0 rfl (lv_at hl 0 rfl) ?_
  refine gf_C_15 (v := .ref (a 2)) hx hb hA hown hK hP 3 rfl rfl dC_hear_1 ?_
  refine lv_iload_n hx hb dC_hear_4 rfl (lv_at hl 1 rfl) ?_
  refine ks_rv ⟨hx, hb, hml, hown, hA⟩ (c_axfirst l D a kI kL kZ u k (by omega) (by omega)) (kw_C_98 hA rfl rfl ⟨Nat.le_trans (Nat.le_of_ble_eq_true rfl) hRf, Nat.le_trans (Nat.le_of_ble_eq_true rfl) hRl⟩) hK hP hS 2 2 rfl rfl rfl hl.1 (Nat.le_of_ble_eq_true rfl) ⟨by omega, by omega⟩ dC_hear_5 rfl (fun H locs hP hS => ?_)
  refine tq_i e5 ?_
  refine lv_istore_n (lv' := [(2, .int (nI x)), (0, .ref (a 3)), (1, .int (nI k))]) hx hb dC_hear_8 rfl hl (by decide) rfl (fun ls hl => ?_)
  refine lv_aload_n hx hb dC_hear_9 rfl (lv_at hl 1 rfl) ?_
  refine gf_C_15 (v := .ref (a 2)) hx hb hA hown hK hP 3 rfl rfl dC_hear_10 ?_
  refine lv_iload_n hx hb dC_hear_13 rfl (lv_at hl 2 rfl) ?_
  refine ks_rv ⟨hx, hb, hml, hown, hA⟩ (c_axsecond l D a kI kL kZ u k (by omega) (by omega)) (kw_C_104 hA rfl rfl ⟨Nat.le_trans (Nat.le_of_ble_eq_true rfl) hRf, Nat.le_trans (Nat.le_of_ble_eq_true rfl) hRl⟩) hK hP hS 2 2 rfl rfl rfl hl.1 (Nat.le_of_ble_eq_true rfl) ⟨by omega, by omega⟩ dC_hear_14 rfl (fun H locs hP hS => ?_)
  refine tq_i e6 ?_
  refine lv_istore_n (lv' := [(3, .int (nI y)), (2, .int (nI x)), (0, .ref (a 3)), (1, .int (nI k))]) hx hb dC_hear_17 rfl hl (by decide) rfl (fun ls hl => ?_)
  refine lv_aload_n hx hb dC_hear_18 rfl (lv_at hl 2 rfl) ?_
  refine gf_C_15 (v := .ref (a 2)) hx hb hA hown hK hP 3 rfl rfl dC_hear_19 ?_
  refine lv_iload_n hx hb dC_hear_22 rfl (lv_at hl 3 rfl) ?_
  refine ks_rv ⟨hx, hb, hml, hown, hA⟩ (c_axkind l D a kI kL kZ u k (by omega) (by omega)) (kw_C_107 hA rfl rfl ⟨Nat.le_trans (Nat.le_of_ble_eq_true rfl) hRf, Nat.le_trans (Nat.le_of_ble_eq_true rfl) hRl⟩) hK hP hS 2 2 rfl rfl rfl hl.1 (Nat.le_of_ble_eq_true rfl) ⟨by omega, by omega⟩ dC_hear_23 rfl (fun H locs hP hS => ?_)
  refine tq_i e4 ?_
  refine lv_tableOut hx hb dC_hear_26 (tgt := 174) (by decide +kernel) (by decide) ?_
  refine lv_aload_n hx hb dC_hear_174 rfl (lv_at hl 2 rfl) ?_
  refine gf_C_43 (v := .ref (a 26)) hx hb hA hown hK hP 3 rfl rfl dC_hear_175 ?_
  refine lv_iload_n hx hb dC_hear_178 rfl (lv_at hl 1 rfl) ?_
  refine lv_bipush (v := nI 6) hx hb dC_hear_179 (by decide +kernel) ?_
  refine tq_imul hx hb dC_hear_181 ?_
  refine lv_iload_n hx hb dC_hear_182 rfl (lv_at hl 0 rfl) ?_
  refine tq_iadd hx hb dC_hear_183 ?_
  refine lv_aload_n hx hb dC_hear_184 rfl (lv_at hl 2 rfl) ?_
  refine gf_C_15 (v := .ref (a 2)) hx hb hA hown hK hP 3 rfl rfl dC_hear_185 ?_
  refine lv_iload_n hx hb dC_hear_188 rfl (lv_at hl 3 rfl) ?_
  refine ks_rv ⟨hx, hb, hml, hown, hA⟩ (c_axthird l D a kI kL kZ u k (by omega) (by omega)) (kw_C_116 hA rfl rfl ⟨Nat.le_trans (Nat.le_of_ble_eq_true rfl) hRf, Nat.le_trans (Nat.le_of_ble_eq_true rfl) hRl⟩) hK hP hS 2 2 rfl rfl rfl hl.1 (Nat.le_of_ble_eq_true rfl) ⟨by omega, by omega⟩ dC_hear_189 rfl (fun H locs hP hS => ?_)
  refine tq_i e7 ?_
  refine k_put ⟨hx, hb, hml, hown, hA⟩ (kw_C_110 hA rfl rfl ⟨Nat.le_trans (Nat.le_of_ble_eq_true rfl) hRf, Nat.le_trans (Nat.le_of_ble_eq_true rfl) hRl⟩) hK hP hD hS 26 27 1 rfl rfl (by decide) rfl (by omega) (by omega) (by decide) (by decide) hl.1 (Nat.le_of_ble_eq_true rfl) ⟨by omega, by omega⟩ dC_hear_192 (fun H locs hP hD hS => ?_)
  have hP : va_P D vwA (sW a kI kL kZ (va_up u.1 6 (tm_put (u.1 6) ((x * 6) + y) t), u.2.1, u.2.2)) H := hP
  have hD : va_D (sA a) (sW a kI kL kZ (va_up u.1 6 (tm_put (u.1 6) ((x * 6) + y) t), u.2.1, u.2.2)) := hD
  refine lv_pop hx hb dC_hear_195 rfl ?_
  refine lv_iconst (v := nI 0) hx hb dC_hear_196 (by decide +kernel) ?_
  refine lv_istore (lv' := [(4, .int (nI 0)), (3, .int (nI y)), (2, .int (nI x)), (0, .ref (a 3)), (1, .int (nI k))]) hx hb dC_hear_197 hl (by decide) rfl (fun ls hl => ?_)
  have lp : ∀ (fu : Nat) (n : Nat) (v : sU) (ls : Array Slot) (H : Heap) (locs : List Loc), s_ext (s_put u 6 (x * 6 + y) t) v → s_snd (s_put u 6 (x * 6 + y) t) v (fun (G : Nat → Nat → Prop) => ∀ z d b, z < 160 → G (z * 7 + x) d → G (d * 7 + y) b → G (z * 7 + t) b) → (∀ d, d < n → ∀ b, b < 160 → u.1 0 (d * 7 + y) b = true → ∀ z, z < 160 → u.1 0 (z * 7 + x) d = true → v.1 0 (z * 7 + t) b = true) → n ≤ N → va_P D vwA (sW a kI kL kZ v) H → va_D (sA a) (sW a kI kL kZ v) → va_S (sA a) s.heap H locs → N - n < fu → lv_has ls 7 [(4, .int (nI n)), (3, .int (nI y)), (2, .int (nI x)), (0, .ref (a 3)), (1, .int (nI k))] → W p l e R s m ([.ref (a 3), .int (nI k)] : List Value).toArray below meth c H locs 0 0 Q (F0 m 199 ls []) := by
    intro fu
    induction fu with
    | zero => intros; omega
    | succ fu ih199 =>
      intro n v ls H locs g1 g2 g3 g4 hP hD hS hfu hl
      refine lv_iload hx hb dC_hear_199 (lv_at hl 0 rfl) ?_
      refine lv_aload_n hx hb dC_hear_201 rfl (lv_at hl 3 rfl) ?_
      refine gf_C_11 (v := .ref (a 1)) hx hb hA hown hK hP 3 rfl rfl dC_hear_202 ?_
      refine ks_rv ⟨hx, hb, hml, hown, hA⟩ (c_size l D a kI kL kZ v  ) (kw_C_82 hA rfl rfl ⟨Nat.le_trans (Nat.le_of_ble_eq_true rfl) hRf, Nat.le_trans (Nat.le_of_ble_eq_true rfl) hRl⟩) hK hP hS 1 1 rfl rfl rfl hl.1 (Nat.le_of_ble_eq_true rfl) ⟨by omega, by omega⟩ dC_hear_205 rfl (fun H locs hP hS => ?_)
      refine tq_i (congrArg nI (tm_N (tm_ext htm g1)).1) ?_
      refine tq_ge hx hb dC_hear_208 (tgt := 283) (by decide) (by omega) (by omega) (fun h208 => ?_) (fun h208 => ?_)
      · subst hQe
        exact W.vret hx hb hr (fun t ht hW => ⟨⟨v, rfl, ⟨g1, g2, fun d a1 => g3 d (by omega)⟩, tq_hp ht hP⟩, hS.F ht⟩) hS.2.2 dC_hear_283
      · refine lv_iload hx hb dC_hear_211 (lv_at hl 0 rfl) ?_
        refine lv_iload_n hx hb dC_hear_213 rfl (lv_at hl 1 rfl) ?_
        refine ks_s ⟨hx, hb, hml, hown, hA⟩ (c_row l n y) (kw_C_57 hA rfl rfl ⟨Nat.le_trans (Nat.le_of_ble_eq_true rfl) hRf, Nat.le_trans (Nat.le_of_ble_eq_true rfl) hRl⟩) hP hS rfl hl.1 (Nat.le_of_ble_eq_true rfl) ⟨by omega, by omega⟩ dC_hear_214 rfl (fun H locs hP hS => ?_)
        refine lv_istore (lv' := [(5, .int (nI (n * 7 + y))), (4, .int (nI n)), (3, .int (nI y)), (2, .int (nI x)), (0, .ref (a 3)), (1, .int (nI k))]) hx hb dC_hear_217 hl (by decide) rfl (fun ls hl => ?_)
        refine lv_aload_n hx hb dC_hear_219 rfl (lv_at hl 4 rfl) ?_
        refine gf_C_24 (v := .ref (a 14)) hx hb hA hown hK hP 3 rfl rfl dC_hear_220 ?_
        refine lv_iload hx hb dC_hear_223 (lv_at hl 0 rfl) ?_
        refine lv_iconst (v := nI 0) hx hb dC_hear_225 (by decide +kernel) ?_
        refine k_next ⟨hx, hb, hml, hown, hA⟩ (kw_C_69 hA rfl rfl ⟨Nat.le_trans (Nat.le_of_ble_eq_true rfl) hRf, Nat.le_trans (Nat.le_of_ble_eq_true rfl) hRl⟩) hK hP hS 14 15 1 rfl rfl rfl (by decide) (by omega) (by decide) (by decide) (by omega) (by omega) hl.1 (Nat.le_of_ble_eq_true rfl) ⟨by omega, by omega⟩ dC_hear_226 (fun r1 H locs hr1 hP hS => ?_)
        refine lv_istore (lv' := [(6, .int (nI r1)), (5, .int (nI (n * 7 + y))), (4, .int (nI n)), (3, .int (nI y)), (2, .int (nI x)), (0, .ref (a 3)), (1, .int (nI k))]) hx hb dC_hear_229 hl (by decide) rfl (fun ls hl => ?_)
        have lp : ∀ (fu : Nat) (r : Nat) (v2 : sU) (ls : Array Slot) (H : Heap) (locs : List Loc), s_ext (s_put u 6 (x * 6 + y) t) v2 → s_snd (s_put u 6 (x * 6 + y) t) v2 (fun (G : Nat → Nat → Prop) => ∀ z d b, z < 160 → G (z * 7 + x) d → G (d * 7 + y) b → G (z * 7 + t) b) → (∀ d, d < n → ∀ b, b < 160 → u.1 0 (d * 7 + y) b = true → ∀ z, z < 160 → u.1 0 (z * 7 + x) d = true → v2.1 0 (z * 7 + t) b = true) → (∀ b, b < r → b < 160 → u.1 0 (n * 7 + y) b = true → ∀ z, z < 160 → u.1 0 (z * 7 + x) n = true → v2.1 0 (z * 7 + t) b = true) → (r < 160 → v2.1 0 (n * 7 + y) r = true) → r < 224 → va_P D vwA (sW a kI kL kZ v2) H → va_D (sA a) (sW a kI kL kZ v2) → va_S (sA a) s.heap H locs → 224 - r < fu → lv_has ls 7 [(6, .int (nI r)), (5, .int (nI (n * 7 + y))), (4, .int (nI n)), (3, .int (nI y)), (2, .int (nI x)), (0, .ref (a 3)), (1, .int (nI k))] → W p l e R s m ([.ref (a 3), .int (nI k)] : List Value).toArray below meth c H locs 0 0 Q (F0 m 231 ls []) := by
          intro fu
          induction fu with
          | zero => intros; omega
          | succ fu ih231 =>
            intro r v2 ls H locs k1 k2 k3 k4 k5 k6 hP hD hS hfu hl
            refine lv_iload hx hb dC_hear_231 (lv_at hl 0 rfl) ?_
            refine lv_sipush (v := nI 160) hx hb dC_hear_233 (by decide +kernel) ?_
            refine tq_ge hx hb dC_hear_236 (tgt := 277) (by decide) (by omega) (by omega) (fun h236 => ?_) (fun h236 => ?_)
            · refine lv_iinc (k := 2) (lv' := [(4, .int (nI (n + 1))), (6, .int (nI r)), (5, .int (nI (n * 7 + y))), (3, .int (nI y)), (2, .int (nI x)), (0, .ref (a 3)), (1, .int (nI k))]) hx hb dC_hear_277 hl rfl (nI_1 _) (by decide) rfl (fun ls hl => ?_)
              refine lv_goto hx hb dC_hear_280 (tgt := 199) (by decide) ?_
              exact ih199 (n + 1) v2 ls H locs k1 k2 (lt_s (p := fun d => ∀ b, b < 160 → u.1 0 (d * 7 + y) b = true → ∀ z, z < 160 → u.1 0 (z * 7 + x) d = true → v2.1 0 (z * 7 + t) b = true) k3 (fun b a1 => k4 b (by omega) a1)) (by omega) hP hD hS (by omega) (lv_sub hl [0, 3, 4, 5, 6] rfl)
            · refine lv_aload_n hx hb dC_hear_239 rfl (lv_at hl 5 rfl) ?_
              refine lv_iload hx hb dC_hear_240 (lv_at hl 2 rfl) ?_
              refine lv_iload_n hx hb dC_hear_242 rfl (lv_at hl 4 rfl) ?_
              refine ks_s ⟨hx, hb, hml, hown, hA⟩ (c_row l n x) (kw_C_57 hA rfl rfl ⟨Nat.le_trans (Nat.le_of_ble_eq_true rfl) hRf, Nat.le_trans (Nat.le_of_ble_eq_true rfl) hRl⟩) hP hS rfl hl.1 (Nat.le_of_ble_eq_true rfl) ⟨by omega, by omega⟩ dC_hear_243 rfl (fun H locs hP hS => ?_)
              refine lv_aload_n hx hb dC_hear_246 rfl (lv_at hl 5 rfl) ?_
              refine gf_C_15 (v := .ref (a 2)) hx hb hA hown hK hP 3 rfl rfl dC_hear_247 ?_
              refine lv_iload_n hx hb dC_hear_250 rfl (lv_at hl 6 rfl) ?_
              refine ks_rv ⟨hx, hb, hml, hown, hA⟩ (c_axthird l D a kI kL kZ v2 k (by omega) (by omega)) (kw_C_116 hA rfl rfl ⟨Nat.le_trans (Nat.le_of_ble_eq_true rfl) hRf, Nat.le_trans (Nat.le_of_ble_eq_true rfl) hRl⟩) hK hP hS 2 2 rfl rfl rfl hl.1 (Nat.le_of_ble_eq_true rfl) ⟨by omega, by omega⟩ dC_hear_251 rfl (fun H locs hP hS => ?_)
              refine tq_i (show v2.2.1 7 (k - 1) = nI t from (by rw [k1.2.2.2.2.2.2]; exact e7)) ?_
              refine lv_iload hx hb dC_hear_254 (lv_at hl 0 rfl) ?_
              refine ks_v (wf := sW a kI kL kZ) (u := v2) ⟨hx, hb, hml, hown, hA⟩ (c_addFromAll l D a kI kL kZ v2 n x t r (tr_ext htr k1) (by omega) (by omega) (by omega) (by omega)) (kw_C_113 hA rfl rfl ⟨Nat.le_trans (Nat.le_of_ble_eq_true rfl) hRf, Nat.le_trans (Nat.le_of_ble_eq_true rfl) hRl⟩) hK hP hD hS (fun _ h => h) (fun u' => sW_adr u') 3 3 rfl rfl rfl hl.1 (Nat.le_of_ble_eq_true rfl) ⟨by omega, by omega⟩ dC_hear_256 rfl (fun u2 H locs hu2 hP hD hS => ?_)
              refine lv_aload_n hx hb dC_hear_259 rfl (lv_at hl 5 rfl) ?_
              refine gf_C_24 (v := .ref (a 14)) hx hb hA hown hK hP 3 rfl rfl dC_hear_260 ?_
              refine lv_iload hx hb dC_hear_263 (lv_at hl 1 rfl) ?_
              refine lv_iload hx hb dC_hear_265 (lv_at hl 0 rfl) ?_
              refine lv_iconst (v := nI 1) hx hb dC_hear_267 (by decide +kernel) ?_
              refine tq_iadd hx hb dC_hear_268 ?_
              refine k_next ⟨hx, hb, hml, hown, hA⟩ (kw_C_69 hA rfl rfl ⟨Nat.le_trans (Nat.le_of_ble_eq_true rfl) hRf, Nat.le_trans (Nat.le_of_ble_eq_true rfl) hRl⟩) hK hP hS 14 15 1 rfl rfl rfl (by decide) (by omega) (by decide) (by decide) (by omega) (by omega) hl.1 (Nat.le_of_ble_eq_true rfl) ⟨by omega, by omega⟩ dC_hear_269 (fun r3 H locs hr3 hP hS => ?_)
              refine lv_istore (lv' := [(6, .int (nI r3)), (5, .int (nI (n * 7 + y))), (4, .int (nI n)), (3, .int (nI y)), (2, .int (nI x)), (0, .ref (a 3)), (1, .int (nI k))]) hx hb dC_hear_272 hl (by decide) rfl (fun ls hl => ?_)
              refine lv_goto hx hb dC_hear_274 (tgt := 231) (by decide) ?_
              have hge := hr3.1
              have hlt := hr3.2.1
              exact ih231 r3 u2 ls H locs (ext_trans k1 hu2.1) (from_snd (by omega) (by omega) (tr_ext htr k1) k2 hu2.2 (fun G h1 h2 z a1 a2 => h1 z n r a1 a2 (h2 _ _ (k5 h236)))) (fun d a1 b a2 a3 z a4 a5 => hu2.1.1 _ _ (k3 d a1 b a2 a3 z a4 a5)) (nx_mono_step (P := fun b => u.1 0 (n * 7 + y) b = true → ∀ z, z < 160 → u.1 0 (z * 7 + x) n = true → u2.1 0 (z * 7 + t) b = true) (fun b a1 a2 a3 z a4 a5 => hu2.1.1 _ _ (k4 b a1 a2 a3 z a4 a5)) (fun _ z a4 a5 => from_all (by omega) (by omega) (tr_ext htr k1) k1 hu2.2 a4 a5) hr3 (fun b a1 a2 a3 _ _ _ => absurd ((ext_trans k1 hu2.1).1 _ _ a3) (by rw [a2]; decide))) hr3.2.2.2 (by omega) hP hD hS (by omega) (lv_sub hl [0, 1, 2, 3, 4, 5, 6] rfl)
        have hlt := hr1.2.1
        exact lp _ r1 v ls _ _ g1 g2 g3 (nx_mono_first (P := fun b => u.1 0 (n * 7 + y) b = true → ∀ z, z < 160 → u.1 0 (z * 7 + x) n = true → v.1 0 (z * 7 + t) b = true) hr1 (fun b a1 a2 a3 _ _ _ => absurd (g1.1 _ _ a3) (by rw [a2]; decide))) hr1.2.2.2 (by omega) hP hD hS (Nat.lt_succ_self _) (lv_sub hl [0, 1, 2, 3, 4, 5, 6] rfl)
  exact lp _ 0 (va_up u.1 6 (tm_put (u.1 6) ((x * 6) + y) t), u.2.1, u.2.2) ls _ _ (ext_refl _) snd_refl (fun b a => absurd a (Nat.not_lt_zero b)) (by omega) hP hD hS (Nat.lt_succ_self _) (lv_sub hl [0, 1, 2, 3, 4] rfl)
