/-! The law's helpers. Written by wip/whole/gen/genL1.py. -/
def hW (a : Nat → Nat) (o : Nat) (kI kL kZ : ClassId) (w : sU × (Nat → Int64)) : va_W := sW a kI kL kZ w.1 ++ [(o, .inl (kL, 1, .inr (.inl w.2)))]
def hA9 (a : Nat → Nat) (o : Nat) (q : Nat) : Prop := q ∈ [a 0, a 1, a 2, a 3, a 4, a 5, a 6, a 7, a 8, a 9, a 10, a 11, a 12, a 13, a 14, a 15, a 16, a 17, a 18, a 19, a 20, a 21, a 22, a 23, a 24, a 25, a 26, a 27, a 28, a 29, a 30, a 31, o]
theorem hA9_D {a : Nat → Nat} {o : Nat} {kI kL kZ : ClassId} {w : sU × (Nat → Int64)} {A : Nat → Prop} (h : va_D A (hW a o kI kL kZ w)) : va_D (hA9 a o) (hW a o kI kL kZ w) := tq_D_self h
def tq_wX (D : va_G) (cl : List vw_C) (ws : va_W) (tys : List (ClassId × FieldType)) (U : State) : Prop := va_P D cl ws U.heap ∧ va_K D cl tys U ∧ va_D (fun _ => True) ws ∧ tq_X U
theorem tq_wX_blind {D : va_G} {cl : List vw_C} {ws : va_W} {tys : List (ClassId × FieldType)} {av : List Value} : FrameBlind (va_Pc av (tq_wX D cl ws tys)) :=
  fun a U g mk q => ⟨q.1, q.2.1, va_K.moved (u := U) (U := U.calling g mk a) (Vm.Alike.refl U.vm) q.2.2.1, q.2.2.2⟩
theorem lk_tab1 {c : Code} {a b h k : Nat} (e : c.exceptionTable.toList.map (fun h => (h.startPc, h.endPc, h.handlerPc, h.catchType)) = [(a, b, h, k)]) : ∃ x, c.exceptionTable.toList = [x] ∧ x.startPc = a ∧ x.endPc = b ∧ x.handlerPc = h ∧ x.catchType = k := by
  match hq : c.exceptionTable.toList, e with
  | [x], e =>
    simp only [List.map_cons, List.map_nil, List.cons.injEq, Prod.mk.injEq, and_true] at e
    exact ⟨x, rfl, e.1, e.2.1, e.2.2.1, e.2.2.2⟩
  | [], e => simp at e
  | x :: y :: r, e => simp at e
theorem lk_tab {p : Program} {l : Launch} {y : MethodName} {ws : List Cond} {rm : Room} {cc bytes : ByteArray} {maxL maxL' : Nat} {ret ret' : Option FieldType} {hh : List (Nat × Nat × Nat × Nat)} {e : Env} {s : State} {m : MethodId} {args : Array Value} {below : List Frame} {meth : Method} {c : Code} {s₁ : State}
    (B : BodyLoose p l y (headSpec ws rm) cc maxL ret e s m args below meth c s₁) (hw : Cond.codeWith y bytes maxL' ret' hh ∈ ws) : c.exceptionTable.toList.map (fun h => (h.startPc, h.endPc, h.handlerPc, h.catchType)) = hh := by
  obtain ⟨m9, meth9, c9, h1, h2, h3, h4, h5, h6, -⟩ := Cond.codeWith_spec (atoms_spec (ws := ws) B.pre _ hw)
  cases B.named.symm.trans h1
  cases B.method.symm.trans h2
  cases (Stand.of_body B).code.symm.trans h3
  exact h6
set_option maxHeartbeats 4000000 in
set_option maxRecDepth 100000 in
theorem g_both (l : Launch) (D : va_G) (a : Nat → Nat) (o : Nat) (kI kL kZ : ClassId) (u : sU) (f : Nat → Int64) (N : Nat) (kd fa fb : Nat → Nat) (T : Nat) (so xa xb xc : Nat → Nat) (F : Nat → Prop) (M : Nat) (rs : Nat → Nat) (hi : s_inv u N kd fa fb T so xa xb xc F M rs) (d d2 : Nat) (hd : d < N) (hd2 : d2 < N) : Met l yL_both (wL_both :: wA) ({ frames := 8, cells := 0, slots := 0, locals := 158 }) (va_Pc [.ref (a 0), .int (nI d), .int (nI d2), .ref o] (tq_wB D vwA (hW a o kI kL kZ (u, f)) (sT kI kL kZ))) (va_Qi (fun r (w : sU × (Nat → Int64)) => r = nI 0 ∧ ∃ r0 : Int32, w.2 0 = r0.toInt64 ∧ (∃ N' kd' fa' fb', z_mk N kd fa fb 2 d d2 r0 N' kd' fa' fb' ∧ s_inv w.1 N' kd' fa' fb' T so xa xb xc F M rs)) (fun w t => va_P D vwA (hW a o kI kL kZ w) t.heap) (hA9 a o)) 0 0 (hA9 a o) := by
  refine va_MetW (cc := bL_both) (maxL := 5) (ret := some .int) (hh := hL_both) (by decide +kernel) rfl ?_
  intro p e s m args below meth c s₁ B1 hml hv
  have htb := lk_tab B1 (List.mem_cons_self)
  obtain ⟨rfl, hP, hK, hD0⟩ := hv
  have hx := B1.exec
  have hb := B1.bytes
  have hr := B1.returns
  have hA : ∀ w ∈ wA, w.before ([.ref (a 0), .int (nI d), .int (nI d2), .ref o] : List Value).toArray s = true := fun w h => atoms_spec (ws := wL_both :: wA) B1.pre w (List.mem_cons_of_mem _ h)
  have hown : s.vm.findClass RcL = some m.cls := findClass_of_methodNamed B1.named
  have hlocks := B1.notSynchronized
  have hS : va_S (hA9 a o) s.heap s.heap [] := va_S.rf
  have hl := lv_entry ([.ref (a 0), .int (nI d), .int (nI d2), .ref o]) (n := 5) (Nat.le_of_ble_eq_true rfl)
  rw [lg_entry_eq]
  generalize (lg_sl ([.ref (a 0), .int (nI d), .int (nI d2), .ref o]) ++ List.replicate (5 - (lg_sl ([.ref (a 0), .int (nI d), .int (nI d2), .ref o])).length) Slot.unset).toArray = ls at hl ⊢
  have hl : lv_has ls 5 [(0, .ref (a 0)), (1, .int (nI d)), (2, .int (nI d2)), (3, .ref o)] := hl
  refine tq_gen (fun R Q hRe hQe => ?_)
  have hRf : 8 ≤ R.frames := by rw [hRe]; exact Nat.le_of_ble_eq_true rfl
  have hRl : 158 ≤ R.locals := by rw [hRe]; exact Nat.le_of_ble_eq_true rfl
  have hRc : 0 ≤ R.cells := by rw [hRe]; exact Nat.le_of_ble_eq_true rfl
  have hRs : 0 ≤ R.slots := by rw [hRe]; exact Nat.le_of_ble_eq_true rfl
  have hD := hA9_D hD0
  refine lv_aload_n hx hb dL_both_0 rfl (lv_at hl 3 rfl) ?_
  refine lv_iconst (v := nI 0) hx hb dL_both_1 (by decide +kernel) ?_
  refine lv_aload_n hx hb dL_both_2 rfl (lv_at hl 0 rfl) ?_
  refine lv_iload_n hx hb dL_both_3 rfl (lv_at hl 1 rfl) ?_
  refine lv_iload_n hx hb dL_both_4 rfl (lv_at hl 2 rfl) ?_
  refine kp_i (X := []) (wf := sW a kI kL kZ) (u := u) (Z := [(o, .inl (kL, 1, .inr (.inl f)))]) ⟨hx, hb, hml, hown, hA⟩ (v_both l D a kI kL kZ u N kd fa fb T so xa xb xc F M rs hi d d2 hd hd2) (kw_L_7 hA rfl rfl ⟨Nat.le_trans (Nat.le_of_ble_eq_true rfl) hRf, Nat.le_trans (Nat.le_of_ble_eq_true rfl) hRl⟩) hK hP hD hS (fun _ h => h) (fun u' => sW_adr u') 0 4 rfl rfl rfl hl.1 (Nat.le_of_ble_eq_true rfl) ⟨by omega, by omega⟩ dL_both_5 rfl (fun r1 u1 H locs hu1 hP hD hS => ?_)
  have hP : va_P D vwA (hW a o kI kL kZ (u1, f)) H := hP
  have hD : va_D (hA9 a o) (hW a o kI kL kZ (u1, f)) := hD
  refine lv_i2l hx hb dL_both_8 rfl ?_
  refine tq_last hx hb hK hP hD hS 32 1 rfl rfl (by omega) (by omega) dL_both_9 (fun H locs hP hD hS => ?_)
  have hP : va_P D vwA (hW a o kI kL kZ (u1, vp_updL f 0 r1.toInt64)) H := hP
  have hD : va_D (hA9 a o) (hW a o kI kL kZ (u1, vp_updL f 0 r1.toInt64)) := hD
  refine lv_goto hx hb dL_both_10 (tgt := 17) (by decide) ?_
  refine lv_iconst (v := nI 0) hx hb dL_both_17 (by decide +kernel) ?_
  subst hQe
  exact W.iret (v := nI 0) hx hb hr (fun t ht hW => ⟨⟨_, (u1, vp_updL f 0 r1.toInt64), rfl, ⟨rfl, r1, rfl, hu1⟩, tq_hp ht hP⟩, hS.F ht⟩) hS.2.2 dL_both_18
set_option maxHeartbeats 4000000 in
set_option maxRecDepth 100000 in
theorem b_both (l : Launch) (hl0 : l.stackTraces = false) (D : va_G) (a : Nat → Nat) (o : Nat) (kI kL kZ : ClassId) (u : sU) (f : Nat → Int64) (x1 : Int32) (x2 : Int32) (hN : u.2.2 0 ≤ 160) (hbad : (∀ k, k < u.2.2 0 → ¬ x1 = nI k) ∨ (∀ k, k < u.2.2 0 → ¬ x2 = nI k)) : Met l yL_both (wL_both :: wA) ({ frames := 8, cells := 1, slots := 6, locals := 158 }) (va_Pc [.ref (a 0), .int x1, .int x2, .ref o] (tq_wX D vwA (hW a o kI kL kZ (u, f)) (sT kI kL kZ))) (va_Qi (fun r (w : sU × (Nat → Int64)) => r = nI 1 ∧ w = (u, f)) (fun w t => va_P D vwA (hW a o kI kL kZ w) t.heap) (hA9 a o)) 1 6 (hA9 a o) := by
  refine va_MetW (cc := bL_both) (maxL := 5) (ret := some .int) (hh := hL_both) (by decide +kernel) rfl ?_
  intro p e s m args below meth c s₁ B1 hml hv
  have htb := lk_tab B1 (List.mem_cons_self)
  obtain ⟨rfl, hP, hK, hD0, hX⟩ := hv
  have hx := B1.exec
  have hb := B1.bytes
  have hr := B1.returns
  have hA : ∀ w ∈ wA, w.before ([.ref (a 0), .int x1, .int x2, .ref o] : List Value).toArray s = true := fun w h => atoms_spec (ws := wL_both :: wA) B1.pre w (List.mem_cons_of_mem _ h)
  have hown : s.vm.findClass RcL = some m.cls := findClass_of_methodNamed B1.named
  have hlocks := B1.notSynchronized
  have hS : va_S (hA9 a o) s.heap s.heap [] := va_S.rf
  have hl := lv_entry ([.ref (a 0), .int x1, .int x2, .ref o]) (n := 5) (Nat.le_of_ble_eq_true rfl)
  rw [lg_entry_eq]
  generalize (lg_sl ([.ref (a 0), .int x1, .int x2, .ref o]) ++ List.replicate (5 - (lg_sl ([.ref (a 0), .int x1, .int x2, .ref o])).length) Slot.unset).toArray = ls at hl ⊢
  have hl : lv_has ls 5 [(0, .ref (a 0)), (1, .int x1), (2, .int x2), (3, .ref o)] := hl
  refine tq_gen (fun R Q hRe hQe => ?_)
  have hRf : 8 ≤ R.frames := by rw [hRe]; exact Nat.le_of_ble_eq_true rfl
  have hRl : 158 ≤ R.locals := by rw [hRe]; exact Nat.le_of_ble_eq_true rfl
  have hRc : 1 ≤ R.cells := by rw [hRe]; exact Nat.le_of_ble_eq_true rfl
  have hRs : 6 ≤ R.slots := by rw [hRe]; exact Nat.le_of_ble_eq_true rfl
  have hD := hA9_D hD0
  refine lv_aload_n hx hb dL_both_0 rfl (lv_at hl 3 rfl) ?_
  refine lv_iconst (v := nI 0) hx hb dL_both_1 (by decide +kernel) ?_
  refine lv_aload_n hx hb dL_both_2 rfl (lv_at hl 0 rfl) ?_
  refine lv_iload_n hx hb dL_both_3 rfl (lv_at hl 1 rfl) ?_
  refine lv_iload_n hx hb dL_both_4 rfl (lv_at hl 2 rfl) ?_
  obtain ⟨x9, ht1, ht2, ht3, ht4, ht5⟩ := lk_tab1 htb
  have hP1 : va_P D vwA (sW a kI kL kZ u) s.heap := pa_l hP
  refine kt_C (D := D) (ws := sW a kI kL kZ u) (hpc := 13) (k := 13) ⟨hx, hb, hml, hown, hA⟩ (t_both l hl0 D a kI kL kZ u x1 x2 hN hbad) (kw_L_7 hA rfl rfl ⟨Nat.le_trans (Nat.le_of_ble_eq_true rfl) hRf, Nat.le_trans (Nat.le_of_ble_eq_true rfl) hRl⟩) hK hP1 (fun U hU hW => hX.mv hW (fun q cl z => by rw [hU]; exact z)) hS 0 4 rfl rfl rfl hl.1 (Nat.le_of_ble_eq_true rfl) ⟨by omega, by omega⟩ dL_both_5 rfl ht1 (by unfold covers; rw [ht2, ht3]; rfl) ht5 (by decide) ht4 (hA _ mcl_L_13) (fun a1 H locs hP2 hk2 hS => ?_)
  have hP : va_P D vwA (hW a o kI kL kZ (u, f)) H := hP.kept (fun k q hq => hk2 q.1 (hP k q hq).lt)
  refine lv_astore (lv' := [(4, .ref a1), (0, .ref (a 0)), (1, .int x1), (2, .int x2), (3, .ref o)]) hx hb dL_both_13 hl (by decide) rfl (fun ls hl => ?_)
  refine lv_iconst (v := nI 1) hx hb dL_both_15 (by decide +kernel) ?_
  subst hQe
  exact W.iret (v := nI 1) hx hb hr (fun t ht hW => ⟨⟨_, (u, f), rfl, ⟨rfl, rfl⟩, tq_hp ht hP⟩, hS.F ht⟩) hS.2.2 dL_both_16
set_option maxHeartbeats 4000000 in
set_option maxRecDepth 100000 in
theorem g_some (l : Launch) (D : va_G) (a : Nat → Nat) (o : Nat) (kI kL kZ : ClassId) (u : sU) (f : Nat → Int64) (N : Nat) (kd fa fb : Nat → Nat) (T : Nat) (so xa xb xc : Nat → Nat) (F : Nat → Prop) (M : Nat) (rs : Nat → Nat) (hi : s_inv u N kd fa fb T so xa xb xc F M rs) (i d : Nat) (hi6 : i < 6) (hd : d < N) : Met l yL_some (wL_some :: wA) ({ frames := 8, cells := 0, slots := 0, locals := 158 }) (va_Pc [.ref (a 0), .int (nI i), .int (nI d), .ref o] (tq_wB D vwA (hW a o kI kL kZ (u, f)) (sT kI kL kZ))) (va_Qi (fun r (w : sU × (Nat → Int64)) => r = nI 0 ∧ ∃ r0 : Int32, w.2 0 = r0.toInt64 ∧ (∃ N' kd' fa' fb', z_mk N kd fa fb 3 i d r0 N' kd' fa' fb' ∧ s_inv w.1 N' kd' fa' fb' T so xa xb xc F M rs)) (fun w t => va_P D vwA (hW a o kI kL kZ w) t.heap) (hA9 a o)) 0 0 (hA9 a o) := by
  refine va_MetW (cc := bL_some) (maxL := 5) (ret := some .int) (hh := hL_some) (by decide +kernel) rfl ?_
  intro p e s m args below meth c s₁ B1 hml hv
  have htb := lk_tab B1 (List.mem_cons_self)
  obtain ⟨rfl, hP, hK, hD0⟩ := hv
  have hx := B1.exec
  have hb := B1.bytes
  have hr := B1.returns
  have hA : ∀ w ∈ wA, w.before ([.ref (a 0), .int (nI i), .int (nI d), .ref o] : List Value).toArray s = true := fun w h => atoms_spec (ws := wL_some :: wA) B1.pre w (List.mem_cons_of_mem _ h)
  have hown : s.vm.findClass RcL = some m.cls := findClass_of_methodNamed B1.named
  have hlocks := B1.notSynchronized
  have hS : va_S (hA9 a o) s.heap s.heap [] := va_S.rf
  have hl := lv_entry ([.ref (a 0), .int (nI i), .int (nI d), .ref o]) (n := 5) (Nat.le_of_ble_eq_true rfl)
  rw [lg_entry_eq]
  generalize (lg_sl ([.ref (a 0), .int (nI i), .int (nI d), .ref o]) ++ List.replicate (5 - (lg_sl ([.ref (a 0), .int (nI i), .int (nI d), .ref o])).length) Slot.unset).toArray = ls at hl ⊢
  have hl : lv_has ls 5 [(0, .ref (a 0)), (1, .int (nI i)), (2, .int (nI d)), (3, .ref o)] := hl
  refine tq_gen (fun R Q hRe hQe => ?_)
  have hRf : 8 ≤ R.frames := by rw [hRe]; exact Nat.le_of_ble_eq_true rfl
  have hRl : 158 ≤ R.locals := by rw [hRe]; exact Nat.le_of_ble_eq_true rfl
  have hRc : 0 ≤ R.cells := by rw [hRe]; exact Nat.le_of_ble_eq_true rfl
  have hRs : 0 ≤ R.slots := by rw [hRe]; exact Nat.le_of_ble_eq_true rfl
  have hD := hA9_D hD0
  refine lv_aload_n hx hb dL_some_0 rfl (lv_at hl 3 rfl) ?_
  refine lv_iconst (v := nI 0) hx hb dL_some_1 (by decide +kernel) ?_
  refine lv_aload_n hx hb dL_some_2 rfl (lv_at hl 0 rfl) ?_
  refine lv_iload_n hx hb dL_some_3 rfl (lv_at hl 1 rfl) ?_
  refine lv_iload_n hx hb dL_some_4 rfl (lv_at hl 2 rfl) ?_
  refine kp_i (X := []) (wf := sW a kI kL kZ) (u := u) (Z := [(o, .inl (kL, 1, .inr (.inl f)))]) ⟨hx, hb, hml, hown, hA⟩ (v_some l D a kI kL kZ u N kd fa fb T so xa xb xc F M rs hi i d hi6 hd) (kw_L_15 hA rfl rfl ⟨Nat.le_trans (Nat.le_of_ble_eq_true rfl) hRf, Nat.le_trans (Nat.le_of_ble_eq_true rfl) hRl⟩) hK hP hD hS (fun _ h => h) (fun u' => sW_adr u') 0 4 rfl rfl rfl hl.1 (Nat.le_of_ble_eq_true rfl) ⟨by omega, by omega⟩ dL_some_5 rfl (fun r1 u1 H locs hu1 hP hD hS => ?_)
  have hP : va_P D vwA (hW a o kI kL kZ (u1, f)) H := hP
  have hD : va_D (hA9 a o) (hW a o kI kL kZ (u1, f)) := hD
  refine lv_i2l hx hb dL_some_8 rfl ?_
  refine tq_last hx hb hK hP hD hS 32 1 rfl rfl (by omega) (by omega) dL_some_9 (fun H locs hP hD hS => ?_)
  have hP : va_P D vwA (hW a o kI kL kZ (u1, vp_updL f 0 r1.toInt64)) H := hP
  have hD : va_D (hA9 a o) (hW a o kI kL kZ (u1, vp_updL f 0 r1.toInt64)) := hD
  refine lv_goto hx hb dL_some_10 (tgt := 17) (by decide) ?_
  refine lv_iconst (v := nI 0) hx hb dL_some_17 (by decide +kernel) ?_
  subst hQe
  exact W.iret (v := nI 0) hx hb hr (fun t ht hW => ⟨⟨_, (u1, vp_updL f 0 r1.toInt64), rfl, ⟨rfl, r1, rfl, hu1⟩, tq_hp ht hP⟩, hS.F ht⟩) hS.2.2 dL_some_18
set_option maxHeartbeats 4000000 in
set_option maxRecDepth 100000 in
theorem b_some (l : Launch) (hl0 : l.stackTraces = false) (D : va_G) (a : Nat → Nat) (o : Nat) (kI kL kZ : ClassId) (u : sU) (f : Nat → Int64) (x1 : Int32) (x2 : Int32) (hN : u.2.2 0 ≤ 160) (hbad : (∀ k, k < 6 → ¬ x1 = nI k) ∨ (∀ k, k < u.2.2 0 → ¬ x2 = nI k)) : Met l yL_some (wL_some :: wA) ({ frames := 8, cells := 1, slots := 6, locals := 158 }) (va_Pc [.ref (a 0), .int x1, .int x2, .ref o] (tq_wX D vwA (hW a o kI kL kZ (u, f)) (sT kI kL kZ))) (va_Qi (fun r (w : sU × (Nat → Int64)) => r = nI 1 ∧ w = (u, f)) (fun w t => va_P D vwA (hW a o kI kL kZ w) t.heap) (hA9 a o)) 1 6 (hA9 a o) := by
  refine va_MetW (cc := bL_some) (maxL := 5) (ret := some .int) (hh := hL_some) (by decide +kernel) rfl ?_
  intro p e s m args below meth c s₁ B1 hml hv
  have htb := lk_tab B1 (List.mem_cons_self)
  obtain ⟨rfl, hP, hK, hD0, hX⟩ := hv
  have hx := B1.exec
  have hb := B1.bytes
  have hr := B1.returns
  have hA : ∀ w ∈ wA, w.before ([.ref (a 0), .int x1, .int x2, .ref o] : List Value).toArray s = true := fun w h => atoms_spec (ws := wL_some :: wA) B1.pre w (List.mem_cons_of_mem _ h)
  have hown : s.vm.findClass RcL = some m.cls := findClass_of_methodNamed B1.named
  have hlocks := B1.notSynchronized
  have hS : va_S (hA9 a o) s.heap s.heap [] := va_S.rf
  have hl := lv_entry ([.ref (a 0), .int x1, .int x2, .ref o]) (n := 5) (Nat.le_of_ble_eq_true rfl)
  rw [lg_entry_eq]
  generalize (lg_sl ([.ref (a 0), .int x1, .int x2, .ref o]) ++ List.replicate (5 - (lg_sl ([.ref (a 0), .int x1, .int x2, .ref o])).length) Slot.unset).toArray = ls at hl ⊢
  have hl : lv_has ls 5 [(0, .ref (a 0)), (1, .int x1), (2, .int x2), (3, .ref o)] := hl
  refine tq_gen (fun R Q hRe hQe => ?_)
  have hRf : 8 ≤ R.frames := by rw [hRe]; exact Nat.le_of_ble_eq_true rfl
  have hRl : 158 ≤ R.locals := by rw [hRe]; exact Nat.le_of_ble_eq_true rfl
  have hRc : 1 ≤ R.cells := by rw [hRe]; exact Nat.le_of_ble_eq_true rfl
  have hRs : 6 ≤ R.slots := by rw [hRe]; exact Nat.le_of_ble_eq_true rfl
  have hD := hA9_D hD0
  refine lv_aload_n hx hb dL_some_0 rfl (lv_at hl 3 rfl) ?_
  refine lv_iconst (v := nI 0) hx hb dL_some_1 (by decide +kernel) ?_
  refine lv_aload_n hx hb dL_some_2 rfl (lv_at hl 0 rfl) ?_
  refine lv_iload_n hx hb dL_some_3 rfl (lv_at hl 1 rfl) ?_
  refine lv_iload_n hx hb dL_some_4 rfl (lv_at hl 2 rfl) ?_
  obtain ⟨x9, ht1, ht2, ht3, ht4, ht5⟩ := lk_tab1 htb
  have hP1 : va_P D vwA (sW a kI kL kZ u) s.heap := pa_l hP
  refine kt_C (D := D) (ws := sW a kI kL kZ u) (hpc := 13) (k := 13) ⟨hx, hb, hml, hown, hA⟩ (t_some l hl0 D a kI kL kZ u x1 x2 hN hbad) (kw_L_15 hA rfl rfl ⟨Nat.le_trans (Nat.le_of_ble_eq_true rfl) hRf, Nat.le_trans (Nat.le_of_ble_eq_true rfl) hRl⟩) hK hP1 (fun U hU hW => hX.mv hW (fun q cl z => by rw [hU]; exact z)) hS 0 4 rfl rfl rfl hl.1 (Nat.le_of_ble_eq_true rfl) ⟨by omega, by omega⟩ dL_some_5 rfl ht1 (by unfold covers; rw [ht2, ht3]; rfl) ht5 (by decide) ht4 (hA _ mcl_L_13) (fun a1 H locs hP2 hk2 hS => ?_)
  have hP : va_P D vwA (hW a o kI kL kZ (u, f)) H := hP.kept (fun k q hq => hk2 q.1 (hP k q hq).lt)
  refine lv_astore (lv' := [(4, .ref a1), (0, .ref (a 0)), (1, .int x1), (2, .int x2), (3, .ref o)]) hx hb dL_some_13 hl (by decide) rfl (fun ls hl => ?_)
  refine lv_iconst (v := nI 1) hx hb dL_some_15 (by decide +kernel) ?_
  subst hQe
  exact W.iret (v := nI 1) hx hb hr (fun t ht hW => ⟨⟨_, (u, f), rfl, ⟨rfl, rfl⟩, tq_hp ht hP⟩, hS.F ht⟩) hS.2.2 dL_some_16
set_option maxHeartbeats 4000000 in
set_option maxRecDepth 100000 in
theorem g_below (l : Launch) (D : va_G) (a : Nat → Nat) (o : Nat) (kI kL kZ : ClassId) (u : sU) (f : Nat → Int64) (N : Nat) (kd fa fb : Nat → Nat) (T : Nat) (so xa xb xc : Nat → Nat) (F : Nat → Prop) (M : Nat) (rs : Nat → Nat) (hi : s_inv u N kd fa fb T so xa xb xc F M rs) (d d2 : Nat) (hd : d < N) (hd2 : d2 < N) : Met l yL_below (wL_below :: wA) ({ frames := 8, cells := 0, slots := 0, locals := 157 }) (va_Pc [.ref (a 0), .int (nI d), .int (nI d2), .ref o] (tq_wB D vwA (hW a o kI kL kZ (u, f)) (sT kI kL kZ))) (va_Qi (fun r (w : sU × (Nat → Int64)) => r = nI 0 ∧ ∃ r0 : Int32, w.2 0 = r0.toInt64 ∧ (∃ T' so' xa' xb' xc' F', z_tl T so xa xb xc F 0 d d2 0 r0 T' so' xa' xb' xc' F' ∧ s_inv w.1 N kd fa fb T' so' xa' xb' xc' F' M rs)) (fun w t => va_P D vwA (hW a o kI kL kZ w) t.heap) (hA9 a o)) 0 0 (hA9 a o) := by
  refine va_MetW (cc := bL_below) (maxL := 5) (ret := some .int) (hh := hL_below) (by decide +kernel) rfl ?_
  intro p e s m args below meth c s₁ B1 hml hv
  have htb := lk_tab B1 (List.mem_cons_self)
  obtain ⟨rfl, hP, hK, hD0⟩ := hv
  have hx := B1.exec
  have hb := B1.bytes
  have hr := B1.returns
  have hA : ∀ w ∈ wA, w.before ([.ref (a 0), .int (nI d), .int (nI d2), .ref o] : List Value).toArray s = true := fun w h => atoms_spec (ws := wL_below :: wA) B1.pre w (List.mem_cons_of_mem _ h)
  have hown : s.vm.findClass RcL = some m.cls := findClass_of_methodNamed B1.named
  have hlocks := B1.notSynchronized
  have hS : va_S (hA9 a o) s.heap s.heap [] := va_S.rf
  have hl := lv_entry ([.ref (a 0), .int (nI d), .int (nI d2), .ref o]) (n := 5) (Nat.le_of_ble_eq_true rfl)
  rw [lg_entry_eq]
  generalize (lg_sl ([.ref (a 0), .int (nI d), .int (nI d2), .ref o]) ++ List.replicate (5 - (lg_sl ([.ref (a 0), .int (nI d), .int (nI d2), .ref o])).length) Slot.unset).toArray = ls at hl ⊢
  have hl : lv_has ls 5 [(0, .ref (a 0)), (1, .int (nI d)), (2, .int (nI d2)), (3, .ref o)] := hl
  refine tq_gen (fun R Q hRe hQe => ?_)
  have hRf : 8 ≤ R.frames := by rw [hRe]; exact Nat.le_of_ble_eq_true rfl
  have hRl : 157 ≤ R.locals := by rw [hRe]; exact Nat.le_of_ble_eq_true rfl
  have hRc : 0 ≤ R.cells := by rw [hRe]; exact Nat.le_of_ble_eq_true rfl
  have hRs : 0 ≤ R.slots := by rw [hRe]; exact Nat.le_of_ble_eq_true rfl
  have hD := hA9_D hD0
  refine lv_aload_n hx hb dL_below_0 rfl (lv_at hl 3 rfl) ?_
  refine lv_iconst (v := nI 0) hx hb dL_below_1 (by decide +kernel) ?_
  refine lv_aload_n hx hb dL_below_2 rfl (lv_at hl 0 rfl) ?_
  refine lv_iload_n hx hb dL_below_3 rfl (lv_at hl 1 rfl) ?_
  refine lv_iload_n hx hb dL_below_4 rfl (lv_at hl 2 rfl) ?_
  refine kp_i (X := []) (wf := sW a kI kL kZ) (u := u) (Z := [(o, .inl (kL, 1, .inr (.inl f)))]) ⟨hx, hb, hml, hown, hA⟩ (v_below l D a kI kL kZ u N kd fa fb T so xa xb xc F M rs hi d d2 hd hd2) (kw_L_18 hA rfl rfl ⟨Nat.le_trans (Nat.le_of_ble_eq_true rfl) hRf, Nat.le_trans (Nat.le_of_ble_eq_true rfl) hRl⟩) hK hP hD hS (fun _ h => h) (fun u' => sW_adr u') 0 4 rfl rfl rfl hl.1 (Nat.le_of_ble_eq_true rfl) ⟨by omega, by omega⟩ dL_below_5 rfl (fun r1 u1 H locs hu1 hP hD hS => ?_)
  have hP : va_P D vwA (hW a o kI kL kZ (u1, f)) H := hP
  have hD : va_D (hA9 a o) (hW a o kI kL kZ (u1, f)) := hD
  refine lv_i2l hx hb dL_below_8 rfl ?_
  refine tq_last hx hb hK hP hD hS 32 1 rfl rfl (by omega) (by omega) dL_below_9 (fun H locs hP hD hS => ?_)
  have hP : va_P D vwA (hW a o kI kL kZ (u1, vp_updL f 0 r1.toInt64)) H := hP
  have hD : va_D (hA9 a o) (hW a o kI kL kZ (u1, vp_updL f 0 r1.toInt64)) := hD
  refine lv_goto hx hb dL_below_10 (tgt := 17) (by decide) ?_
  refine lv_iconst (v := nI 0) hx hb dL_below_17 (by decide +kernel) ?_
  subst hQe
  exact W.iret (v := nI 0) hx hb hr (fun t ht hW => ⟨⟨_, (u1, vp_updL f 0 r1.toInt64), rfl, ⟨rfl, r1, rfl, hu1⟩, tq_hp ht hP⟩, hS.F ht⟩) hS.2.2 dL_below_18
set_option maxHeartbeats 4000000 in
set_option maxRecDepth 100000 in
theorem b_below (l : Launch) (hl0 : l.stackTraces = false) (D : va_G) (a : Nat → Nat) (o : Nat) (kI kL kZ : ClassId) (u : sU) (f : Nat → Int64) (x1 : Int32) (x2 : Int32) (hN : u.2.2 0 ≤ 160) (hbad : (∀ k, k < u.2.2 0 → ¬ x1 = nI k) ∨ (∀ k, k < u.2.2 0 → ¬ x2 = nI k)) : Met l yL_below (wL_below :: wA) ({ frames := 8, cells := 1, slots := 6, locals := 157 }) (va_Pc [.ref (a 0), .int x1, .int x2, .ref o] (tq_wX D vwA (hW a o kI kL kZ (u, f)) (sT kI kL kZ))) (va_Qi (fun r (w : sU × (Nat → Int64)) => r = nI 1 ∧ w = (u, f)) (fun w t => va_P D vwA (hW a o kI kL kZ w) t.heap) (hA9 a o)) 1 6 (hA9 a o) := by
  refine va_MetW (cc := bL_below) (maxL := 5) (ret := some .int) (hh := hL_below) (by decide +kernel) rfl ?_
  intro p e s m args below meth c s₁ B1 hml hv
  have htb := lk_tab B1 (List.mem_cons_self)
  obtain ⟨rfl, hP, hK, hD0, hX⟩ := hv
  have hx := B1.exec
  have hb := B1.bytes
  have hr := B1.returns
  have hA : ∀ w ∈ wA, w.before ([.ref (a 0), .int x1, .int x2, .ref o] : List Value).toArray s = true := fun w h => atoms_spec (ws := wL_below :: wA) B1.pre w (List.mem_cons_of_mem _ h)
  have hown : s.vm.findClass RcL = some m.cls := findClass_of_methodNamed B1.named
  have hlocks := B1.notSynchronized
  have hS : va_S (hA9 a o) s.heap s.heap [] := va_S.rf
  have hl := lv_entry ([.ref (a 0), .int x1, .int x2, .ref o]) (n := 5) (Nat.le_of_ble_eq_true rfl)
  rw [lg_entry_eq]
  generalize (lg_sl ([.ref (a 0), .int x1, .int x2, .ref o]) ++ List.replicate (5 - (lg_sl ([.ref (a 0), .int x1, .int x2, .ref o])).length) Slot.unset).toArray = ls at hl ⊢
  have hl : lv_has ls 5 [(0, .ref (a 0)), (1, .int x1), (2, .int x2), (3, .ref o)] := hl
  refine tq_gen (fun R Q hRe hQe => ?_)
  have hRf : 8 ≤ R.frames := by rw [hRe]; exact Nat.le_of_ble_eq_true rfl
  have hRl : 157 ≤ R.locals := by rw [hRe]; exact Nat.le_of_ble_eq_true rfl
  have hRc : 1 ≤ R.cells := by rw [hRe]; exact Nat.le_of_ble_eq_true rfl
  have hRs : 6 ≤ R.slots := by rw [hRe]; exact Nat.le_of_ble_eq_true rfl
  have hD := hA9_D hD0
  refine lv_aload_n hx hb dL_below_0 rfl (lv_at hl 3 rfl) ?_
  refine lv_iconst (v := nI 0) hx hb dL_below_1 (by decide +kernel) ?_
  refine lv_aload_n hx hb dL_below_2 rfl (lv_at hl 0 rfl) ?_
  refine lv_iload_n hx hb dL_below_3 rfl (lv_at hl 1 rfl) ?_
  refine lv_iload_n hx hb dL_below_4 rfl (lv_at hl 2 rfl) ?_
  obtain ⟨x9, ht1, ht2, ht3, ht4, ht5⟩ := lk_tab1 htb
  have hP1 : va_P D vwA (sW a kI kL kZ u) s.heap := pa_l hP
  refine kt_C (D := D) (ws := sW a kI kL kZ u) (hpc := 13) (k := 13) ⟨hx, hb, hml, hown, hA⟩ (t_below l hl0 D a kI kL kZ u x1 x2 hN hbad) (kw_L_18 hA rfl rfl ⟨Nat.le_trans (Nat.le_of_ble_eq_true rfl) hRf, Nat.le_trans (Nat.le_of_ble_eq_true rfl) hRl⟩) hK hP1 (fun U hU hW => hX.mv hW (fun q cl z => by rw [hU]; exact z)) hS 0 4 rfl rfl rfl hl.1 (Nat.le_of_ble_eq_true rfl) ⟨by omega, by omega⟩ dL_below_5 rfl ht1 (by unfold covers; rw [ht2, ht3]; rfl) ht5 (by decide) ht4 (hA _ mcl_L_13) (fun a1 H locs hP2 hk2 hS => ?_)
  have hP : va_P D vwA (hW a o kI kL kZ (u, f)) H := hP.kept (fun k q hq => hk2 q.1 (hP k q hq).lt)
  refine lv_astore (lv' := [(4, .ref a1), (0, .ref (a 0)), (1, .int x1), (2, .int x2), (3, .ref o)]) hx hb dL_below_13 hl (by decide) rfl (fun ls hl => ?_)
  refine lv_iconst (v := nI 1) hx hb dL_below_15 (by decide +kernel) ?_
  subst hQe
  exact W.iret (v := nI 1) hx hb hr (fun t ht hW => ⟨⟨_, (u, f), rfl, ⟨rfl, rfl⟩, tq_hp ht hP⟩, hS.F ht⟩) hS.2.2 dL_below_16
set_option maxHeartbeats 4000000 in
set_option maxRecDepth 100000 in
theorem g_equal (l : Launch) (D : va_G) (a : Nat → Nat) (o : Nat) (kI kL kZ : ClassId) (u : sU) (f : Nat → Int64) (N : Nat) (kd fa fb : Nat → Nat) (T : Nat) (so xa xb xc : Nat → Nat) (F : Nat → Prop) (M : Nat) (rs : Nat → Nat) (hi : s_inv u N kd fa fb T so xa xb xc F M rs) (d d2 : Nat) (hd : d < N) (hd2 : d2 < N) : Met l yL_equal (wL_equal :: wA) ({ frames := 8, cells := 0, slots := 0, locals := 157 }) (va_Pc [.ref (a 0), .int (nI d), .int (nI d2), .ref o] (tq_wB D vwA (hW a o kI kL kZ (u, f)) (sT kI kL kZ))) (va_Qi (fun r (w : sU × (Nat → Int64)) => r = nI 0 ∧ ∃ r0 : Int32, w.2 0 = r0.toInt64 ∧ (∃ T' so' xa' xb' xc' F', z_tl T so xa xb xc F 1 d d2 0 r0 T' so' xa' xb' xc' F' ∧ s_inv w.1 N kd fa fb T' so' xa' xb' xc' F' M rs)) (fun w t => va_P D vwA (hW a o kI kL kZ w) t.heap) (hA9 a o)) 0 0 (hA9 a o) := by
  refine va_MetW (cc := bL_equal) (maxL := 5) (ret := some .int) (hh := hL_equal) (by decide +kernel) rfl ?_
  intro p e s m args below meth c s₁ B1 hml hv
  have htb := lk_tab B1 (List.mem_cons_self)
  obtain ⟨rfl, hP, hK, hD0⟩ := hv
  have hx := B1.exec
  have hb := B1.bytes
  have hr := B1.returns
  have hA : ∀ w ∈ wA, w.before ([.ref (a 0), .int (nI d), .int (nI d2), .ref o] : List Value).toArray s = true := fun w h => atoms_spec (ws := wL_equal :: wA) B1.pre w (List.mem_cons_of_mem _ h)
  have hown : s.vm.findClass RcL = some m.cls := findClass_of_methodNamed B1.named
  have hlocks := B1.notSynchronized
  have hS : va_S (hA9 a o) s.heap s.heap [] := va_S.rf
  have hl := lv_entry ([.ref (a 0), .int (nI d), .int (nI d2), .ref o]) (n := 5) (Nat.le_of_ble_eq_true rfl)
  rw [lg_entry_eq]
  generalize (lg_sl ([.ref (a 0), .int (nI d), .int (nI d2), .ref o]) ++ List.replicate (5 - (lg_sl ([.ref (a 0), .int (nI d), .int (nI d2), .ref o])).length) Slot.unset).toArray = ls at hl ⊢
  have hl : lv_has ls 5 [(0, .ref (a 0)), (1, .int (nI d)), (2, .int (nI d2)), (3, .ref o)] := hl
  refine tq_gen (fun R Q hRe hQe => ?_)
  have hRf : 8 ≤ R.frames := by rw [hRe]; exact Nat.le_of_ble_eq_true rfl
  have hRl : 157 ≤ R.locals := by rw [hRe]; exact Nat.le_of_ble_eq_true rfl
  have hRc : 0 ≤ R.cells := by rw [hRe]; exact Nat.le_of_ble_eq_true rfl
  have hRs : 0 ≤ R.slots := by rw [hRe]; exact Nat.le_of_ble_eq_true rfl
  have hD := hA9_D hD0
  refine lv_aload_n hx hb dL_equal_0 rfl (lv_at hl 3 rfl) ?_
  refine lv_iconst (v := nI 0) hx hb dL_equal_1 (by decide +kernel) ?_
  refine lv_aload_n hx hb dL_equal_2 rfl (lv_at hl 0 rfl) ?_
  refine lv_iload_n hx hb dL_equal_3 rfl (lv_at hl 1 rfl) ?_
  refine lv_iload_n hx hb dL_equal_4 rfl (lv_at hl 2 rfl) ?_
  refine kp_i (X := []) (wf := sW a kI kL kZ) (u := u) (Z := [(o, .inl (kL, 1, .inr (.inl f)))]) ⟨hx, hb, hml, hown, hA⟩ (v_equal l D a kI kL kZ u N kd fa fb T so xa xb xc F M rs hi d d2 hd hd2) (kw_L_21 hA rfl rfl ⟨Nat.le_trans (Nat.le_of_ble_eq_true rfl) hRf, Nat.le_trans (Nat.le_of_ble_eq_true rfl) hRl⟩) hK hP hD hS (fun _ h => h) (fun u' => sW_adr u') 0 4 rfl rfl rfl hl.1 (Nat.le_of_ble_eq_true rfl) ⟨by omega, by omega⟩ dL_equal_5 rfl (fun r1 u1 H locs hu1 hP hD hS => ?_)
  have hP : va_P D vwA (hW a o kI kL kZ (u1, f)) H := hP
  have hD : va_D (hA9 a o) (hW a o kI kL kZ (u1, f)) := hD
  refine lv_i2l hx hb dL_equal_8 rfl ?_
  refine tq_last hx hb hK hP hD hS 32 1 rfl rfl (by omega) (by omega) dL_equal_9 (fun H locs hP hD hS => ?_)
  have hP : va_P D vwA (hW a o kI kL kZ (u1, vp_updL f 0 r1.toInt64)) H := hP
  have hD : va_D (hA9 a o) (hW a o kI kL kZ (u1, vp_updL f 0 r1.toInt64)) := hD
  refine lv_goto hx hb dL_equal_10 (tgt := 17) (by decide) ?_
  refine lv_iconst (v := nI 0) hx hb dL_equal_17 (by decide +kernel) ?_
  subst hQe
  exact W.iret (v := nI 0) hx hb hr (fun t ht hW => ⟨⟨_, (u1, vp_updL f 0 r1.toInt64), rfl, ⟨rfl, r1, rfl, hu1⟩, tq_hp ht hP⟩, hS.F ht⟩) hS.2.2 dL_equal_18
set_option maxHeartbeats 4000000 in
set_option maxRecDepth 100000 in
theorem b_equal (l : Launch) (hl0 : l.stackTraces = false) (D : va_G) (a : Nat → Nat) (o : Nat) (kI kL kZ : ClassId) (u : sU) (f : Nat → Int64) (x1 : Int32) (x2 : Int32) (hN : u.2.2 0 ≤ 160) (hbad : (∀ k, k < u.2.2 0 → ¬ x1 = nI k) ∨ (∀ k, k < u.2.2 0 → ¬ x2 = nI k)) : Met l yL_equal (wL_equal :: wA) ({ frames := 8, cells := 1, slots := 6, locals := 157 }) (va_Pc [.ref (a 0), .int x1, .int x2, .ref o] (tq_wX D vwA (hW a o kI kL kZ (u, f)) (sT kI kL kZ))) (va_Qi (fun r (w : sU × (Nat → Int64)) => r = nI 1 ∧ w = (u, f)) (fun w t => va_P D vwA (hW a o kI kL kZ w) t.heap) (hA9 a o)) 1 6 (hA9 a o) := by
  refine va_MetW (cc := bL_equal) (maxL := 5) (ret := some .int) (hh := hL_equal) (by decide +kernel) rfl ?_
  intro p e s m args below meth c s₁ B1 hml hv
  have htb := lk_tab B1 (List.mem_cons_self)
  obtain ⟨rfl, hP, hK, hD0, hX⟩ := hv
  have hx := B1.exec
  have hb := B1.bytes
  have hr := B1.returns
  have hA : ∀ w ∈ wA, w.before ([.ref (a 0), .int x1, .int x2, .ref o] : List Value).toArray s = true := fun w h => atoms_spec (ws := wL_equal :: wA) B1.pre w (List.mem_cons_of_mem _ h)
  have hown : s.vm.findClass RcL = some m.cls := findClass_of_methodNamed B1.named
  have hlocks := B1.notSynchronized
  have hS : va_S (hA9 a o) s.heap s.heap [] := va_S.rf
  have hl := lv_entry ([.ref (a 0), .int x1, .int x2, .ref o]) (n := 5) (Nat.le_of_ble_eq_true rfl)
  rw [lg_entry_eq]
  generalize (lg_sl ([.ref (a 0), .int x1, .int x2, .ref o]) ++ List.replicate (5 - (lg_sl ([.ref (a 0), .int x1, .int x2, .ref o])).length) Slot.unset).toArray = ls at hl ⊢
  have hl : lv_has ls 5 [(0, .ref (a 0)), (1, .int x1), (2, .int x2), (3, .ref o)] := hl
  refine tq_gen (fun R Q hRe hQe => ?_)
  have hRf : 8 ≤ R.frames := by rw [hRe]; exact Nat.le_of_ble_eq_true rfl
  have hRl : 157 ≤ R.locals := by rw [hRe]; exact Nat.le_of_ble_eq_true rfl
  have hRc : 1 ≤ R.cells := by rw [hRe]; exact Nat.le_of_ble_eq_true rfl
  have hRs : 6 ≤ R.slots := by rw [hRe]; exact Nat.le_of_ble_eq_true rfl
  have hD := hA9_D hD0
  refine lv_aload_n hx hb dL_equal_0 rfl (lv_at hl 3 rfl) ?_
  refine lv_iconst (v := nI 0) hx hb dL_equal_1 (by decide +kernel) ?_
  refine lv_aload_n hx hb dL_equal_2 rfl (lv_at hl 0 rfl) ?_
  refine lv_iload_n hx hb dL_equal_3 rfl (lv_at hl 1 rfl) ?_
  refine lv_iload_n hx hb dL_equal_4 rfl (lv_at hl 2 rfl) ?_
  obtain ⟨x9, ht1, ht2, ht3, ht4, ht5⟩ := lk_tab1 htb
  have hP1 : va_P D vwA (sW a kI kL kZ u) s.heap := pa_l hP
  refine kt_C (D := D) (ws := sW a kI kL kZ u) (hpc := 13) (k := 13) ⟨hx, hb, hml, hown, hA⟩ (t_equal l hl0 D a kI kL kZ u x1 x2 hN hbad) (kw_L_21 hA rfl rfl ⟨Nat.le_trans (Nat.le_of_ble_eq_true rfl) hRf, Nat.le_trans (Nat.le_of_ble_eq_true rfl) hRl⟩) hK hP1 (fun U hU hW => hX.mv hW (fun q cl z => by rw [hU]; exact z)) hS 0 4 rfl rfl rfl hl.1 (Nat.le_of_ble_eq_true rfl) ⟨by omega, by omega⟩ dL_equal_5 rfl ht1 (by unfold covers; rw [ht2, ht3]; rfl) ht5 (by decide) ht4 (hA _ mcl_L_13) (fun a1 H locs hP2 hk2 hS => ?_)
  have hP : va_P D vwA (hW a o kI kL kZ (u, f)) H := hP.kept (fun k q hq => hk2 q.1 (hP k q hq).lt)
  refine lv_astore (lv' := [(4, .ref a1), (0, .ref (a 0)), (1, .int x1), (2, .int x2), (3, .ref o)]) hx hb dL_equal_13 hl (by decide) rfl (fun ls hl => ?_)
  refine lv_iconst (v := nI 1) hx hb dL_equal_15 (by decide +kernel) ?_
  subst hQe
  exact W.iret (v := nI 1) hx hb hr (fun t ht hW => ⟨⟨_, (u, f), rfl, ⟨rfl, rfl⟩, tq_hp ht hP⟩, hS.F ht⟩) hS.2.2 dL_equal_16
set_option maxHeartbeats 4000000 in
set_option maxRecDepth 100000 in
theorem g_roleBelow (l : Launch) (D : va_G) (a : Nat → Nat) (o : Nat) (kI kL kZ : ClassId) (u : sU) (f : Nat → Int64) (N : Nat) (kd fa fb : Nat → Nat) (T : Nat) (so xa xb xc : Nat → Nat) (F : Nat → Prop) (M : Nat) (rs : Nat → Nat) (hi : s_inv u N kd fa fb T so xa xb xc F M rs) (d d2 : Nat) (hd : d < 6) (hd2 : d2 < 6) : Met l yL_roleBelow (wL_roleBelow :: wA) ({ frames := 8, cells := 0, slots := 0, locals := 157 }) (va_Pc [.ref (a 0), .int (nI d), .int (nI d2), .ref o] (tq_wB D vwA (hW a o kI kL kZ (u, f)) (sT kI kL kZ))) (va_Qi (fun r (w : sU × (Nat → Int64)) => r = nI 0 ∧ ∃ r0 : Int32, w.2 0 = r0.toInt64 ∧ (∃ T' so' xa' xb' xc' F', z_tl T so xa xb xc F 2 d d2 0 r0 T' so' xa' xb' xc' F' ∧ s_inv w.1 N kd fa fb T' so' xa' xb' xc' F' M rs)) (fun w t => va_P D vwA (hW a o kI kL kZ w) t.heap) (hA9 a o)) 0 0 (hA9 a o) := by
  refine va_MetW (cc := bL_roleBelow) (maxL := 5) (ret := some .int) (hh := hL_roleBelow) (by decide +kernel) rfl ?_
  intro p e s m args below meth c s₁ B1 hml hv
  have htb := lk_tab B1 (List.mem_cons_self)
  obtain ⟨rfl, hP, hK, hD0⟩ := hv
  have hx := B1.exec
  have hb := B1.bytes
  have hr := B1.returns
  have hA : ∀ w ∈ wA, w.before ([.ref (a 0), .int (nI d), .int (nI d2), .ref o] : List Value).toArray s = true := fun w h => atoms_spec (ws := wL_roleBelow :: wA) B1.pre w (List.mem_cons_of_mem _ h)
  have hown : s.vm.findClass RcL = some m.cls := findClass_of_methodNamed B1.named
  have hlocks := B1.notSynchronized
  have hS : va_S (hA9 a o) s.heap s.heap [] := va_S.rf
  have hl := lv_entry ([.ref (a 0), .int (nI d), .int (nI d2), .ref o]) (n := 5) (Nat.le_of_ble_eq_true rfl)
  rw [lg_entry_eq]
  generalize (lg_sl ([.ref (a 0), .int (nI d), .int (nI d2), .ref o]) ++ List.replicate (5 - (lg_sl ([.ref (a 0), .int (nI d), .int (nI d2), .ref o])).length) Slot.unset).toArray = ls at hl ⊢
  have hl : lv_has ls 5 [(0, .ref (a 0)), (1, .int (nI d)), (2, .int (nI d2)), (3, .ref o)] := hl
  refine tq_gen (fun R Q hRe hQe => ?_)
  have hRf : 8 ≤ R.frames := by rw [hRe]; exact Nat.le_of_ble_eq_true rfl
  have hRl : 157 ≤ R.locals := by rw [hRe]; exact Nat.le_of_ble_eq_true rfl
  have hRc : 0 ≤ R.cells := by rw [hRe]; exact Nat.le_of_ble_eq_true rfl
  have hRs : 0 ≤ R.slots := by rw [hRe]; exact Nat.le_of_ble_eq_true rfl
  have hD := hA9_D hD0
  refine lv_aload_n hx hb dL_roleBelow_0 rfl (lv_at hl 3 rfl) ?_
  refine lv_iconst (v := nI 0) hx hb dL_roleBelow_1 (by decide +kernel) ?_
  refine lv_aload_n hx hb dL_roleBelow_2 rfl (lv_at hl 0 rfl) ?_
  refine lv_iload_n hx hb dL_roleBelow_3 rfl (lv_at hl 1 rfl) ?_
  refine lv_iload_n hx hb dL_roleBelow_4 rfl (lv_at hl 2 rfl) ?_
  refine kp_i (X := []) (wf := sW a kI kL kZ) (u := u) (Z := [(o, .inl (kL, 1, .inr (.inl f)))]) ⟨hx, hb, hml, hown, hA⟩ (v_roleBelow l D a kI kL kZ u N kd fa fb T so xa xb xc F M rs hi d d2 hd hd2) (kw_L_24 hA rfl rfl ⟨Nat.le_trans (Nat.le_of_ble_eq_true rfl) hRf, Nat.le_trans (Nat.le_of_ble_eq_true rfl) hRl⟩) hK hP hD hS (fun _ h => h) (fun u' => sW_adr u') 0 4 rfl rfl rfl hl.1 (Nat.le_of_ble_eq_true rfl) ⟨by omega, by omega⟩ dL_roleBelow_5 rfl (fun r1 u1 H locs hu1 hP hD hS => ?_)
  have hP : va_P D vwA (hW a o kI kL kZ (u1, f)) H := hP
  have hD : va_D (hA9 a o) (hW a o kI kL kZ (u1, f)) := hD
  refine lv_i2l hx hb dL_roleBelow_8 rfl ?_
  refine tq_last hx hb hK hP hD hS 32 1 rfl rfl (by omega) (by omega) dL_roleBelow_9 (fun H locs hP hD hS => ?_)
  have hP : va_P D vwA (hW a o kI kL kZ (u1, vp_updL f 0 r1.toInt64)) H := hP
  have hD : va_D (hA9 a o) (hW a o kI kL kZ (u1, vp_updL f 0 r1.toInt64)) := hD
  refine lv_goto hx hb dL_roleBelow_10 (tgt := 17) (by decide) ?_
  refine lv_iconst (v := nI 0) hx hb dL_roleBelow_17 (by decide +kernel) ?_
  subst hQe
  exact W.iret (v := nI 0) hx hb hr (fun t ht hW => ⟨⟨_, (u1, vp_updL f 0 r1.toInt64), rfl, ⟨rfl, r1, rfl, hu1⟩, tq_hp ht hP⟩, hS.F ht⟩) hS.2.2 dL_roleBelow_18
set_option maxHeartbeats 4000000 in
set_option maxRecDepth 100000 in
theorem b_roleBelow (l : Launch) (hl0 : l.stackTraces = false) (D : va_G) (a : Nat → Nat) (o : Nat) (kI kL kZ : ClassId) (u : sU) (f : Nat → Int64) (x1 : Int32) (x2 : Int32) (hN : u.2.2 0 ≤ 160) (hbad : (∀ k, k < 6 → ¬ x1 = nI k) ∨ (∀ k, k < 6 → ¬ x2 = nI k)) : Met l yL_roleBelow (wL_roleBelow :: wA) ({ frames := 8, cells := 1, slots := 6, locals := 157 }) (va_Pc [.ref (a 0), .int x1, .int x2, .ref o] (tq_wX D vwA (hW a o kI kL kZ (u, f)) (sT kI kL kZ))) (va_Qi (fun r (w : sU × (Nat → Int64)) => r = nI 1 ∧ w = (u, f)) (fun w t => va_P D vwA (hW a o kI kL kZ w) t.heap) (hA9 a o)) 1 6 (hA9 a o) := by
  refine va_MetW (cc := bL_roleBelow) (maxL := 5) (ret := some .int) (hh := hL_roleBelow) (by decide +kernel) rfl ?_
  intro p e s m args below meth c s₁ B1 hml hv
  have htb := lk_tab B1 (List.mem_cons_self)
  obtain ⟨rfl, hP, hK, hD0, hX⟩ := hv
  have hx := B1.exec
  have hb := B1.bytes
  have hr := B1.returns
  have hA : ∀ w ∈ wA, w.before ([.ref (a 0), .int x1, .int x2, .ref o] : List Value).toArray s = true := fun w h => atoms_spec (ws := wL_roleBelow :: wA) B1.pre w (List.mem_cons_of_mem _ h)
  have hown : s.vm.findClass RcL = some m.cls := findClass_of_methodNamed B1.named
  have hlocks := B1.notSynchronized
  have hS : va_S (hA9 a o) s.heap s.heap [] := va_S.rf
  have hl := lv_entry ([.ref (a 0), .int x1, .int x2, .ref o]) (n := 5) (Nat.le_of_ble_eq_true rfl)
  rw [lg_entry_eq]
  generalize (lg_sl ([.ref (a 0), .int x1, .int x2, .ref o]) ++ List.replicate (5 - (lg_sl ([.ref (a 0), .int x1, .int x2, .ref o])).length) Slot.unset).toArray = ls at hl ⊢
  have hl : lv_has ls 5 [(0, .ref (a 0)), (1, .int x1), (2, .int x2), (3, .ref o)] := hl
  refine tq_gen (fun R Q hRe hQe => ?_)
  have hRf : 8 ≤ R.frames := by rw [hRe]; exact Nat.le_of_ble_eq_true rfl
  have hRl : 157 ≤ R.locals := by rw [hRe]; exact Nat.le_of_ble_eq_true rfl
  have hRc : 1 ≤ R.cells := by rw [hRe]; exact Nat.le_of_ble_eq_true rfl
  have hRs : 6 ≤ R.slots := by rw [hRe]; exact Nat.le_of_ble_eq_true rfl
  have hD := hA9_D hD0
  refine lv_aload_n hx hb dL_roleBelow_0 rfl (lv_at hl 3 rfl) ?_
  refine lv_iconst (v := nI 0) hx hb dL_roleBelow_1 (by decide +kernel) ?_
  refine lv_aload_n hx hb dL_roleBelow_2 rfl (lv_at hl 0 rfl) ?_
  refine lv_iload_n hx hb dL_roleBelow_3 rfl (lv_at hl 1 rfl) ?_
  refine lv_iload_n hx hb dL_roleBelow_4 rfl (lv_at hl 2 rfl) ?_
  obtain ⟨x9, ht1, ht2, ht3, ht4, ht5⟩ := lk_tab1 htb
  have hP1 : va_P D vwA (sW a kI kL kZ u) s.heap := pa_l hP
  refine kt_C (D := D) (ws := sW a kI kL kZ u) (hpc := 13) (k := 13) ⟨hx, hb, hml, hown, hA⟩ (t_roleBelow l hl0 D a kI kL kZ u x1 x2 hN hbad) (kw_L_24 hA rfl rfl ⟨Nat.le_trans (Nat.le_of_ble_eq_true rfl) hRf, Nat.le_trans (Nat.le_of_ble_eq_true rfl) hRl⟩) hK hP1 (fun U hU hW => hX.mv hW (fun q cl z => by rw [hU]; exact z)) hS 0 4 rfl rfl rfl hl.1 (Nat.le_of_ble_eq_true rfl) ⟨by omega, by omega⟩ dL_roleBelow_5 rfl ht1 (by unfold covers; rw [ht2, ht3]; rfl) ht5 (by decide) ht4 (hA _ mcl_L_13) (fun a1 H locs hP2 hk2 hS => ?_)
  have hP : va_P D vwA (hW a o kI kL kZ (u, f)) H := hP.kept (fun k q hq => hk2 q.1 (hP k q hq).lt)
  refine lv_astore (lv' := [(4, .ref a1), (0, .ref (a 0)), (1, .int x1), (2, .int x2), (3, .ref o)]) hx hb dL_roleBelow_13 hl (by decide) rfl (fun ls hl => ?_)
  refine lv_iconst (v := nI 1) hx hb dL_roleBelow_15 (by decide +kernel) ?_
  subst hQe
  exact W.iret (v := nI 1) hx hb hr (fun t ht hW => ⟨⟨_, (u, f), rfl, ⟨rfl, rfl⟩, tq_hp ht hP⟩, hS.F ht⟩) hS.2.2 dL_roleBelow_16
set_option maxHeartbeats 4000000 in
set_option maxRecDepth 100000 in
theorem g_chain (l : Launch) (D : va_G) (a : Nat → Nat) (o : Nat) (kI kL kZ : ClassId) (u : sU) (f : Nat → Int64) (N : Nat) (kd fa fb : Nat → Nat) (T : Nat) (so xa xb xc : Nat → Nat) (F : Nat → Prop) (M : Nat) (rs : Nat → Nat) (hi : s_inv u N kd fa fb T so xa xb xc F M rs) (d d2 d3 : Nat) (hd : d < 6) (hd2 : d2 < 6) (hd3 : d3 < 6) : Met l yL_chain (wL_chain :: wA) ({ frames := 8, cells := 0, slots := 0, locals := 158 }) (va_Pc [.ref (a 0), .int (nI d), .int (nI d2), .int (nI d3), .ref o] (tq_wB D vwA (hW a o kI kL kZ (u, f)) (sT kI kL kZ))) (va_Qi (fun r (w : sU × (Nat → Int64)) => r = nI 0 ∧ ∃ r0 : Int32, w.2 0 = r0.toInt64 ∧ (∃ T' so' xa' xb' xc' F', z_tl T so xa xb xc F 3 d d2 d3 r0 T' so' xa' xb' xc' F' ∧ s_inv w.1 N kd fa fb T' so' xa' xb' xc' F' M rs)) (fun w t => va_P D vwA (hW a o kI kL kZ w) t.heap) (hA9 a o)) 0 0 (hA9 a o) := by
  refine va_MetW (cc := bL_chain) (maxL := 6) (ret := some .int) (hh := hL_chain) (by decide +kernel) rfl ?_
  intro p e s m args below meth c s₁ B1 hml hv
  have htb := lk_tab B1 (List.mem_cons_self)
  obtain ⟨rfl, hP, hK, hD0⟩ := hv
  have hx := B1.exec
  have hb := B1.bytes
  have hr := B1.returns
  have hA : ∀ w ∈ wA, w.before ([.ref (a 0), .int (nI d), .int (nI d2), .int (nI d3), .ref o] : List Value).toArray s = true := fun w h => atoms_spec (ws := wL_chain :: wA) B1.pre w (List.mem_cons_of_mem _ h)
  have hown : s.vm.findClass RcL = some m.cls := findClass_of_methodNamed B1.named
  have hlocks := B1.notSynchronized
  have hS : va_S (hA9 a o) s.heap s.heap [] := va_S.rf
  have hl := lv_entry ([.ref (a 0), .int (nI d), .int (nI d2), .int (nI d3), .ref o]) (n := 6) (Nat.le_of_ble_eq_true rfl)
  rw [lg_entry_eq]
  generalize (lg_sl ([.ref (a 0), .int (nI d), .int (nI d2), .int (nI d3), .ref o]) ++ List.replicate (6 - (lg_sl ([.ref (a 0), .int (nI d), .int (nI d2), .int (nI d3), .ref o])).length) Slot.unset).toArray = ls at hl ⊢
  have hl : lv_has ls 6 [(0, .ref (a 0)), (1, .int (nI d)), (2, .int (nI d2)), (3, .int (nI d3)), (4, .ref o)] := hl
  refine tq_gen (fun R Q hRe hQe => ?_)
  have hRf : 8 ≤ R.frames := by rw [hRe]; exact Nat.le_of_ble_eq_true rfl
  have hRl : 158 ≤ R.locals := by rw [hRe]; exact Nat.le_of_ble_eq_true rfl
  have hRc : 0 ≤ R.cells := by rw [hRe]; exact Nat.le_of_ble_eq_true rfl
  have hRs : 0 ≤ R.slots := by rw [hRe]; exact Nat.le_of_ble_eq_true rfl
  have hD := hA9_D hD0
  refine lv_aload hx hb dL_chain_0 (lv_at hl 4 rfl) ?_
  refine lv_iconst (v := nI 0) hx hb dL_chain_2 (by decide +kernel) ?_
  refine lv_aload_n hx hb dL_chain_3 rfl (lv_at hl 0 rfl) ?_
  refine lv_iload_n hx hb dL_chain_4 rfl (lv_at hl 1 rfl) ?_
  refine lv_iload_n hx hb dL_chain_5 rfl (lv_at hl 2 rfl) ?_
  refine lv_iload_n hx hb dL_chain_6 rfl (lv_at hl 3 rfl) ?_
  refine kp_i (X := []) (wf := sW a kI kL kZ) (u := u) (Z := [(o, .inl (kL, 1, .inr (.inl f)))]) ⟨hx, hb, hml, hown, hA⟩ (v_chain l D a kI kL kZ u N kd fa fb T so xa xb xc F M rs hi d d2 d3 hd hd2 hd3) (kw_L_27 hA rfl rfl ⟨Nat.le_trans (Nat.le_of_ble_eq_true rfl) hRf, Nat.le_trans (Nat.le_of_ble_eq_true rfl) hRl⟩) hK hP hD hS (fun _ h => h) (fun u' => sW_adr u') 0 4 rfl rfl rfl hl.1 (Nat.le_of_ble_eq_true rfl) ⟨by omega, by omega⟩ dL_chain_7 rfl (fun r1 u1 H locs hu1 hP hD hS => ?_)
  have hP : va_P D vwA (hW a o kI kL kZ (u1, f)) H := hP
  have hD : va_D (hA9 a o) (hW a o kI kL kZ (u1, f)) := hD
  refine lv_i2l hx hb dL_chain_10 rfl ?_
  refine tq_last hx hb hK hP hD hS 32 1 rfl rfl (by omega) (by omega) dL_chain_11 (fun H locs hP hD hS => ?_)
  have hP : va_P D vwA (hW a o kI kL kZ (u1, vp_updL f 0 r1.toInt64)) H := hP
  have hD : va_D (hA9 a o) (hW a o kI kL kZ (u1, vp_updL f 0 r1.toInt64)) := hD
  refine lv_goto hx hb dL_chain_12 (tgt := 19) (by decide) ?_
  refine lv_iconst (v := nI 0) hx hb dL_chain_19 (by decide +kernel) ?_
  subst hQe
  exact W.iret (v := nI 0) hx hb hr (fun t ht hW => ⟨⟨_, (u1, vp_updL f 0 r1.toInt64), rfl, ⟨rfl, r1, rfl, hu1⟩, tq_hp ht hP⟩, hS.F ht⟩) hS.2.2 dL_chain_20
set_option maxHeartbeats 4000000 in
set_option maxRecDepth 100000 in
theorem b_chain (l : Launch) (hl0 : l.stackTraces = false) (D : va_G) (a : Nat → Nat) (o : Nat) (kI kL kZ : ClassId) (u : sU) (f : Nat → Int64) (x1 : Int32) (x2 : Int32) (x3 : Int32) (hN : u.2.2 0 ≤ 160) (hbad : (∀ k, k < 6 → ¬ x1 = nI k) ∨ (∀ k, k < 6 → ¬ x2 = nI k) ∨ (∀ k, k < 6 → ¬ x3 = nI k)) : Met l yL_chain (wL_chain :: wA) ({ frames := 8, cells := 1, slots := 6, locals := 158 }) (va_Pc [.ref (a 0), .int x1, .int x2, .int x3, .ref o] (tq_wX D vwA (hW a o kI kL kZ (u, f)) (sT kI kL kZ))) (va_Qi (fun r (w : sU × (Nat → Int64)) => r = nI 1 ∧ w = (u, f)) (fun w t => va_P D vwA (hW a o kI kL kZ w) t.heap) (hA9 a o)) 1 6 (hA9 a o) := by
  refine va_MetW (cc := bL_chain) (maxL := 6) (ret := some .int) (hh := hL_chain) (by decide +kernel) rfl ?_
  intro p e s m args below meth c s₁ B1 hml hv
  have htb := lk_tab B1 (List.mem_cons_self)
  obtain ⟨rfl, hP, hK, hD0, hX⟩ := hv
  have hx := B1.exec
  have hb := B1.bytes
  have hr := B1.returns
  have hA : ∀ w ∈ wA, w.before ([.ref (a 0), .int x1, .int x2, .int x3, .ref o] : List Value).toArray s = true := fun w h => atoms_spec (ws := wL_chain :: wA) B1.pre w (List.mem_cons_of_mem _ h)
  have hown : s.vm.findClass RcL = some m.cls := findClass_of_methodNamed B1.named
  have hlocks := B1.notSynchronized
  have hS : va_S (hA9 a o) s.heap s.heap [] := va_S.rf
  have hl := lv_entry ([.ref (a 0), .int x1, .int x2, .int x3, .ref o]) (n := 6) (Nat.le_of_ble_eq_true rfl)
  rw [lg_entry_eq]
  generalize (lg_sl ([.ref (a 0), .int x1, .int x2, .int x3, .ref o]) ++ List.replicate (6 - (lg_sl ([.ref (a 0), .int x1, .int x2, .int x3, .ref o])).length) Slot.unset).toArray = ls at hl ⊢
  have hl : lv_has ls 6 [(0, .ref (a 0)), (1, .int x1), (2, .int x2), (3, .int x3), (4, .ref o)] := hl
  refine tq_gen (fun R Q hRe hQe => ?_)
  have hRf : 8 ≤ R.frames := by rw [hRe]; exact Nat.le_of_ble_eq_true rfl
  have hRl : 158 ≤ R.locals := by rw [hRe]; exact Nat.le_of_ble_eq_true rfl
  have hRc : 1 ≤ R.cells := by rw [hRe]; exact Nat.le_of_ble_eq_true rfl
  have hRs : 6 ≤ R.slots := by rw [hRe]; exact Nat.le_of_ble_eq_true rfl
  have hD := hA9_D hD0
  refine lv_aload hx hb dL_chain_0 (lv_at hl 4 rfl) ?_
  refine lv_iconst (v := nI 0) hx hb dL_chain_2 (by decide +kernel) ?_
  refine lv_aload_n hx hb dL_chain_3 rfl (lv_at hl 0 rfl) ?_
  refine lv_iload_n hx hb dL_chain_4 rfl (lv_at hl 1 rfl) ?_
  refine lv_iload_n hx hb dL_chain_5 rfl (lv_at hl 2 rfl) ?_
  refine lv_iload_n hx hb dL_chain_6 rfl (lv_at hl 3 rfl) ?_
  obtain ⟨x9, ht1, ht2, ht3, ht4, ht5⟩ := lk_tab1 htb
  have hP1 : va_P D vwA (sW a kI kL kZ u) s.heap := pa_l hP
  refine kt_C (D := D) (ws := sW a kI kL kZ u) (hpc := 15) (k := 13) ⟨hx, hb, hml, hown, hA⟩ (t_chain l hl0 D a kI kL kZ u x1 x2 x3 hN hbad) (kw_L_27 hA rfl rfl ⟨Nat.le_trans (Nat.le_of_ble_eq_true rfl) hRf, Nat.le_trans (Nat.le_of_ble_eq_true rfl) hRl⟩) hK hP1 (fun U hU hW => hX.mv hW (fun q cl z => by rw [hU]; exact z)) hS 0 4 rfl rfl rfl hl.1 (Nat.le_of_ble_eq_true rfl) ⟨by omega, by omega⟩ dL_chain_7 rfl ht1 (by unfold covers; rw [ht2, ht3]; rfl) ht5 (by decide) ht4 (hA _ mcl_L_13) (fun a1 H locs hP2 hk2 hS => ?_)
  have hP : va_P D vwA (hW a o kI kL kZ (u, f)) H := hP.kept (fun k q hq => hk2 q.1 (hP k q hq).lt)
  refine lv_astore (lv' := [(5, .ref a1), (0, .ref (a 0)), (1, .int x1), (2, .int x2), (3, .int x3), (4, .ref o)]) hx hb dL_chain_15 hl (by decide) rfl (fun ls hl => ?_)
  refine lv_iconst (v := nI 1) hx hb dL_chain_17 (by decide +kernel) ?_
  subst hQe
  exact W.iret (v := nI 1) hx hb hr (fun t ht hW => ⟨⟨_, (u, f), rfl, ⟨rfl, rfl⟩, tq_hp ht hP⟩, hS.F ht⟩) hS.2.2 dL_chain_18
set_option maxHeartbeats 4000000 in
set_option maxRecDepth 100000 in
theorem g_isBelow (l : Launch) (D : va_G) (a : Nat → Nat) (o : Nat) (kI kL kZ : ClassId) (u : sU) (f : Nat → Int64) (N : Nat) (kd fa fb : Nat → Nat) (T : Nat) (so xa xb xc : Nat → Nat) (F : Nat → Prop) (M : Nat) (rs : Nat → Nat) (hi : s_inv u N kd fa fb T so xa xb xc F M rs) (d d2 : Nat) (hd : d < N) (hd2 : d2 < N) : Met l yL_isBelow (wL_isBelow :: wA) ({ frames := 8, cells := 0, slots := 0, locals := 170 }) (va_Pc [.ref (a 0), .int (nI d), .int (nI d2), .ref o] (tq_wB D vwA (hW a o kI kL kZ (u, f)) (sT kI kL kZ))) (va_Qi (fun r (w : sU × (Nat → Int64)) => r = nI 0 ∧ ∃ r0 : Int32, w.2 0 = r0.toInt64 ∧ ((r0 = bI ((z_B N kd fa fb so xa xb xc F) d d2)) ∧ s_inv w.1 N kd fa fb T so xa xb xc F M rs)) (fun w t => va_P D vwA (hW a o kI kL kZ w) t.heap) (hA9 a o)) 0 0 (hA9 a o) := by
  refine va_MetW (cc := bL_isBelow) (maxL := 5) (ret := some .int) (hh := hL_isBelow) (by decide +kernel) rfl ?_
  intro p e s m args below meth c s₁ B1 hml hv
  have htb := lk_tab B1 (List.mem_cons_self)
  obtain ⟨rfl, hP, hK, hD0⟩ := hv
  have hx := B1.exec
  have hb := B1.bytes
  have hr := B1.returns
  have hA : ∀ w ∈ wA, w.before ([.ref (a 0), .int (nI d), .int (nI d2), .ref o] : List Value).toArray s = true := fun w h => atoms_spec (ws := wL_isBelow :: wA) B1.pre w (List.mem_cons_of_mem _ h)
  have hown : s.vm.findClass RcL = some m.cls := findClass_of_methodNamed B1.named
  have hlocks := B1.notSynchronized
  have hS : va_S (hA9 a o) s.heap s.heap [] := va_S.rf
  have hl := lv_entry ([.ref (a 0), .int (nI d), .int (nI d2), .ref o]) (n := 5) (Nat.le_of_ble_eq_true rfl)
  rw [lg_entry_eq]
  generalize (lg_sl ([.ref (a 0), .int (nI d), .int (nI d2), .ref o]) ++ List.replicate (5 - (lg_sl ([.ref (a 0), .int (nI d), .int (nI d2), .ref o])).length) Slot.unset).toArray = ls at hl ⊢
  have hl : lv_has ls 5 [(0, .ref (a 0)), (1, .int (nI d)), (2, .int (nI d2)), (3, .ref o)] := hl
  refine tq_gen (fun R Q hRe hQe => ?_)
  have hRf : 8 ≤ R.frames := by rw [hRe]; exact Nat.le_of_ble_eq_true rfl
  have hRl : 170 ≤ R.locals := by rw [hRe]; exact Nat.le_of_ble_eq_true rfl
  have hRc : 0 ≤ R.cells := by rw [hRe]; exact Nat.le_of_ble_eq_true rfl
  have hRs : 0 ≤ R.slots := by rw [hRe]; exact Nat.le_of_ble_eq_true rfl
  have hD := hA9_D hD0
  refine lv_aload_n hx hb dL_isBelow_0 rfl (lv_at hl 3 rfl) ?_
  refine lv_iconst (v := nI 0) hx hb dL_isBelow_1 (by decide +kernel) ?_
  refine lv_aload_n hx hb dL_isBelow_2 rfl (lv_at hl 0 rfl) ?_
  refine lv_iload_n hx hb dL_isBelow_3 rfl (lv_at hl 1 rfl) ?_
  refine lv_iload_n hx hb dL_isBelow_4 rfl (lv_at hl 2 rfl) ?_
  refine kp_i (X := []) (wf := sW a kI kL kZ) (u := u) (Z := [(o, .inl (kL, 1, .inr (.inl f)))]) ⟨hx, hb, hml, hown, hA⟩ (v_isBelow l D a kI kL kZ u N kd fa fb T so xa xb xc F M rs hi d d2 hd hd2) (kw_L_31 hA rfl rfl ⟨Nat.le_trans (Nat.le_of_ble_eq_true rfl) hRf, Nat.le_trans (Nat.le_of_ble_eq_true rfl) hRl⟩) hK hP hD hS (fun _ h => h) (fun u' => sW_adr u') 0 4 rfl rfl rfl hl.1 (Nat.le_of_ble_eq_true rfl) ⟨by omega, by omega⟩ dL_isBelow_5 rfl (fun r1 u1 H locs hu1 hP hD hS => ?_)
  have hP : va_P D vwA (hW a o kI kL kZ (u1, f)) H := hP
  have hD : va_D (hA9 a o) (hW a o kI kL kZ (u1, f)) := hD
  obtain ⟨b1, hb1⟩ : ∃ b1 : Bool, r1 = bI b1 := ⟨_, hu1.1⟩
  refine tq_i hb1 ?_
  refine tq_bf hx hb dL_isBelow_8 (tgt := 15) (by decide) (fun h8 => ?_) (fun h8 => ?_)
  · refine lv_lconst (v := 0) hx hb dL_isBelow_15 (by decide +kernel) ?_
    refine tq_last hx hb hK hP hD hS 32 1 rfl rfl (by omega) (by omega) dL_isBelow_16 (fun H locs hP hD hS => ?_)
    have hP : va_P D vwA (hW a o kI kL kZ (u1, vp_updL f 0 0)) H := hP
    have hD : va_D (hA9 a o) (hW a o kI kL kZ (u1, vp_updL f 0 0)) := hD
    refine lv_goto hx hb dL_isBelow_17 (tgt := 24) (by decide) ?_
    refine lv_iconst (v := nI 0) hx hb dL_isBelow_24 (by decide +kernel) ?_
    subst hQe
    exact W.iret (v := nI 0) hx hb hr (fun t ht hW => ⟨⟨_, (u1, vp_updL f 0 0), rfl, ⟨rfl, r1, by rw [hb1, h8]; rfl, hu1⟩, tq_hp ht hP⟩, hS.F ht⟩) hS.2.2 dL_isBelow_25
  · refine lv_lconst (v := 1) hx hb dL_isBelow_11 (by decide +kernel) ?_
    refine lv_goto hx hb dL_isBelow_12 (tgt := 16) (by decide) ?_
    refine tq_last hx hb hK hP hD hS 32 1 rfl rfl (by omega) (by omega) dL_isBelow_16 (fun H locs hP hD hS => ?_)
    have hP : va_P D vwA (hW a o kI kL kZ (u1, vp_updL f 0 1)) H := hP
    have hD : va_D (hA9 a o) (hW a o kI kL kZ (u1, vp_updL f 0 1)) := hD
    refine lv_goto hx hb dL_isBelow_17 (tgt := 24) (by decide) ?_
    refine lv_iconst (v := nI 0) hx hb dL_isBelow_24 (by decide +kernel) ?_
    subst hQe
    exact W.iret (v := nI 0) hx hb hr (fun t ht hW => ⟨⟨_, (u1, vp_updL f 0 1), rfl, ⟨rfl, r1, by rw [hb1, h8]; rfl, hu1⟩, tq_hp ht hP⟩, hS.F ht⟩) hS.2.2 dL_isBelow_25
set_option maxHeartbeats 4000000 in
set_option maxRecDepth 100000 in
theorem b_isBelow (l : Launch) (hl0 : l.stackTraces = false) (D : va_G) (a : Nat → Nat) (o : Nat) (kI kL kZ : ClassId) (u : sU) (f : Nat → Int64) (x1 : Int32) (x2 : Int32) (hN : u.2.2 0 ≤ 160) (hbad : (∀ k, k < u.2.2 0 → ¬ x1 = nI k) ∨ (∀ k, k < u.2.2 0 → ¬ x2 = nI k)) : Met l yL_isBelow (wL_isBelow :: wA) ({ frames := 8, cells := 1, slots := 6, locals := 170 }) (va_Pc [.ref (a 0), .int x1, .int x2, .ref o] (tq_wX D vwA (hW a o kI kL kZ (u, f)) (sT kI kL kZ))) (va_Qi (fun r (w : sU × (Nat → Int64)) => r = nI 1 ∧ w = (u, f)) (fun w t => va_P D vwA (hW a o kI kL kZ w) t.heap) (hA9 a o)) 1 6 (hA9 a o) := by
  refine va_MetW (cc := bL_isBelow) (maxL := 5) (ret := some .int) (hh := hL_isBelow) (by decide +kernel) rfl ?_
  intro p e s m args below meth c s₁ B1 hml hv
  have htb := lk_tab B1 (List.mem_cons_self)
  obtain ⟨rfl, hP, hK, hD0, hX⟩ := hv
  have hx := B1.exec
  have hb := B1.bytes
  have hr := B1.returns
  have hA : ∀ w ∈ wA, w.before ([.ref (a 0), .int x1, .int x2, .ref o] : List Value).toArray s = true := fun w h => atoms_spec (ws := wL_isBelow :: wA) B1.pre w (List.mem_cons_of_mem _ h)
  have hown : s.vm.findClass RcL = some m.cls := findClass_of_methodNamed B1.named
  have hlocks := B1.notSynchronized
  have hS : va_S (hA9 a o) s.heap s.heap [] := va_S.rf
  have hl := lv_entry ([.ref (a 0), .int x1, .int x2, .ref o]) (n := 5) (Nat.le_of_ble_eq_true rfl)
  rw [lg_entry_eq]
  generalize (lg_sl ([.ref (a 0), .int x1, .int x2, .ref o]) ++ List.replicate (5 - (lg_sl ([.ref (a 0), .int x1, .int x2, .ref o])).length) Slot.unset).toArray = ls at hl ⊢
  have hl : lv_has ls 5 [(0, .ref (a 0)), (1, .int x1), (2, .int x2), (3, .ref o)] := hl
  refine tq_gen (fun R Q hRe hQe => ?_)
  have hRf : 8 ≤ R.frames := by rw [hRe]; exact Nat.le_of_ble_eq_true rfl
  have hRl : 170 ≤ R.locals := by rw [hRe]; exact Nat.le_of_ble_eq_true rfl
  have hRc : 1 ≤ R.cells := by rw [hRe]; exact Nat.le_of_ble_eq_true rfl
  have hRs : 6 ≤ R.slots := by rw [hRe]; exact Nat.le_of_ble_eq_true rfl
  have hD := hA9_D hD0
  refine lv_aload_n hx hb dL_isBelow_0 rfl (lv_at hl 3 rfl) ?_
  refine lv_iconst (v := nI 0) hx hb dL_isBelow_1 (by decide +kernel) ?_
  refine lv_aload_n hx hb dL_isBelow_2 rfl (lv_at hl 0 rfl) ?_
  refine lv_iload_n hx hb dL_isBelow_3 rfl (lv_at hl 1 rfl) ?_
  refine lv_iload_n hx hb dL_isBelow_4 rfl (lv_at hl 2 rfl) ?_
  obtain ⟨x9, ht1, ht2, ht3, ht4, ht5⟩ := lk_tab1 htb
  have hP1 : va_P D vwA (sW a kI kL kZ u) s.heap := pa_l hP
  refine kt_C (D := D) (ws := sW a kI kL kZ u) (hpc := 20) (k := 13) ⟨hx, hb, hml, hown, hA⟩ (t_isBelow l hl0 D a kI kL kZ u x1 x2 hN hbad) (kw_L_31 hA rfl rfl ⟨Nat.le_trans (Nat.le_of_ble_eq_true rfl) hRf, Nat.le_trans (Nat.le_of_ble_eq_true rfl) hRl⟩) hK hP1 (fun U hU hW => hX.mv hW (fun q cl z => by rw [hU]; exact z)) hS 0 4 rfl rfl rfl hl.1 (Nat.le_of_ble_eq_true rfl) ⟨by omega, by omega⟩ dL_isBelow_5 rfl ht1 (by unfold covers; rw [ht2, ht3]; rfl) ht5 (by decide) ht4 (hA _ mcl_L_13) (fun a1 H locs hP2 hk2 hS => ?_)
  have hP : va_P D vwA (hW a o kI kL kZ (u, f)) H := hP.kept (fun k q hq => hk2 q.1 (hP k q hq).lt)
  refine lv_astore (lv' := [(4, .ref a1), (0, .ref (a 0)), (1, .int x1), (2, .int x2), (3, .ref o)]) hx hb dL_isBelow_20 hl (by decide) rfl (fun ls hl => ?_)
  refine lv_iconst (v := nI 1) hx hb dL_isBelow_22 (by decide +kernel) ?_
  subst hQe
  exact W.iret (v := nI 1) hx hb hr (fun t ht hW => ⟨⟨_, (u, f), rfl, ⟨rfl, rfl⟩, tq_hp ht hP⟩, hS.F ht⟩) hS.2.2 dL_isBelow_23
set_option maxHeartbeats 4000000 in
set_option maxRecDepth 100000 in
theorem g_supers (l : Launch) (D : va_G) (a : Nat → Nat) (o : Nat) (kI kL kZ : ClassId) (u : sU) (f : Nat → Int64) (N : Nat) (kd fa fb : Nat → Nat) (T : Nat) (so xa xb xc : Nat → Nat) (F : Nat → Prop) (M : Nat) (rs : Nat → Nat) (hi : s_inv u N kd fa fb T so xa xb xc F M rs) (d : Nat) (hd : d < N) : Met l yL_supers (wL_supers :: wA) ({ frames := 8, cells := 0, slots := 0, locals := 171 }) (va_Pc [.ref (a 0), .int (nI d), .ref o] (tq_wB D vwA (hW a o kI kL kZ (u, f)) (sT kI kL kZ))) (va_Qi (fun r (w : sU × (Nat → Int64)) => r = nI 0 ∧ ∃ r0 : Int32, w.2 0 = r0.toInt64 ∧ ((r0 = nI (tm_cnt (z_na kd (z_B N kd fa fb so xa xb xc F) d) N)) ∧ s_inv w.1 N kd fa fb T so xa xb xc F M rs)) (fun w t => va_P D vwA (hW a o kI kL kZ w) t.heap) (hA9 a o)) 0 0 (hA9 a o) := by
  refine va_MetW (cc := bL_supers) (maxL := 4) (ret := some .int) (hh := hL_supers) (by decide +kernel) rfl ?_
  intro p e s m args below meth c s₁ B1 hml hv
  have htb := lk_tab B1 (List.mem_cons_self)
  obtain ⟨rfl, hP, hK, hD0⟩ := hv
  have hx := B1.exec
  have hb := B1.bytes
  have hr := B1.returns
  have hA : ∀ w ∈ wA, w.before ([.ref (a 0), .int (nI d), .ref o] : List Value).toArray s = true := fun w h => atoms_spec (ws := wL_supers :: wA) B1.pre w (List.mem_cons_of_mem _ h)
  have hown : s.vm.findClass RcL = some m.cls := findClass_of_methodNamed B1.named
  have hlocks := B1.notSynchronized
  have hS : va_S (hA9 a o) s.heap s.heap [] := va_S.rf
  have hl := lv_entry ([.ref (a 0), .int (nI d), .ref o]) (n := 4) (Nat.le_of_ble_eq_true rfl)
  rw [lg_entry_eq]
  generalize (lg_sl ([.ref (a 0), .int (nI d), .ref o]) ++ List.replicate (4 - (lg_sl ([.ref (a 0), .int (nI d), .ref o])).length) Slot.unset).toArray = ls at hl ⊢
  have hl : lv_has ls 4 [(0, .ref (a 0)), (1, .int (nI d)), (2, .ref o)] := hl
  refine tq_gen (fun R Q hRe hQe => ?_)
  have hRf : 8 ≤ R.frames := by rw [hRe]; exact Nat.le_of_ble_eq_true rfl
  have hRl : 171 ≤ R.locals := by rw [hRe]; exact Nat.le_of_ble_eq_true rfl
  have hRc : 0 ≤ R.cells := by rw [hRe]; exact Nat.le_of_ble_eq_true rfl
  have hRs : 0 ≤ R.slots := by rw [hRe]; exact Nat.le_of_ble_eq_true rfl
  have hD := hA9_D hD0
  refine lv_aload_n hx hb dL_supers_0 rfl (lv_at hl 2 rfl) ?_
  refine lv_iconst (v := nI 0) hx hb dL_supers_1 (by decide +kernel) ?_
  refine lv_aload_n hx hb dL_supers_2 rfl (lv_at hl 0 rfl) ?_
  refine lv_iload_n hx hb dL_supers_3 rfl (lv_at hl 1 rfl) ?_
  refine kp_i (X := []) (wf := sW a kI kL kZ) (u := u) (Z := [(o, .inl (kL, 1, .inr (.inl f)))]) ⟨hx, hb, hml, hown, hA⟩ (v_supers l D a kI kL kZ u N kd fa fb T so xa xb xc F M rs hi d hd) (kw_L_35 hA rfl rfl ⟨Nat.le_trans (Nat.le_of_ble_eq_true rfl) hRf, Nat.le_trans (Nat.le_of_ble_eq_true rfl) hRl⟩) hK hP hD hS (fun _ h => h) (fun u' => sW_adr u') 0 4 rfl rfl rfl hl.1 (Nat.le_of_ble_eq_true rfl) ⟨by omega, by omega⟩ dL_supers_4 rfl (fun r1 u1 H locs hu1 hP hD hS => ?_)
  have hP : va_P D vwA (hW a o kI kL kZ (u1, f)) H := hP
  have hD : va_D (hA9 a o) (hW a o kI kL kZ (u1, f)) := hD
  refine lv_i2l hx hb dL_supers_7 rfl ?_
  refine tq_last hx hb hK hP hD hS 32 1 rfl rfl (by omega) (by omega) dL_supers_8 (fun H locs hP hD hS => ?_)
  have hP : va_P D vwA (hW a o kI kL kZ (u1, vp_updL f 0 r1.toInt64)) H := hP
  have hD : va_D (hA9 a o) (hW a o kI kL kZ (u1, vp_updL f 0 r1.toInt64)) := hD
  refine lv_goto hx hb dL_supers_9 (tgt := 15) (by decide) ?_
  refine lv_iconst (v := nI 0) hx hb dL_supers_15 (by decide +kernel) ?_
  subst hQe
  exact W.iret (v := nI 0) hx hb hr (fun t ht hW => ⟨⟨_, (u1, vp_updL f 0 r1.toInt64), rfl, ⟨rfl, r1, rfl, hu1⟩, tq_hp ht hP⟩, hS.F ht⟩) hS.2.2 dL_supers_16
set_option maxHeartbeats 4000000 in
set_option maxRecDepth 100000 in
theorem b_supers (l : Launch) (hl0 : l.stackTraces = false) (D : va_G) (a : Nat → Nat) (o : Nat) (kI kL kZ : ClassId) (u : sU) (f : Nat → Int64) (x1 : Int32) (hN : u.2.2 0 ≤ 160) (hbad : (∀ k, k < u.2.2 0 → ¬ x1 = nI k)) : Met l yL_supers (wL_supers :: wA) ({ frames := 8, cells := 1, slots := 6, locals := 171 }) (va_Pc [.ref (a 0), .int x1, .ref o] (tq_wX D vwA (hW a o kI kL kZ (u, f)) (sT kI kL kZ))) (va_Qi (fun r (w : sU × (Nat → Int64)) => r = nI 1 ∧ w = (u, f)) (fun w t => va_P D vwA (hW a o kI kL kZ w) t.heap) (hA9 a o)) 1 6 (hA9 a o) := by
  refine va_MetW (cc := bL_supers) (maxL := 4) (ret := some .int) (hh := hL_supers) (by decide +kernel) rfl ?_
  intro p e s m args below meth c s₁ B1 hml hv
  have htb := lk_tab B1 (List.mem_cons_self)
  obtain ⟨rfl, hP, hK, hD0, hX⟩ := hv
  have hx := B1.exec
  have hb := B1.bytes
  have hr := B1.returns
  have hA : ∀ w ∈ wA, w.before ([.ref (a 0), .int x1, .ref o] : List Value).toArray s = true := fun w h => atoms_spec (ws := wL_supers :: wA) B1.pre w (List.mem_cons_of_mem _ h)
  have hown : s.vm.findClass RcL = some m.cls := findClass_of_methodNamed B1.named
  have hlocks := B1.notSynchronized
  have hS : va_S (hA9 a o) s.heap s.heap [] := va_S.rf
  have hl := lv_entry ([.ref (a 0), .int x1, .ref o]) (n := 4) (Nat.le_of_ble_eq_true rfl)
  rw [lg_entry_eq]
  generalize (lg_sl ([.ref (a 0), .int x1, .ref o]) ++ List.replicate (4 - (lg_sl ([.ref (a 0), .int x1, .ref o])).length) Slot.unset).toArray = ls at hl ⊢
  have hl : lv_has ls 4 [(0, .ref (a 0)), (1, .int x1), (2, .ref o)] := hl
  refine tq_gen (fun R Q hRe hQe => ?_)
  have hRf : 8 ≤ R.frames := by rw [hRe]; exact Nat.le_of_ble_eq_true rfl
  have hRl : 171 ≤ R.locals := by rw [hRe]; exact Nat.le_of_ble_eq_true rfl
  have hRc : 1 ≤ R.cells := by rw [hRe]; exact Nat.le_of_ble_eq_true rfl
  have hRs : 6 ≤ R.slots := by rw [hRe]; exact Nat.le_of_ble_eq_true rfl
  have hD := hA9_D hD0
  refine lv_aload_n hx hb dL_supers_0 rfl (lv_at hl 2 rfl) ?_
  refine lv_iconst (v := nI 0) hx hb dL_supers_1 (by decide +kernel) ?_
  refine lv_aload_n hx hb dL_supers_2 rfl (lv_at hl 0 rfl) ?_
  refine lv_iload_n hx hb dL_supers_3 rfl (lv_at hl 1 rfl) ?_
  obtain ⟨x9, ht1, ht2, ht3, ht4, ht5⟩ := lk_tab1 htb
  have hP1 : va_P D vwA (sW a kI kL kZ u) s.heap := pa_l hP
  refine kt_C (D := D) (ws := sW a kI kL kZ u) (hpc := 12) (k := 13) ⟨hx, hb, hml, hown, hA⟩ (t_supers l hl0 D a kI kL kZ u x1 hN hbad) (kw_L_35 hA rfl rfl ⟨Nat.le_trans (Nat.le_of_ble_eq_true rfl) hRf, Nat.le_trans (Nat.le_of_ble_eq_true rfl) hRl⟩) hK hP1 (fun U hU hW => hX.mv hW (fun q cl z => by rw [hU]; exact z)) hS 0 4 rfl rfl rfl hl.1 (Nat.le_of_ble_eq_true rfl) ⟨by omega, by omega⟩ dL_supers_4 rfl ht1 (by unfold covers; rw [ht2, ht3]; rfl) ht5 (by decide) ht4 (hA _ mcl_L_13) (fun a1 H locs hP2 hk2 hS => ?_)
  have hP : va_P D vwA (hW a o kI kL kZ (u, f)) H := hP.kept (fun k q hq => hk2 q.1 (hP k q hq).lt)
  refine lv_astore_n (lv' := [(3, .ref a1), (0, .ref (a 0)), (1, .int x1), (2, .ref o)]) hx hb dL_supers_12 rfl hl (by decide) rfl (fun ls hl => ?_)
  refine lv_iconst (v := nI 1) hx hb dL_supers_13 (by decide +kernel) ?_
  subst hQe
  exact W.iret (v := nI 1) hx hb hr (fun t ht hW => ⟨⟨_, (u, f), rfl, ⟨rfl, rfl⟩, tq_hp ht hP⟩, hS.F ht⟩) hS.2.2 dL_supers_14
set_option maxHeartbeats 4000000 in
set_option maxRecDepth 100000 in
theorem g_sup (l : Launch) (D : va_G) (a : Nat → Nat) (o : Nat) (kI kL kZ : ClassId) (u : sU) (f : Nat → Int64) (N : Nat) (kd fa fb : Nat → Nat) (T : Nat) (so xa xb xc : Nat → Nat) (F : Nat → Prop) (M : Nat) (rs : Nat → Nat) (hi : s_inv u N kd fa fb T so xa xb xc F M rs) (d : Nat) (x : Int32) (hd : d < N) : Met l yL_sup (wL_sup :: wA) ({ frames := 8, cells := 0, slots := 0, locals := 172 }) (va_Pc [.ref (a 0), .int (nI d), .int x, .ref o] (tq_wB D vwA (hW a o kI kL kZ (u, f)) (sT kI kL kZ))) (va_Qi (fun r (w : sU × (Nat → Int64)) => r = nI 0 ∧ ∃ r0 : Int32, w.2 0 = r0.toInt64 ∧ ((q_sup (z_na kd (z_B N kd fa fb so xa xb xc F) d) N x r0) ∧ s_inv w.1 N kd fa fb T so xa xb xc F M rs)) (fun w t => va_P D vwA (hW a o kI kL kZ w) t.heap) (hA9 a o)) 0 0 (hA9 a o) := by
  refine va_MetW (cc := bL_sup) (maxL := 5) (ret := some .int) (hh := hL_sup) (by decide +kernel) rfl ?_
  intro p e s m args below meth c s₁ B1 hml hv
  have htb := lk_tab B1 (List.mem_cons_self)
  obtain ⟨rfl, hP, hK, hD0⟩ := hv
  have hx := B1.exec
  have hb := B1.bytes
  have hr := B1.returns
  have hA : ∀ w ∈ wA, w.before ([.ref (a 0), .int (nI d), .int x, .ref o] : List Value).toArray s = true := fun w h => atoms_spec (ws := wL_sup :: wA) B1.pre w (List.mem_cons_of_mem _ h)
  have hown : s.vm.findClass RcL = some m.cls := findClass_of_methodNamed B1.named
  have hlocks := B1.notSynchronized
  have hS : va_S (hA9 a o) s.heap s.heap [] := va_S.rf
  have hl := lv_entry ([.ref (a 0), .int (nI d), .int x, .ref o]) (n := 5) (Nat.le_of_ble_eq_true rfl)
  rw [lg_entry_eq]
  generalize (lg_sl ([.ref (a 0), .int (nI d), .int x, .ref o]) ++ List.replicate (5 - (lg_sl ([.ref (a 0), .int (nI d), .int x, .ref o])).length) Slot.unset).toArray = ls at hl ⊢
  have hl : lv_has ls 5 [(0, .ref (a 0)), (1, .int (nI d)), (2, .int x), (3, .ref o)] := hl
  refine tq_gen (fun R Q hRe hQe => ?_)
  have hRf : 8 ≤ R.frames := by rw [hRe]; exact Nat.le_of_ble_eq_true rfl
  have hRl : 172 ≤ R.locals := by rw [hRe]; exact Nat.le_of_ble_eq_true rfl
  have hRc : 0 ≤ R.cells := by rw [hRe]; exact Nat.le_of_ble_eq_true rfl
  have hRs : 0 ≤ R.slots := by rw [hRe]; exact Nat.le_of_ble_eq_true rfl
  have hD := hA9_D hD0
  refine lv_aload_n hx hb dL_sup_0 rfl (lv_at hl 3 rfl) ?_
  refine lv_iconst (v := nI 0) hx hb dL_sup_1 (by decide +kernel) ?_
  refine lv_aload_n hx hb dL_sup_2 rfl (lv_at hl 0 rfl) ?_
  refine lv_iload_n hx hb dL_sup_3 rfl (lv_at hl 1 rfl) ?_
  refine lv_iload_n hx hb dL_sup_4 rfl (lv_at hl 2 rfl) ?_
  refine kp_i (X := []) (wf := sW a kI kL kZ) (u := u) (Z := [(o, .inl (kL, 1, .inr (.inl f)))]) ⟨hx, hb, hml, hown, hA⟩ (v_sup l D a kI kL kZ u N kd fa fb T so xa xb xc F M rs hi d x hd) (kw_L_39 hA rfl rfl ⟨Nat.le_trans (Nat.le_of_ble_eq_true rfl) hRf, Nat.le_trans (Nat.le_of_ble_eq_true rfl) hRl⟩) hK hP hD hS (fun _ h => h) (fun u' => sW_adr u') 0 4 rfl rfl rfl hl.1 (Nat.le_of_ble_eq_true rfl) ⟨by omega, by omega⟩ dL_sup_5 rfl (fun r1 u1 H locs hu1 hP hD hS => ?_)
  have hP : va_P D vwA (hW a o kI kL kZ (u1, f)) H := hP
  have hD : va_D (hA9 a o) (hW a o kI kL kZ (u1, f)) := hD
  refine lv_i2l hx hb dL_sup_8 rfl ?_
  refine tq_last hx hb hK hP hD hS 32 1 rfl rfl (by omega) (by omega) dL_sup_9 (fun H locs hP hD hS => ?_)
  have hP : va_P D vwA (hW a o kI kL kZ (u1, vp_updL f 0 r1.toInt64)) H := hP
  have hD : va_D (hA9 a o) (hW a o kI kL kZ (u1, vp_updL f 0 r1.toInt64)) := hD
  refine lv_goto hx hb dL_sup_10 (tgt := 17) (by decide) ?_
  refine lv_iconst (v := nI 0) hx hb dL_sup_17 (by decide +kernel) ?_
  subst hQe
  exact W.iret (v := nI 0) hx hb hr (fun t ht hW => ⟨⟨_, (u1, vp_updL f 0 r1.toInt64), rfl, ⟨rfl, r1, rfl, hu1⟩, tq_hp ht hP⟩, hS.F ht⟩) hS.2.2 dL_sup_18
set_option maxHeartbeats 4000000 in
set_option maxRecDepth 100000 in
theorem b_sup (l : Launch) (hl0 : l.stackTraces = false) (D : va_G) (a : Nat → Nat) (o : Nat) (kI kL kZ : ClassId) (u : sU) (f : Nat → Int64) (x1 : Int32) (x2 : Int32) (hN : u.2.2 0 ≤ 160) (hbad : (∀ k, k < u.2.2 0 → ¬ x1 = nI k)) : Met l yL_sup (wL_sup :: wA) ({ frames := 8, cells := 1, slots := 6, locals := 172 }) (va_Pc [.ref (a 0), .int x1, .int x2, .ref o] (tq_wX D vwA (hW a o kI kL kZ (u, f)) (sT kI kL kZ))) (va_Qi (fun r (w : sU × (Nat → Int64)) => r = nI 1 ∧ w = (u, f)) (fun w t => va_P D vwA (hW a o kI kL kZ w) t.heap) (hA9 a o)) 1 6 (hA9 a o) := by
  refine va_MetW (cc := bL_sup) (maxL := 5) (ret := some .int) (hh := hL_sup) (by decide +kernel) rfl ?_
  intro p e s m args below meth c s₁ B1 hml hv
  have htb := lk_tab B1 (List.mem_cons_self)
  obtain ⟨rfl, hP, hK, hD0, hX⟩ := hv
  have hx := B1.exec
  have hb := B1.bytes
  have hr := B1.returns
  have hA : ∀ w ∈ wA, w.before ([.ref (a 0), .int x1, .int x2, .ref o] : List Value).toArray s = true := fun w h => atoms_spec (ws := wL_sup :: wA) B1.pre w (List.mem_cons_of_mem _ h)
  have hown : s.vm.findClass RcL = some m.cls := findClass_of_methodNamed B1.named
  have hlocks := B1.notSynchronized
  have hS : va_S (hA9 a o) s.heap s.heap [] := va_S.rf
  have hl := lv_entry ([.ref (a 0), .int x1, .int x2, .ref o]) (n := 5) (Nat.le_of_ble_eq_true rfl)
  rw [lg_entry_eq]
  generalize (lg_sl ([.ref (a 0), .int x1, .int x2, .ref o]) ++ List.replicate (5 - (lg_sl ([.ref (a 0), .int x1, .int x2, .ref o])).length) Slot.unset).toArray = ls at hl ⊢
  have hl : lv_has ls 5 [(0, .ref (a 0)), (1, .int x1), (2, .int x2), (3, .ref o)] := hl
  refine tq_gen (fun R Q hRe hQe => ?_)
  have hRf : 8 ≤ R.frames := by rw [hRe]; exact Nat.le_of_ble_eq_true rfl
  have hRl : 172 ≤ R.locals := by rw [hRe]; exact Nat.le_of_ble_eq_true rfl
  have hRc : 1 ≤ R.cells := by rw [hRe]; exact Nat.le_of_ble_eq_true rfl
  have hRs : 6 ≤ R.slots := by rw [hRe]; exact Nat.le_of_ble_eq_true rfl
  have hD := hA9_D hD0
  refine lv_aload_n hx hb dL_sup_0 rfl (lv_at hl 3 rfl) ?_
  refine lv_iconst (v := nI 0) hx hb dL_sup_1 (by decide +kernel) ?_
  refine lv_aload_n hx hb dL_sup_2 rfl (lv_at hl 0 rfl) ?_
  refine lv_iload_n hx hb dL_sup_3 rfl (lv_at hl 1 rfl) ?_
  refine lv_iload_n hx hb dL_sup_4 rfl (lv_at hl 2 rfl) ?_
  obtain ⟨x9, ht1, ht2, ht3, ht4, ht5⟩ := lk_tab1 htb
  have hP1 : va_P D vwA (sW a kI kL kZ u) s.heap := pa_l hP
  refine kt_C (D := D) (ws := sW a kI kL kZ u) (hpc := 13) (k := 13) ⟨hx, hb, hml, hown, hA⟩ (t_sup l hl0 D a kI kL kZ u x1 x2 hN hbad) (kw_L_39 hA rfl rfl ⟨Nat.le_trans (Nat.le_of_ble_eq_true rfl) hRf, Nat.le_trans (Nat.le_of_ble_eq_true rfl) hRl⟩) hK hP1 (fun U hU hW => hX.mv hW (fun q cl z => by rw [hU]; exact z)) hS 0 4 rfl rfl rfl hl.1 (Nat.le_of_ble_eq_true rfl) ⟨by omega, by omega⟩ dL_sup_5 rfl ht1 (by unfold covers; rw [ht2, ht3]; rfl) ht5 (by decide) ht4 (hA _ mcl_L_13) (fun a1 H locs hP2 hk2 hS => ?_)
  have hP : va_P D vwA (hW a o kI kL kZ (u, f)) H := hP.kept (fun k q hq => hk2 q.1 (hP k q hq).lt)
  refine lv_astore (lv' := [(4, .ref a1), (0, .ref (a 0)), (1, .int x1), (2, .int x2), (3, .ref o)]) hx hb dL_sup_13 hl (by decide) rfl (fun ls hl => ?_)
  refine lv_iconst (v := nI 1) hx hb dL_sup_15 (by decide +kernel) ?_
  subst hQe
  exact W.iret (v := nI 1) hx hb hr (fun t ht hW => ⟨⟨_, (u, f), rfl, ⟨rfl, rfl⟩, tq_hp ht hP⟩, hS.F ht⟩) hS.2.2 dL_sup_16
set_option maxHeartbeats 4000000 in
set_option maxRecDepth 100000 in
theorem g_direct (l : Launch) (D : va_G) (a : Nat → Nat) (o : Nat) (kI kL kZ : ClassId) (u : sU) (f : Nat → Int64) (N : Nat) (kd fa fb : Nat → Nat) (T : Nat) (so xa xb xc : Nat → Nat) (F : Nat → Prop) (M : Nat) (rs : Nat → Nat) (hi : s_inv u N kd fa fb T so xa xb xc F M rs) (d d2 : Nat) (hd : d < N) (hd2 : d2 < N) : Met l yL_direct (wL_direct :: wA) ({ frames := 8, cells := 0, slots := 0, locals := 172 }) (va_Pc [.ref (a 0), .int (nI d), .int (nI d2), .ref o] (tq_wB D vwA (hW a o kI kL kZ (u, f)) (sT kI kL kZ))) (va_Qi (fun r (w : sU × (Nat → Int64)) => r = nI 0 ∧ ∃ r0 : Int32, w.2 0 = r0.toInt64 ∧ ((r0 = bI (z_dir N (z_B N kd fa fb so xa xb xc F) d d2)) ∧ s_inv w.1 N kd fa fb T so xa xb xc F M rs)) (fun w t => va_P D vwA (hW a o kI kL kZ w) t.heap) (hA9 a o)) 0 0 (hA9 a o) := by
  refine va_MetW (cc := bL_direct) (maxL := 5) (ret := some .int) (hh := hL_direct) (by decide +kernel) rfl ?_
  intro p e s m args below meth c s₁ B1 hml hv
  have htb := lk_tab B1 (List.mem_cons_self)
  obtain ⟨rfl, hP, hK, hD0⟩ := hv
  have hx := B1.exec
  have hb := B1.bytes
  have hr := B1.returns
  have hA : ∀ w ∈ wA, w.before ([.ref (a 0), .int (nI d), .int (nI d2), .ref o] : List Value).toArray s = true := fun w h => atoms_spec (ws := wL_direct :: wA) B1.pre w (List.mem_cons_of_mem _ h)
  have hown : s.vm.findClass RcL = some m.cls := findClass_of_methodNamed B1.named
  have hlocks := B1.notSynchronized
  have hS : va_S (hA9 a o) s.heap s.heap [] := va_S.rf
  have hl := lv_entry ([.ref (a 0), .int (nI d), .int (nI d2), .ref o]) (n := 5) (Nat.le_of_ble_eq_true rfl)
  rw [lg_entry_eq]
  generalize (lg_sl ([.ref (a 0), .int (nI d), .int (nI d2), .ref o]) ++ List.replicate (5 - (lg_sl ([.ref (a 0), .int (nI d), .int (nI d2), .ref o])).length) Slot.unset).toArray = ls at hl ⊢
  have hl : lv_has ls 5 [(0, .ref (a 0)), (1, .int (nI d)), (2, .int (nI d2)), (3, .ref o)] := hl
  refine tq_gen (fun R Q hRe hQe => ?_)
  have hRf : 8 ≤ R.frames := by rw [hRe]; exact Nat.le_of_ble_eq_true rfl
  have hRl : 172 ≤ R.locals := by rw [hRe]; exact Nat.le_of_ble_eq_true rfl
  have hRc : 0 ≤ R.cells := by rw [hRe]; exact Nat.le_of_ble_eq_true rfl
  have hRs : 0 ≤ R.slots := by rw [hRe]; exact Nat.le_of_ble_eq_true rfl
  have hD := hA9_D hD0
  refine lv_aload_n hx hb dL_direct_0 rfl (lv_at hl 3 rfl) ?_
  refine lv_iconst (v := nI 0) hx hb dL_direct_1 (by decide +kernel) ?_
  refine lv_aload_n hx hb dL_direct_2 rfl (lv_at hl 0 rfl) ?_
  refine lv_iload_n hx hb dL_direct_3 rfl (lv_at hl 1 rfl) ?_
  refine lv_iload_n hx hb dL_direct_4 rfl (lv_at hl 2 rfl) ?_
  refine kp_i (X := []) (wf := sW a kI kL kZ) (u := u) (Z := [(o, .inl (kL, 1, .inr (.inl f)))]) ⟨hx, hb, hml, hown, hA⟩ (v_direct l D a kI kL kZ u N kd fa fb T so xa xb xc F M rs hi d d2 hd hd2) (kw_L_42 hA rfl rfl ⟨Nat.le_trans (Nat.le_of_ble_eq_true rfl) hRf, Nat.le_trans (Nat.le_of_ble_eq_true rfl) hRl⟩) hK hP hD hS (fun _ h => h) (fun u' => sW_adr u') 0 4 rfl rfl rfl hl.1 (Nat.le_of_ble_eq_true rfl) ⟨by omega, by omega⟩ dL_direct_5 rfl (fun r1 u1 H locs hu1 hP hD hS => ?_)
  have hP : va_P D vwA (hW a o kI kL kZ (u1, f)) H := hP
  have hD : va_D (hA9 a o) (hW a o kI kL kZ (u1, f)) := hD
  obtain ⟨b1, hb1⟩ : ∃ b1 : Bool, r1 = bI b1 := ⟨_, hu1.1⟩
  refine tq_i hb1 ?_
  refine tq_bf hx hb dL_direct_8 (tgt := 15) (by decide) (fun h8 => ?_) (fun h8 => ?_)
  · refine lv_lconst (v := 0) hx hb dL_direct_15 (by decide +kernel) ?_
    refine tq_last hx hb hK hP hD hS 32 1 rfl rfl (by omega) (by omega) dL_direct_16 (fun H locs hP hD hS => ?_)
    have hP : va_P D vwA (hW a o kI kL kZ (u1, vp_updL f 0 0)) H := hP
    have hD : va_D (hA9 a o) (hW a o kI kL kZ (u1, vp_updL f 0 0)) := hD
    refine lv_goto hx hb dL_direct_17 (tgt := 24) (by decide) ?_
    refine lv_iconst (v := nI 0) hx hb dL_direct_24 (by decide +kernel) ?_
    subst hQe
    exact W.iret (v := nI 0) hx hb hr (fun t ht hW => ⟨⟨_, (u1, vp_updL f 0 0), rfl, ⟨rfl, r1, by rw [hb1, h8]; rfl, hu1⟩, tq_hp ht hP⟩, hS.F ht⟩) hS.2.2 dL_direct_25
  · refine lv_lconst (v := 1) hx hb dL_direct_11 (by decide +kernel) ?_
    refine lv_goto hx hb dL_direct_12 (tgt := 16) (by decide) ?_
    refine tq_last hx hb hK hP hD hS 32 1 rfl rfl (by omega) (by omega) dL_direct_16 (fun H locs hP hD hS => ?_)
    have hP : va_P D vwA (hW a o kI kL kZ (u1, vp_updL f 0 1)) H := hP
    have hD : va_D (hA9 a o) (hW a o kI kL kZ (u1, vp_updL f 0 1)) := hD
    refine lv_goto hx hb dL_direct_17 (tgt := 24) (by decide) ?_
    refine lv_iconst (v := nI 0) hx hb dL_direct_24 (by decide +kernel) ?_
    subst hQe
    exact W.iret (v := nI 0) hx hb hr (fun t ht hW => ⟨⟨_, (u1, vp_updL f 0 1), rfl, ⟨rfl, r1, by rw [hb1, h8]; rfl, hu1⟩, tq_hp ht hP⟩, hS.F ht⟩) hS.2.2 dL_direct_25
set_option maxHeartbeats 4000000 in
set_option maxRecDepth 100000 in
theorem b_direct (l : Launch) (hl0 : l.stackTraces = false) (D : va_G) (a : Nat → Nat) (o : Nat) (kI kL kZ : ClassId) (u : sU) (f : Nat → Int64) (x1 : Int32) (x2 : Int32) (hN : u.2.2 0 ≤ 160) (hbad : (∀ k, k < u.2.2 0 → ¬ x1 = nI k) ∨ (∀ k, k < u.2.2 0 → ¬ x2 = nI k)) : Met l yL_direct (wL_direct :: wA) ({ frames := 8, cells := 1, slots := 6, locals := 172 }) (va_Pc [.ref (a 0), .int x1, .int x2, .ref o] (tq_wX D vwA (hW a o kI kL kZ (u, f)) (sT kI kL kZ))) (va_Qi (fun r (w : sU × (Nat → Int64)) => r = nI 1 ∧ w = (u, f)) (fun w t => va_P D vwA (hW a o kI kL kZ w) t.heap) (hA9 a o)) 1 6 (hA9 a o) := by
  refine va_MetW (cc := bL_direct) (maxL := 5) (ret := some .int) (hh := hL_direct) (by decide +kernel) rfl ?_
  intro p e s m args below meth c s₁ B1 hml hv
  have htb := lk_tab B1 (List.mem_cons_self)
  obtain ⟨rfl, hP, hK, hD0, hX⟩ := hv
  have hx := B1.exec
  have hb := B1.bytes
  have hr := B1.returns
  have hA : ∀ w ∈ wA, w.before ([.ref (a 0), .int x1, .int x2, .ref o] : List Value).toArray s = true := fun w h => atoms_spec (ws := wL_direct :: wA) B1.pre w (List.mem_cons_of_mem _ h)
  have hown : s.vm.findClass RcL = some m.cls := findClass_of_methodNamed B1.named
  have hlocks := B1.notSynchronized
  have hS : va_S (hA9 a o) s.heap s.heap [] := va_S.rf
  have hl := lv_entry ([.ref (a 0), .int x1, .int x2, .ref o]) (n := 5) (Nat.le_of_ble_eq_true rfl)
  rw [lg_entry_eq]
  generalize (lg_sl ([.ref (a 0), .int x1, .int x2, .ref o]) ++ List.replicate (5 - (lg_sl ([.ref (a 0), .int x1, .int x2, .ref o])).length) Slot.unset).toArray = ls at hl ⊢
  have hl : lv_has ls 5 [(0, .ref (a 0)), (1, .int x1), (2, .int x2), (3, .ref o)] := hl
  refine tq_gen (fun R Q hRe hQe => ?_)
  have hRf : 8 ≤ R.frames := by rw [hRe]; exact Nat.le_of_ble_eq_true rfl
  have hRl : 172 ≤ R.locals := by rw [hRe]; exact Nat.le_of_ble_eq_true rfl
  have hRc : 1 ≤ R.cells := by rw [hRe]; exact Nat.le_of_ble_eq_true rfl
  have hRs : 6 ≤ R.slots := by rw [hRe]; exact Nat.le_of_ble_eq_true rfl
  have hD := hA9_D hD0
  refine lv_aload_n hx hb dL_direct_0 rfl (lv_at hl 3 rfl) ?_
  refine lv_iconst (v := nI 0) hx hb dL_direct_1 (by decide +kernel) ?_
  refine lv_aload_n hx hb dL_direct_2 rfl (lv_at hl 0 rfl) ?_
  refine lv_iload_n hx hb dL_direct_3 rfl (lv_at hl 1 rfl) ?_
  refine lv_iload_n hx hb dL_direct_4 rfl (lv_at hl 2 rfl) ?_
  obtain ⟨x9, ht1, ht2, ht3, ht4, ht5⟩ := lk_tab1 htb
  have hP1 : va_P D vwA (sW a kI kL kZ u) s.heap := pa_l hP
  refine kt_C (D := D) (ws := sW a kI kL kZ u) (hpc := 20) (k := 13) ⟨hx, hb, hml, hown, hA⟩ (t_direct l hl0 D a kI kL kZ u x1 x2 hN hbad) (kw_L_42 hA rfl rfl ⟨Nat.le_trans (Nat.le_of_ble_eq_true rfl) hRf, Nat.le_trans (Nat.le_of_ble_eq_true rfl) hRl⟩) hK hP1 (fun U hU hW => hX.mv hW (fun q cl z => by rw [hU]; exact z)) hS 0 4 rfl rfl rfl hl.1 (Nat.le_of_ble_eq_true rfl) ⟨by omega, by omega⟩ dL_direct_5 rfl ht1 (by unfold covers; rw [ht2, ht3]; rfl) ht5 (by decide) ht4 (hA _ mcl_L_13) (fun a1 H locs hP2 hk2 hS => ?_)
  have hP : va_P D vwA (hW a o kI kL kZ (u, f)) H := hP.kept (fun k q hq => hk2 q.1 (hP k q hq).lt)
  refine lv_astore (lv' := [(4, .ref a1), (0, .ref (a 0)), (1, .int x1), (2, .int x2), (3, .ref o)]) hx hb dL_direct_20 hl (by decide) rfl (fun ls hl => ?_)
  refine lv_iconst (v := nI 1) hx hb dL_direct_22 (by decide +kernel) ?_
  subst hQe
  exact W.iret (v := nI 1) hx hb hr (fun t ht hW => ⟨⟨_, (u, f), rfl, ⟨rfl, rfl⟩, tq_hp ht hP⟩, hS.F ht⟩) hS.2.2 dL_direct_23
set_option maxHeartbeats 4000000 in
set_option maxRecDepth 100000 in
theorem g_twin (l : Launch) (D : va_G) (a : Nat → Nat) (o : Nat) (kI kL kZ : ClassId) (u : sU) (f : Nat → Int64) (N : Nat) (kd fa fb : Nat → Nat) (T : Nat) (so xa xb xc : Nat → Nat) (F : Nat → Prop) (M : Nat) (rs : Nat → Nat) (hi : s_inv u N kd fa fb T so xa xb xc F M rs) (d : Nat) (hd : d < N) : Met l yL_twin (wL_twin :: wA) ({ frames := 8, cells := 0, slots := 0, locals := 170 }) (va_Pc [.ref (a 0), .int (nI d), .ref o] (tq_wB D vwA (hW a o kI kL kZ (u, f)) (sT kI kL kZ))) (va_Qi (fun r (w : sU × (Nat → Int64)) => r = nI 0 ∧ ∃ r0 : Int32, w.2 0 = r0.toInt64 ∧ ((r0 = nI (z_le (z_B N kd fa fb so xa xb xc F) d)) ∧ s_inv w.1 N kd fa fb T so xa xb xc F M rs)) (fun w t => va_P D vwA (hW a o kI kL kZ w) t.heap) (hA9 a o)) 0 0 (hA9 a o) := by
  refine va_MetW (cc := bL_twin) (maxL := 4) (ret := some .int) (hh := hL_twin) (by decide +kernel) rfl ?_
  intro p e s m args below meth c s₁ B1 hml hv
  have htb := lk_tab B1 (List.mem_cons_self)
  obtain ⟨rfl, hP, hK, hD0⟩ := hv
  have hx := B1.exec
  have hb := B1.bytes
  have hr := B1.returns
  have hA : ∀ w ∈ wA, w.before ([.ref (a 0), .int (nI d), .ref o] : List Value).toArray s = true := fun w h => atoms_spec (ws := wL_twin :: wA) B1.pre w (List.mem_cons_of_mem _ h)
  have hown : s.vm.findClass RcL = some m.cls := findClass_of_methodNamed B1.named
  have hlocks := B1.notSynchronized
  have hS : va_S (hA9 a o) s.heap s.heap [] := va_S.rf
  have hl := lv_entry ([.ref (a 0), .int (nI d), .ref o]) (n := 4) (Nat.le_of_ble_eq_true rfl)
  rw [lg_entry_eq]
  generalize (lg_sl ([.ref (a 0), .int (nI d), .ref o]) ++ List.replicate (4 - (lg_sl ([.ref (a 0), .int (nI d), .ref o])).length) Slot.unset).toArray = ls at hl ⊢
  have hl : lv_has ls 4 [(0, .ref (a 0)), (1, .int (nI d)), (2, .ref o)] := hl
  refine tq_gen (fun R Q hRe hQe => ?_)
  have hRf : 8 ≤ R.frames := by rw [hRe]; exact Nat.le_of_ble_eq_true rfl
  have hRl : 170 ≤ R.locals := by rw [hRe]; exact Nat.le_of_ble_eq_true rfl
  have hRc : 0 ≤ R.cells := by rw [hRe]; exact Nat.le_of_ble_eq_true rfl
  have hRs : 0 ≤ R.slots := by rw [hRe]; exact Nat.le_of_ble_eq_true rfl
  have hD := hA9_D hD0
  refine lv_aload_n hx hb dL_twin_0 rfl (lv_at hl 2 rfl) ?_
  refine lv_iconst (v := nI 0) hx hb dL_twin_1 (by decide +kernel) ?_
  refine lv_aload_n hx hb dL_twin_2 rfl (lv_at hl 0 rfl) ?_
  refine lv_iload_n hx hb dL_twin_3 rfl (lv_at hl 1 rfl) ?_
  refine kp_i (X := []) (wf := sW a kI kL kZ) (u := u) (Z := [(o, .inl (kL, 1, .inr (.inl f)))]) ⟨hx, hb, hml, hown, hA⟩ (v_twin l D a kI kL kZ u N kd fa fb T so xa xb xc F M rs hi d hd) (kw_L_45 hA rfl rfl ⟨Nat.le_trans (Nat.le_of_ble_eq_true rfl) hRf, Nat.le_trans (Nat.le_of_ble_eq_true rfl) hRl⟩) hK hP hD hS (fun _ h => h) (fun u' => sW_adr u') 0 4 rfl rfl rfl hl.1 (Nat.le_of_ble_eq_true rfl) ⟨by omega, by omega⟩ dL_twin_4 rfl (fun r1 u1 H locs hu1 hP hD hS => ?_)
  have hP : va_P D vwA (hW a o kI kL kZ (u1, f)) H := hP
  have hD : va_D (hA9 a o) (hW a o kI kL kZ (u1, f)) := hD
  refine lv_i2l hx hb dL_twin_7 rfl ?_
  refine tq_last hx hb hK hP hD hS 32 1 rfl rfl (by omega) (by omega) dL_twin_8 (fun H locs hP hD hS => ?_)
  have hP : va_P D vwA (hW a o kI kL kZ (u1, vp_updL f 0 r1.toInt64)) H := hP
  have hD : va_D (hA9 a o) (hW a o kI kL kZ (u1, vp_updL f 0 r1.toInt64)) := hD
  refine lv_goto hx hb dL_twin_9 (tgt := 15) (by decide) ?_
  refine lv_iconst (v := nI 0) hx hb dL_twin_15 (by decide +kernel) ?_
  subst hQe
  exact W.iret (v := nI 0) hx hb hr (fun t ht hW => ⟨⟨_, (u1, vp_updL f 0 r1.toInt64), rfl, ⟨rfl, r1, rfl, hu1⟩, tq_hp ht hP⟩, hS.F ht⟩) hS.2.2 dL_twin_16
set_option maxHeartbeats 4000000 in
set_option maxRecDepth 100000 in
theorem b_twin (l : Launch) (hl0 : l.stackTraces = false) (D : va_G) (a : Nat → Nat) (o : Nat) (kI kL kZ : ClassId) (u : sU) (f : Nat → Int64) (x1 : Int32) (hN : u.2.2 0 ≤ 160) (hbad : (∀ k, k < u.2.2 0 → ¬ x1 = nI k)) : Met l yL_twin (wL_twin :: wA) ({ frames := 8, cells := 1, slots := 6, locals := 170 }) (va_Pc [.ref (a 0), .int x1, .ref o] (tq_wX D vwA (hW a o kI kL kZ (u, f)) (sT kI kL kZ))) (va_Qi (fun r (w : sU × (Nat → Int64)) => r = nI 1 ∧ w = (u, f)) (fun w t => va_P D vwA (hW a o kI kL kZ w) t.heap) (hA9 a o)) 1 6 (hA9 a o) := by
  refine va_MetW (cc := bL_twin) (maxL := 4) (ret := some .int) (hh := hL_twin) (by decide +kernel) rfl ?_
  intro p e s m args below meth c s₁ B1 hml hv
  have htb := lk_tab B1 (List.mem_cons_self)
  obtain ⟨rfl, hP, hK, hD0, hX⟩ := hv
  have hx := B1.exec
  have hb := B1.bytes
  have hr := B1.returns
  have hA : ∀ w ∈ wA, w.before ([.ref (a 0), .int x1, .ref o] : List Value).toArray s = true := fun w h => atoms_spec (ws := wL_twin :: wA) B1.pre w (List.mem_cons_of_mem _ h)
  have hown : s.vm.findClass RcL = some m.cls := findClass_of_methodNamed B1.named
  have hlocks := B1.notSynchronized
  have hS : va_S (hA9 a o) s.heap s.heap [] := va_S.rf
  have hl := lv_entry ([.ref (a 0), .int x1, .ref o]) (n := 4) (Nat.le_of_ble_eq_true rfl)
  rw [lg_entry_eq]
  generalize (lg_sl ([.ref (a 0), .int x1, .ref o]) ++ List.replicate (4 - (lg_sl ([.ref (a 0), .int x1, .ref o])).length) Slot.unset).toArray = ls at hl ⊢
  have hl : lv_has ls 4 [(0, .ref (a 0)), (1, .int x1), (2, .ref o)] := hl
  refine tq_gen (fun R Q hRe hQe => ?_)
  have hRf : 8 ≤ R.frames := by rw [hRe]; exact Nat.le_of_ble_eq_true rfl
  have hRl : 170 ≤ R.locals := by rw [hRe]; exact Nat.le_of_ble_eq_true rfl
  have hRc : 1 ≤ R.cells := by rw [hRe]; exact Nat.le_of_ble_eq_true rfl
  have hRs : 6 ≤ R.slots := by rw [hRe]; exact Nat.le_of_ble_eq_true rfl
  have hD := hA9_D hD0
  refine lv_aload_n hx hb dL_twin_0 rfl (lv_at hl 2 rfl) ?_
  refine lv_iconst (v := nI 0) hx hb dL_twin_1 (by decide +kernel) ?_
  refine lv_aload_n hx hb dL_twin_2 rfl (lv_at hl 0 rfl) ?_
  refine lv_iload_n hx hb dL_twin_3 rfl (lv_at hl 1 rfl) ?_
  obtain ⟨x9, ht1, ht2, ht3, ht4, ht5⟩ := lk_tab1 htb
  have hP1 : va_P D vwA (sW a kI kL kZ u) s.heap := pa_l hP
  refine kt_C (D := D) (ws := sW a kI kL kZ u) (hpc := 12) (k := 13) ⟨hx, hb, hml, hown, hA⟩ (t_twin l hl0 D a kI kL kZ u x1 hN hbad) (kw_L_45 hA rfl rfl ⟨Nat.le_trans (Nat.le_of_ble_eq_true rfl) hRf, Nat.le_trans (Nat.le_of_ble_eq_true rfl) hRl⟩) hK hP1 (fun U hU hW => hX.mv hW (fun q cl z => by rw [hU]; exact z)) hS 0 4 rfl rfl rfl hl.1 (Nat.le_of_ble_eq_true rfl) ⟨by omega, by omega⟩ dL_twin_4 rfl ht1 (by unfold covers; rw [ht2, ht3]; rfl) ht5 (by decide) ht4 (hA _ mcl_L_13) (fun a1 H locs hP2 hk2 hS => ?_)
  have hP : va_P D vwA (hW a o kI kL kZ (u, f)) H := hP.kept (fun k q hq => hk2 q.1 (hP k q hq).lt)
  refine lv_astore_n (lv' := [(3, .ref a1), (0, .ref (a 0)), (1, .int x1), (2, .ref o)]) hx hb dL_twin_12 rfl hl (by decide) rfl (fun ls hl => ?_)
  refine lv_iconst (v := nI 1) hx hb dL_twin_13 (by decide +kernel) ?_
  subst hQe
  exact W.iret (v := nI 1) hx hb hr (fun t ht hW => ⟨⟨_, (u, f), rfl, ⟨rfl, rfl⟩, tq_hp ht hP⟩, hS.F ht⟩) hS.2.2 dL_twin_14
set_option maxHeartbeats 4000000 in
set_option maxRecDepth 100000 in
theorem g_common (l : Launch) (D : va_G) (a : Nat → Nat) (o : Nat) (kI kL kZ : ClassId) (u : sU) (f : Nat → Int64) (N : Nat) (kd fa fb : Nat → Nat) (T : Nat) (so xa xb xc : Nat → Nat) (F : Nat → Prop) (M : Nat) (rs : Nat → Nat) (hi : s_inv u N kd fa fb T so xa xb xc F M rs) (d d2 : Nat) (x : Int32) (hd : d < N) (hd2 : d2 < N) : Met l yL_common (wL_common :: wA) ({ frames := 8, cells := 0, slots := 0, locals := 174 }) (va_Pc [.ref (a 0), .int (nI d), .int (nI d2), .int x, .ref o] (tq_wB D vwA (hW a o kI kL kZ (u, f)) (sT kI kL kZ))) (va_Qi (fun r (w : sU × (Nat → Int64)) => r = nI 0 ∧ ∃ r0 : Int32, w.2 0 = r0.toInt64 ∧ ((q_sup (z_co N kd (z_B N kd fa fb so xa xb xc F) d d2) N x r0) ∧ s_inv w.1 N kd fa fb T so xa xb xc F M rs)) (fun w t => va_P D vwA (hW a o kI kL kZ w) t.heap) (hA9 a o)) 0 0 (hA9 a o) := by
  refine va_MetW (cc := bL_common) (maxL := 6) (ret := some .int) (hh := hL_common) (by decide +kernel) rfl ?_
  intro p e s m args below meth c s₁ B1 hml hv
  have htb := lk_tab B1 (List.mem_cons_self)
  obtain ⟨rfl, hP, hK, hD0⟩ := hv
  have hx := B1.exec
  have hb := B1.bytes
  have hr := B1.returns
  have hA : ∀ w ∈ wA, w.before ([.ref (a 0), .int (nI d), .int (nI d2), .int x, .ref o] : List Value).toArray s = true := fun w h => atoms_spec (ws := wL_common :: wA) B1.pre w (List.mem_cons_of_mem _ h)
  have hown : s.vm.findClass RcL = some m.cls := findClass_of_methodNamed B1.named
  have hlocks := B1.notSynchronized
  have hS : va_S (hA9 a o) s.heap s.heap [] := va_S.rf
  have hl := lv_entry ([.ref (a 0), .int (nI d), .int (nI d2), .int x, .ref o]) (n := 6) (Nat.le_of_ble_eq_true rfl)
  rw [lg_entry_eq]
  generalize (lg_sl ([.ref (a 0), .int (nI d), .int (nI d2), .int x, .ref o]) ++ List.replicate (6 - (lg_sl ([.ref (a 0), .int (nI d), .int (nI d2), .int x, .ref o])).length) Slot.unset).toArray = ls at hl ⊢
  have hl : lv_has ls 6 [(0, .ref (a 0)), (1, .int (nI d)), (2, .int (nI d2)), (3, .int x), (4, .ref o)] := hl
  refine tq_gen (fun R Q hRe hQe => ?_)
  have hRf : 8 ≤ R.frames := by rw [hRe]; exact Nat.le_of_ble_eq_true rfl
  have hRl : 174 ≤ R.locals := by rw [hRe]; exact Nat.le_of_ble_eq_true rfl
  have hRc : 0 ≤ R.cells := by rw [hRe]; exact Nat.le_of_ble_eq_true rfl
  have hRs : 0 ≤ R.slots := by rw [hRe]; exact Nat.le_of_ble_eq_true rfl
  have hD := hA9_D hD0
  refine lv_aload hx hb dL_common_0 (lv_at hl 4 rfl) ?_
  refine lv_iconst (v := nI 0) hx hb dL_common_2 (by decide +kernel) ?_
  refine lv_aload_n hx hb dL_common_3 rfl (lv_at hl 0 rfl) ?_
  refine lv_iload_n hx hb dL_common_4 rfl (lv_at hl 1 rfl) ?_
  refine lv_iload_n hx hb dL_common_5 rfl (lv_at hl 2 rfl) ?_
  refine lv_iload_n hx hb dL_common_6 rfl (lv_at hl 3 rfl) ?_
  refine kp_i (X := []) (wf := sW a kI kL kZ) (u := u) (Z := [(o, .inl (kL, 1, .inr (.inl f)))]) ⟨hx, hb, hml, hown, hA⟩ (v_common l D a kI kL kZ u N kd fa fb T so xa xb xc F M rs hi d d2 x hd hd2) (kw_L_48 hA rfl rfl ⟨Nat.le_trans (Nat.le_of_ble_eq_true rfl) hRf, Nat.le_trans (Nat.le_of_ble_eq_true rfl) hRl⟩) hK hP hD hS (fun _ h => h) (fun u' => sW_adr u') 0 4 rfl rfl rfl hl.1 (Nat.le_of_ble_eq_true rfl) ⟨by omega, by omega⟩ dL_common_7 rfl (fun r1 u1 H locs hu1 hP hD hS => ?_)
  have hP : va_P D vwA (hW a o kI kL kZ (u1, f)) H := hP
  have hD : va_D (hA9 a o) (hW a o kI kL kZ (u1, f)) := hD
  refine lv_i2l hx hb dL_common_10 rfl ?_
  refine tq_last hx hb hK hP hD hS 32 1 rfl rfl (by omega) (by omega) dL_common_11 (fun H locs hP hD hS => ?_)
  have hP : va_P D vwA (hW a o kI kL kZ (u1, vp_updL f 0 r1.toInt64)) H := hP
  have hD : va_D (hA9 a o) (hW a o kI kL kZ (u1, vp_updL f 0 r1.toInt64)) := hD
  refine lv_goto hx hb dL_common_12 (tgt := 19) (by decide) ?_
  refine lv_iconst (v := nI 0) hx hb dL_common_19 (by decide +kernel) ?_
  subst hQe
  exact W.iret (v := nI 0) hx hb hr (fun t ht hW => ⟨⟨_, (u1, vp_updL f 0 r1.toInt64), rfl, ⟨rfl, r1, rfl, hu1⟩, tq_hp ht hP⟩, hS.F ht⟩) hS.2.2 dL_common_20
set_option maxHeartbeats 4000000 in
set_option maxRecDepth 100000 in
theorem b_common (l : Launch) (hl0 : l.stackTraces = false) (D : va_G) (a : Nat → Nat) (o : Nat) (kI kL kZ : ClassId) (u : sU) (f : Nat → Int64) (x1 : Int32) (x2 : Int32) (x3 : Int32) (hN : u.2.2 0 ≤ 160) (hbad : (∀ k, k < u.2.2 0 → ¬ x1 = nI k) ∨ (∀ k, k < u.2.2 0 → ¬ x2 = nI k)) : Met l yL_common (wL_common :: wA) ({ frames := 8, cells := 1, slots := 6, locals := 174 }) (va_Pc [.ref (a 0), .int x1, .int x2, .int x3, .ref o] (tq_wX D vwA (hW a o kI kL kZ (u, f)) (sT kI kL kZ))) (va_Qi (fun r (w : sU × (Nat → Int64)) => r = nI 1 ∧ w = (u, f)) (fun w t => va_P D vwA (hW a o kI kL kZ w) t.heap) (hA9 a o)) 1 6 (hA9 a o) := by
  refine va_MetW (cc := bL_common) (maxL := 6) (ret := some .int) (hh := hL_common) (by decide +kernel) rfl ?_
  intro p e s m args below meth c s₁ B1 hml hv
  have htb := lk_tab B1 (List.mem_cons_self)
  obtain ⟨rfl, hP, hK, hD0, hX⟩ := hv
  have hx := B1.exec
  have hb := B1.bytes
  have hr := B1.returns
  have hA : ∀ w ∈ wA, w.before ([.ref (a 0), .int x1, .int x2, .int x3, .ref o] : List Value).toArray s = true := fun w h => atoms_spec (ws := wL_common :: wA) B1.pre w (List.mem_cons_of_mem _ h)
  have hown : s.vm.findClass RcL = some m.cls := findClass_of_methodNamed B1.named
  have hlocks := B1.notSynchronized
  have hS : va_S (hA9 a o) s.heap s.heap [] := va_S.rf
  have hl := lv_entry ([.ref (a 0), .int x1, .int x2, .int x3, .ref o]) (n := 6) (Nat.le_of_ble_eq_true rfl)
  rw [lg_entry_eq]
  generalize (lg_sl ([.ref (a 0), .int x1, .int x2, .int x3, .ref o]) ++ List.replicate (6 - (lg_sl ([.ref (a 0), .int x1, .int x2, .int x3, .ref o])).length) Slot.unset).toArray = ls at hl ⊢
  have hl : lv_has ls 6 [(0, .ref (a 0)), (1, .int x1), (2, .int x2), (3, .int x3), (4, .ref o)] := hl
  refine tq_gen (fun R Q hRe hQe => ?_)
  have hRf : 8 ≤ R.frames := by rw [hRe]; exact Nat.le_of_ble_eq_true rfl
  have hRl : 174 ≤ R.locals := by rw [hRe]; exact Nat.le_of_ble_eq_true rfl
  have hRc : 1 ≤ R.cells := by rw [hRe]; exact Nat.le_of_ble_eq_true rfl
  have hRs : 6 ≤ R.slots := by rw [hRe]; exact Nat.le_of_ble_eq_true rfl
  have hD := hA9_D hD0
  refine lv_aload hx hb dL_common_0 (lv_at hl 4 rfl) ?_
  refine lv_iconst (v := nI 0) hx hb dL_common_2 (by decide +kernel) ?_
  refine lv_aload_n hx hb dL_common_3 rfl (lv_at hl 0 rfl) ?_
  refine lv_iload_n hx hb dL_common_4 rfl (lv_at hl 1 rfl) ?_
  refine lv_iload_n hx hb dL_common_5 rfl (lv_at hl 2 rfl) ?_
  refine lv_iload_n hx hb dL_common_6 rfl (lv_at hl 3 rfl) ?_
  obtain ⟨x9, ht1, ht2, ht3, ht4, ht5⟩ := lk_tab1 htb
  have hP1 : va_P D vwA (sW a kI kL kZ u) s.heap := pa_l hP
  refine kt_C (D := D) (ws := sW a kI kL kZ u) (hpc := 15) (k := 13) ⟨hx, hb, hml, hown, hA⟩ (t_common l hl0 D a kI kL kZ u x1 x2 x3 hN hbad) (kw_L_48 hA rfl rfl ⟨Nat.le_trans (Nat.le_of_ble_eq_true rfl) hRf, Nat.le_trans (Nat.le_of_ble_eq_true rfl) hRl⟩) hK hP1 (fun U hU hW => hX.mv hW (fun q cl z => by rw [hU]; exact z)) hS 0 4 rfl rfl rfl hl.1 (Nat.le_of_ble_eq_true rfl) ⟨by omega, by omega⟩ dL_common_7 rfl ht1 (by unfold covers; rw [ht2, ht3]; rfl) ht5 (by decide) ht4 (hA _ mcl_L_13) (fun a1 H locs hP2 hk2 hS => ?_)
  have hP : va_P D vwA (hW a o kI kL kZ (u, f)) H := hP.kept (fun k q hq => hk2 q.1 (hP k q hq).lt)
  refine lv_astore (lv' := [(5, .ref a1), (0, .ref (a 0)), (1, .int x1), (2, .int x2), (3, .int x3), (4, .ref o)]) hx hb dL_common_15 hl (by decide) rfl (fun ls hl => ?_)
  refine lv_iconst (v := nI 1) hx hb dL_common_17 (by decide +kernel) ?_
  subst hQe
  exact W.iret (v := nI 1) hx hb hr (fun t ht hW => ⟨⟨_, (u, f), rfl, ⟨rfl, rfl⟩, tq_hp ht hP⟩, hS.F ht⟩) hS.2.2 dL_common_18
set_option maxHeartbeats 4000000 in
set_option maxRecDepth 100000 in
theorem g_why (l : Launch) (D : va_G) (a : Nat → Nat) (o : Nat) (kI kL kZ : ClassId) (u : sU) (f : Nat → Int64) (N : Nat) (kd fa fb : Nat → Nat) (T : Nat) (so xa xb xc : Nat → Nat) (F : Nat → Prop) (M : Nat) (rs : Nat → Nat) (hi : s_inv u N kd fa fb T so xa xb xc F M rs) (d d2 : Nat) (hd : d < N) (hd2 : d2 < N) : Met l yL_why (wL_why :: wA) ({ frames := 8, cells := 0, slots := 0, locals := 175 }) (va_Pc [.ref (a 0), .int (nI d), .int (nI d2), .ref o] (tq_wB D vwA (hW a o kI kL kZ (u, f)) (sT kI kL kZ))) (va_Qi (fun r (w : sU × (Nat → Int64)) => r = nI 0 ∧ ∃ r0 : Int32, w.2 0 = r0.toInt64 ∧ (∃ M' rs', z_wy N kd fa fb so xa xb xc F T d d2 r0 M' rs' ∧ s_inv w.1 N kd fa fb T so xa xb xc F M' rs')) (fun w t => va_P D vwA (hW a o kI kL kZ w) t.heap) (hA9 a o)) 0 0 (hA9 a o) := by
  refine va_MetW (cc := bL_why) (maxL := 5) (ret := some .int) (hh := hL_why) (by decide +kernel) rfl ?_
  intro p e s m args below meth c s₁ B1 hml hv
  have htb := lk_tab B1 (List.mem_cons_self)
  obtain ⟨rfl, hP, hK, hD0⟩ := hv
  have hx := B1.exec
  have hb := B1.bytes
  have hr := B1.returns
  have hA : ∀ w ∈ wA, w.before ([.ref (a 0), .int (nI d), .int (nI d2), .ref o] : List Value).toArray s = true := fun w h => atoms_spec (ws := wL_why :: wA) B1.pre w (List.mem_cons_of_mem _ h)
  have hown : s.vm.findClass RcL = some m.cls := findClass_of_methodNamed B1.named
  have hlocks := B1.notSynchronized
  have hS : va_S (hA9 a o) s.heap s.heap [] := va_S.rf
  have hl := lv_entry ([.ref (a 0), .int (nI d), .int (nI d2), .ref o]) (n := 5) (Nat.le_of_ble_eq_true rfl)
  rw [lg_entry_eq]
  generalize (lg_sl ([.ref (a 0), .int (nI d), .int (nI d2), .ref o]) ++ List.replicate (5 - (lg_sl ([.ref (a 0), .int (nI d), .int (nI d2), .ref o])).length) Slot.unset).toArray = ls at hl ⊢
  have hl : lv_has ls 5 [(0, .ref (a 0)), (1, .int (nI d)), (2, .int (nI d2)), (3, .ref o)] := hl
  refine tq_gen (fun R Q hRe hQe => ?_)
  have hRf : 8 ≤ R.frames := by rw [hRe]; exact Nat.le_of_ble_eq_true rfl
  have hRl : 175 ≤ R.locals := by rw [hRe]; exact Nat.le_of_ble_eq_true rfl
  have hRc : 0 ≤ R.cells := by rw [hRe]; exact Nat.le_of_ble_eq_true rfl
  have hRs : 0 ≤ R.slots := by rw [hRe]; exact Nat.le_of_ble_eq_true rfl
  have hD := hA9_D hD0
  refine lv_aload_n hx hb dL_why_0 rfl (lv_at hl 3 rfl) ?_
  refine lv_iconst (v := nI 0) hx hb dL_why_1 (by decide +kernel) ?_
  refine lv_aload_n hx hb dL_why_2 rfl (lv_at hl 0 rfl) ?_
  refine lv_iload_n hx hb dL_why_3 rfl (lv_at hl 1 rfl) ?_
  refine lv_iload_n hx hb dL_why_4 rfl (lv_at hl 2 rfl) ?_
  refine kp_i (X := []) (wf := sW a kI kL kZ) (u := u) (Z := [(o, .inl (kL, 1, .inr (.inl f)))]) ⟨hx, hb, hml, hown, hA⟩ (v_why l D a kI kL kZ u N kd fa fb T so xa xb xc F M rs hi d d2 hd hd2) (kw_L_51 hA rfl rfl ⟨Nat.le_trans (Nat.le_of_ble_eq_true rfl) hRf, Nat.le_trans (Nat.le_of_ble_eq_true rfl) hRl⟩) hK hP hD hS (fun _ h => h) (fun u' => sW_adr u') 0 4 rfl rfl rfl hl.1 (Nat.le_of_ble_eq_true rfl) ⟨by omega, by omega⟩ dL_why_5 rfl (fun r1 u1 H locs hu1 hP hD hS => ?_)
  have hP : va_P D vwA (hW a o kI kL kZ (u1, f)) H := hP
  have hD : va_D (hA9 a o) (hW a o kI kL kZ (u1, f)) := hD
  refine lv_i2l hx hb dL_why_8 rfl ?_
  refine tq_last hx hb hK hP hD hS 32 1 rfl rfl (by omega) (by omega) dL_why_9 (fun H locs hP hD hS => ?_)
  have hP : va_P D vwA (hW a o kI kL kZ (u1, vp_updL f 0 r1.toInt64)) H := hP
  have hD : va_D (hA9 a o) (hW a o kI kL kZ (u1, vp_updL f 0 r1.toInt64)) := hD
  refine lv_goto hx hb dL_why_10 (tgt := 17) (by decide) ?_
  refine lv_iconst (v := nI 0) hx hb dL_why_17 (by decide +kernel) ?_
  subst hQe
  exact W.iret (v := nI 0) hx hb hr (fun t ht hW => ⟨⟨_, (u1, vp_updL f 0 r1.toInt64), rfl, ⟨rfl, r1, rfl, hu1⟩, tq_hp ht hP⟩, hS.F ht⟩) hS.2.2 dL_why_18
set_option maxHeartbeats 4000000 in
set_option maxRecDepth 100000 in
theorem b_why (l : Launch) (hl0 : l.stackTraces = false) (D : va_G) (a : Nat → Nat) (o : Nat) (kI kL kZ : ClassId) (u : sU) (f : Nat → Int64) (x1 : Int32) (x2 : Int32) (hN : u.2.2 0 ≤ 160) (hbad : (∀ k, k < u.2.2 0 → ¬ x1 = nI k) ∨ (∀ k, k < u.2.2 0 → ¬ x2 = nI k)) : Met l yL_why (wL_why :: wA) ({ frames := 8, cells := 1, slots := 6, locals := 175 }) (va_Pc [.ref (a 0), .int x1, .int x2, .ref o] (tq_wX D vwA (hW a o kI kL kZ (u, f)) (sT kI kL kZ))) (va_Qi (fun r (w : sU × (Nat → Int64)) => r = nI 1 ∧ w = (u, f)) (fun w t => va_P D vwA (hW a o kI kL kZ w) t.heap) (hA9 a o)) 1 6 (hA9 a o) := by
  refine va_MetW (cc := bL_why) (maxL := 5) (ret := some .int) (hh := hL_why) (by decide +kernel) rfl ?_
  intro p e s m args below meth c s₁ B1 hml hv
  have htb := lk_tab B1 (List.mem_cons_self)
  obtain ⟨rfl, hP, hK, hD0, hX⟩ := hv
  have hx := B1.exec
  have hb := B1.bytes
  have hr := B1.returns
  have hA : ∀ w ∈ wA, w.before ([.ref (a 0), .int x1, .int x2, .ref o] : List Value).toArray s = true := fun w h => atoms_spec (ws := wL_why :: wA) B1.pre w (List.mem_cons_of_mem _ h)
  have hown : s.vm.findClass RcL = some m.cls := findClass_of_methodNamed B1.named
  have hlocks := B1.notSynchronized
  have hS : va_S (hA9 a o) s.heap s.heap [] := va_S.rf
  have hl := lv_entry ([.ref (a 0), .int x1, .int x2, .ref o]) (n := 5) (Nat.le_of_ble_eq_true rfl)
  rw [lg_entry_eq]
  generalize (lg_sl ([.ref (a 0), .int x1, .int x2, .ref o]) ++ List.replicate (5 - (lg_sl ([.ref (a 0), .int x1, .int x2, .ref o])).length) Slot.unset).toArray = ls at hl ⊢
  have hl : lv_has ls 5 [(0, .ref (a 0)), (1, .int x1), (2, .int x2), (3, .ref o)] := hl
  refine tq_gen (fun R Q hRe hQe => ?_)
  have hRf : 8 ≤ R.frames := by rw [hRe]; exact Nat.le_of_ble_eq_true rfl
  have hRl : 175 ≤ R.locals := by rw [hRe]; exact Nat.le_of_ble_eq_true rfl
  have hRc : 1 ≤ R.cells := by rw [hRe]; exact Nat.le_of_ble_eq_true rfl
  have hRs : 6 ≤ R.slots := by rw [hRe]; exact Nat.le_of_ble_eq_true rfl
  have hD := hA9_D hD0
  refine lv_aload_n hx hb dL_why_0 rfl (lv_at hl 3 rfl) ?_
  refine lv_iconst (v := nI 0) hx hb dL_why_1 (by decide +kernel) ?_
  refine lv_aload_n hx hb dL_why_2 rfl (lv_at hl 0 rfl) ?_
  refine lv_iload_n hx hb dL_why_3 rfl (lv_at hl 1 rfl) ?_
  refine lv_iload_n hx hb dL_why_4 rfl (lv_at hl 2 rfl) ?_
  obtain ⟨x9, ht1, ht2, ht3, ht4, ht5⟩ := lk_tab1 htb
  have hP1 : va_P D vwA (sW a kI kL kZ u) s.heap := pa_l hP
  refine kt_C (D := D) (ws := sW a kI kL kZ u) (hpc := 13) (k := 13) ⟨hx, hb, hml, hown, hA⟩ (t_why l hl0 D a kI kL kZ u x1 x2 hN hbad) (kw_L_51 hA rfl rfl ⟨Nat.le_trans (Nat.le_of_ble_eq_true rfl) hRf, Nat.le_trans (Nat.le_of_ble_eq_true rfl) hRl⟩) hK hP1 (fun U hU hW => hX.mv hW (fun q cl z => by rw [hU]; exact z)) hS 0 4 rfl rfl rfl hl.1 (Nat.le_of_ble_eq_true rfl) ⟨by omega, by omega⟩ dL_why_5 rfl ht1 (by unfold covers; rw [ht2, ht3]; rfl) ht5 (by decide) ht4 (hA _ mcl_L_13) (fun a1 H locs hP2 hk2 hS => ?_)
  have hP : va_P D vwA (hW a o kI kL kZ (u, f)) H := hP.kept (fun k q hq => hk2 q.1 (hP k q hq).lt)
  refine lv_astore (lv' := [(4, .ref a1), (0, .ref (a 0)), (1, .int x1), (2, .int x2), (3, .ref o)]) hx hb dL_why_13 hl (by decide) rfl (fun ls hl => ?_)
  refine lv_iconst (v := nI 1) hx hb dL_why_15 (by decide +kernel) ?_
  subst hQe
  exact W.iret (v := nI 1) hx hb hr (fun t ht hW => ⟨⟨_, (u, f), rfl, ⟨rfl, rfl⟩, tq_hp ht hP⟩, hS.F ht⟩) hS.2.2 dL_why_16
set_option maxHeartbeats 4000000 in
set_option maxRecDepth 100000 in
theorem g_has (l : Launch) (D : va_G) (a : Nat → Nat) (o : Nat) (kI kL kZ : ClassId) (u : sU) (f : Nat → Int64) (N : Nat) (kd fa fb : Nat → Nat) (T : Nat) (so xa xb xc : Nat → Nat) (F : Nat → Prop) (M : Nat) (rs : Nat → Nat) (hi : s_inv u N kd fa fb T so xa xb xc F M rs) (x i y : Nat) (hx1 : x < N) (hi6 : i < 6) (hy1 : y < N) : Met l yL_has (wL_has :: wA) ({ frames := 8, cells := 0, slots := 0, locals := 171 }) (va_Pc [.ref (a 0), .int (nI x), .int (nI i), .int (nI y), .ref o] (tq_wB D vwA (hW a o kI kL kZ (u, f)) (sT kI kL kZ))) (va_Qi (fun r (w : sU × (Nat → Int64)) => r = nI 0 ∧ ∃ r0 : Int32, w.2 0 = r0.toInt64 ∧ ((r0 = bI (z_has N kd fa fb so xa xb xc F x i y)) ∧ s_inv w.1 N kd fa fb T so xa xb xc F M rs)) (fun w t => va_P D vwA (hW a o kI kL kZ w) t.heap) (hA9 a o)) 0 0 (hA9 a o) := by
  refine va_MetW (cc := bL_has) (maxL := 6) (ret := some .int) (hh := hL_has) (by decide +kernel) rfl ?_
  intro p e s m args below meth c s₁ B1 hml hv
  have htb := lk_tab B1 (List.mem_cons_self)
  obtain ⟨rfl, hP, hK, hD0⟩ := hv
  have hx := B1.exec
  have hb := B1.bytes
  have hr := B1.returns
  have hA : ∀ w ∈ wA, w.before ([.ref (a 0), .int (nI x), .int (nI i), .int (nI y), .ref o] : List Value).toArray s = true := fun w h => atoms_spec (ws := wL_has :: wA) B1.pre w (List.mem_cons_of_mem _ h)
  have hown : s.vm.findClass RcL = some m.cls := findClass_of_methodNamed B1.named
  have hlocks := B1.notSynchronized
  have hS : va_S (hA9 a o) s.heap s.heap [] := va_S.rf
  have hl := lv_entry ([.ref (a 0), .int (nI x), .int (nI i), .int (nI y), .ref o]) (n := 6) (Nat.le_of_ble_eq_true rfl)
  rw [lg_entry_eq]
  generalize (lg_sl ([.ref (a 0), .int (nI x), .int (nI i), .int (nI y), .ref o]) ++ List.replicate (6 - (lg_sl ([.ref (a 0), .int (nI x), .int (nI i), .int (nI y), .ref o])).length) Slot.unset).toArray = ls at hl ⊢
  have hl : lv_has ls 6 [(0, .ref (a 0)), (1, .int (nI x)), (2, .int (nI i)), (3, .int (nI y)), (4, .ref o)] := hl
  refine tq_gen (fun R Q hRe hQe => ?_)
  have hRf : 8 ≤ R.frames := by rw [hRe]; exact Nat.le_of_ble_eq_true rfl
  have hRl : 171 ≤ R.locals := by rw [hRe]; exact Nat.le_of_ble_eq_true rfl
  have hRc : 0 ≤ R.cells := by rw [hRe]; exact Nat.le_of_ble_eq_true rfl
  have hRs : 0 ≤ R.slots := by rw [hRe]; exact Nat.le_of_ble_eq_true rfl
  have hD := hA9_D hD0
  refine lv_aload hx hb dL_has_0 (lv_at hl 4 rfl) ?_
  refine lv_iconst (v := nI 0) hx hb dL_has_2 (by decide +kernel) ?_
  refine lv_aload_n hx hb dL_has_3 rfl (lv_at hl 0 rfl) ?_
  refine lv_iload_n hx hb dL_has_4 rfl (lv_at hl 1 rfl) ?_
  refine lv_iload_n hx hb dL_has_5 rfl (lv_at hl 2 rfl) ?_
  refine lv_iload_n hx hb dL_has_6 rfl (lv_at hl 3 rfl) ?_
  refine kp_i (X := []) (wf := sW a kI kL kZ) (u := u) (Z := [(o, .inl (kL, 1, .inr (.inl f)))]) ⟨hx, hb, hml, hown, hA⟩ (v_has l D a kI kL kZ u N kd fa fb T so xa xb xc F M rs hi x i y hx1 hi6 hy1) (kw_L_54 hA rfl rfl ⟨Nat.le_trans (Nat.le_of_ble_eq_true rfl) hRf, Nat.le_trans (Nat.le_of_ble_eq_true rfl) hRl⟩) hK hP hD hS (fun _ h => h) (fun u' => sW_adr u') 0 4 rfl rfl rfl hl.1 (Nat.le_of_ble_eq_true rfl) ⟨by omega, by omega⟩ dL_has_7 rfl (fun r1 u1 H locs hu1 hP hD hS => ?_)
  have hP : va_P D vwA (hW a o kI kL kZ (u1, f)) H := hP
  have hD : va_D (hA9 a o) (hW a o kI kL kZ (u1, f)) := hD
  obtain ⟨b1, hb1⟩ : ∃ b1 : Bool, r1 = bI b1 := ⟨_, hu1.1⟩
  refine tq_i hb1 ?_
  refine tq_bf hx hb dL_has_10 (tgt := 17) (by decide) (fun h10 => ?_) (fun h10 => ?_)
  · refine lv_lconst (v := 0) hx hb dL_has_17 (by decide +kernel) ?_
    refine tq_last hx hb hK hP hD hS 32 1 rfl rfl (by omega) (by omega) dL_has_18 (fun H locs hP hD hS => ?_)
    have hP : va_P D vwA (hW a o kI kL kZ (u1, vp_updL f 0 0)) H := hP
    have hD : va_D (hA9 a o) (hW a o kI kL kZ (u1, vp_updL f 0 0)) := hD
    refine lv_goto hx hb dL_has_19 (tgt := 26) (by decide) ?_
    refine lv_iconst (v := nI 0) hx hb dL_has_26 (by decide +kernel) ?_
    subst hQe
    exact W.iret (v := nI 0) hx hb hr (fun t ht hW => ⟨⟨_, (u1, vp_updL f 0 0), rfl, ⟨rfl, r1, by rw [hb1, h10]; rfl, hu1⟩, tq_hp ht hP⟩, hS.F ht⟩) hS.2.2 dL_has_27
  · refine lv_lconst (v := 1) hx hb dL_has_13 (by decide +kernel) ?_
    refine lv_goto hx hb dL_has_14 (tgt := 18) (by decide) ?_
    refine tq_last hx hb hK hP hD hS 32 1 rfl rfl (by omega) (by omega) dL_has_18 (fun H locs hP hD hS => ?_)
    have hP : va_P D vwA (hW a o kI kL kZ (u1, vp_updL f 0 1)) H := hP
    have hD : va_D (hA9 a o) (hW a o kI kL kZ (u1, vp_updL f 0 1)) := hD
    refine lv_goto hx hb dL_has_19 (tgt := 26) (by decide) ?_
    refine lv_iconst (v := nI 0) hx hb dL_has_26 (by decide +kernel) ?_
    subst hQe
    exact W.iret (v := nI 0) hx hb hr (fun t ht hW => ⟨⟨_, (u1, vp_updL f 0 1), rfl, ⟨rfl, r1, by rw [hb1, h10]; rfl, hu1⟩, tq_hp ht hP⟩, hS.F ht⟩) hS.2.2 dL_has_27
set_option maxHeartbeats 4000000 in
set_option maxRecDepth 100000 in
theorem b_has (l : Launch) (hl0 : l.stackTraces = false) (D : va_G) (a : Nat → Nat) (o : Nat) (kI kL kZ : ClassId) (u : sU) (f : Nat → Int64) (x1 : Int32) (x2 : Int32) (x3 : Int32) (hN : u.2.2 0 ≤ 160) (hbad : (∀ k, k < u.2.2 0 → ¬ x1 = nI k) ∨ (∀ k, k < 6 → ¬ x2 = nI k) ∨ (∀ k, k < u.2.2 0 → ¬ x3 = nI k)) : Met l yL_has (wL_has :: wA) ({ frames := 8, cells := 1, slots := 6, locals := 171 }) (va_Pc [.ref (a 0), .int x1, .int x2, .int x3, .ref o] (tq_wX D vwA (hW a o kI kL kZ (u, f)) (sT kI kL kZ))) (va_Qi (fun r (w : sU × (Nat → Int64)) => r = nI 1 ∧ w = (u, f)) (fun w t => va_P D vwA (hW a o kI kL kZ w) t.heap) (hA9 a o)) 1 6 (hA9 a o) := by
  refine va_MetW (cc := bL_has) (maxL := 6) (ret := some .int) (hh := hL_has) (by decide +kernel) rfl ?_
  intro p e s m args below meth c s₁ B1 hml hv
  have htb := lk_tab B1 (List.mem_cons_self)
  obtain ⟨rfl, hP, hK, hD0, hX⟩ := hv
  have hx := B1.exec
  have hb := B1.bytes
  have hr := B1.returns
  have hA : ∀ w ∈ wA, w.before ([.ref (a 0), .int x1, .int x2, .int x3, .ref o] : List Value).toArray s = true := fun w h => atoms_spec (ws := wL_has :: wA) B1.pre w (List.mem_cons_of_mem _ h)
  have hown : s.vm.findClass RcL = some m.cls := findClass_of_methodNamed B1.named
  have hlocks := B1.notSynchronized
  have hS : va_S (hA9 a o) s.heap s.heap [] := va_S.rf
  have hl := lv_entry ([.ref (a 0), .int x1, .int x2, .int x3, .ref o]) (n := 6) (Nat.le_of_ble_eq_true rfl)
  rw [lg_entry_eq]
  generalize (lg_sl ([.ref (a 0), .int x1, .int x2, .int x3, .ref o]) ++ List.replicate (6 - (lg_sl ([.ref (a 0), .int x1, .int x2, .int x3, .ref o])).length) Slot.unset).toArray = ls at hl ⊢
  have hl : lv_has ls 6 [(0, .ref (a 0)), (1, .int x1), (2, .int x2), (3, .int x3), (4, .ref o)] := hl
  refine tq_gen (fun R Q hRe hQe => ?_)
  have hRf : 8 ≤ R.frames := by rw [hRe]; exact Nat.le_of_ble_eq_true rfl
  have hRl : 171 ≤ R.locals := by rw [hRe]; exact Nat.le_of_ble_eq_true rfl
  have hRc : 1 ≤ R.cells := by rw [hRe]; exact Nat.le_of_ble_eq_true rfl
  have hRs : 6 ≤ R.slots := by rw [hRe]; exact Nat.le_of_ble_eq_true rfl
  have hD := hA9_D hD0
  refine lv_aload hx hb dL_has_0 (lv_at hl 4 rfl) ?_
  refine lv_iconst (v := nI 0) hx hb dL_has_2 (by decide +kernel) ?_
  refine lv_aload_n hx hb dL_has_3 rfl (lv_at hl 0 rfl) ?_
  refine lv_iload_n hx hb dL_has_4 rfl (lv_at hl 1 rfl) ?_
  refine lv_iload_n hx hb dL_has_5 rfl (lv_at hl 2 rfl) ?_
  refine lv_iload_n hx hb dL_has_6 rfl (lv_at hl 3 rfl) ?_
  obtain ⟨x9, ht1, ht2, ht3, ht4, ht5⟩ := lk_tab1 htb
  have hP1 : va_P D vwA (sW a kI kL kZ u) s.heap := pa_l hP
  refine kt_C (D := D) (ws := sW a kI kL kZ u) (hpc := 22) (k := 13) ⟨hx, hb, hml, hown, hA⟩ (t_has l hl0 D a kI kL kZ u x1 x2 x3 hN hbad) (kw_L_54 hA rfl rfl ⟨Nat.le_trans (Nat.le_of_ble_eq_true rfl) hRf, Nat.le_trans (Nat.le_of_ble_eq_true rfl) hRl⟩) hK hP1 (fun U hU hW => hX.mv hW (fun q cl z => by rw [hU]; exact z)) hS 0 4 rfl rfl rfl hl.1 (Nat.le_of_ble_eq_true rfl) ⟨by omega, by omega⟩ dL_has_7 rfl ht1 (by unfold covers; rw [ht2, ht3]; rfl) ht5 (by decide) ht4 (hA _ mcl_L_13) (fun a1 H locs hP2 hk2 hS => ?_)
  have hP : va_P D vwA (hW a o kI kL kZ (u, f)) H := hP.kept (fun k q hq => hk2 q.1 (hP k q hq).lt)
  refine lv_astore (lv' := [(5, .ref a1), (0, .ref (a 0)), (1, .int x1), (2, .int x2), (3, .int x3), (4, .ref o)]) hx hb dL_has_22 hl (by decide) rfl (fun ls hl => ?_)
  refine lv_iconst (v := nI 1) hx hb dL_has_24 (by decide +kernel) ?_
  subst hQe
  exact W.iret (v := nI 1) hx hb hr (fun t ht hW => ⟨⟨_, (u, f), rfl, ⟨rfl, rfl⟩, tq_hp ht hP⟩, hS.F ht⟩) hS.2.2 dL_has_25
