/-! Rows of the law: a world in parts; methods of a part; a static method with handlers. -/
theorem pa_l {D : va_G} {cl : List vw_C} {X Y : va_W} {H : Heap} (h : va_P D cl (X ++ Y) H) : va_P D cl X H := fun k q hq => h k q (by rw [List.getElem?_append_left (List.getElem?_eq_some_iff.mp hq).1]; exact hq)
theorem pa_r {D : va_G} {cl : List vw_C} {X Y : va_W} {H : Heap} (h : va_P D cl (X ++ Y) H) : va_P D cl Y H := fun k q hq => h (X.length + k) q (by rw [List.getElem?_append_right (Nat.le_add_right _ _), Nat.add_sub_cancel_left]; exact hq)
theorem da_l {A : Nat → Prop} {X Y : va_W} (h : va_D A (X ++ Y)) : va_D A X := by
  have up : ∀ (k : Nat) (q : Nat × va_E), X[k]? = some q → (X ++ Y)[k]? = some q := fun k q hq => by rw [List.getElem?_append_left (List.getElem?_eq_some_iff.mp hq).1]; exact hq
  exact ⟨fun i j p q hp hq e => h.1 i j p q (up i p hp) (up j q hq) e, fun k q hk => h.2 k q (up k q hk)⟩
theorem da_r {A : Nat → Prop} {X Y : va_W} (h : va_D A (X ++ Y)) : va_D A Y := by
  have up : ∀ (k : Nat) (q : Nat × va_E), Y[k]? = some q → (X ++ Y)[X.length + k]? = some q := fun k q hq => by rw [List.getElem?_append_right (Nat.le_add_right _ _), Nat.add_sub_cancel_left]; exact hq
  exact ⟨fun i j p q hp hq e => by have := h.1 _ _ p q (up i p hp) (up j q hq) e; omega, fun k q hk => h.2 _ q (up k q hk)⟩
theorem da_x {A : Nat → Prop} {X Y : va_W} (h : va_D A (X ++ Y)) : ∀ (i j : Nat) (p q : Nat × va_E), X[i]? = some p → Y[j]? = some q → p.1 ≠ q.1 := fun i j p q hp hq e => by
  have hi := (List.getElem?_eq_some_iff.mp hp).1
  have := h.1 i (X.length + j) p q (by rw [List.getElem?_append_left hi]; exact hp) (by rw [List.getElem?_append_right (Nat.le_add_right _ _), Nat.add_sub_cancel_left]; exact hq) e
  omega
theorem ad_in {X : va_W} {q : Nat} (h : tq_A X q) : ∃ (k : Nat) (p : Nat × va_E), X[k]? = some p ∧ p.1 = q := by
  obtain ⟨p, hp, e⟩ := List.mem_map.mp h
  obtain ⟨k, hk⟩ := List.getElem?_of_mem hp
  exact ⟨k, p, hk, e⟩
/-- the middle part of a world becomes another one at the same addresses -/
theorem mid_P {D : va_G} {cl : List vw_C} {A B : Nat → Prop} {X Y Y' Z : va_W} {H H1 : Heap} (hP : va_P D cl (X ++ (Y ++ Z)) H) (hD : va_D A (X ++ (Y ++ Z))) (hB : ∀ q, B q → tq_A Y q) (hk : ∀ q : Nat, q < H.size → ¬ B q → H1[q]? = H[q]?) (hY : va_P D cl Y' H1) : va_P D cl (X ++ (Y' ++ Z)) H1 := by
  refine va_P.app (tq_P_apart (pa_l hP) hk (fun k q hq z => ?_)) (va_P.app hY (tq_P_apart (pa_r (pa_r hP)) hk (fun k q hq z => ?_)))
  · obtain ⟨j, p, hp, e⟩ := ad_in (hB _ z)
    exact da_x hD k j q p hq (by rw [List.getElem?_append_left (List.getElem?_eq_some_iff.mp hp).1]; exact hp) e.symm
  · obtain ⟨j, p, hp, e⟩ := ad_in (hB _ z)
    exact da_x (da_r hD) j k p q hp hq e
theorem mid_D {A : Nat → Prop} {X Y Y' Z : va_W} (hD : va_D A (X ++ (Y ++ Z))) (e : Y'.map (fun x => x.1) = Y.map (fun x => x.1)) : va_D A (X ++ (Y' ++ Z)) := tq_D_adr hD (by simp [List.map_append, e])
section LK
variable {p : Program} {l : Launch} {e : Env} {R : Room} {s : State} {m : MethodId} {args : Array Value} {below : List Frame} {meth : Method} {c : Code} {H : Heap} {locs : List Loc} {cells slots : Nat} {Q : State → Prop}
variable {cc bytes : ByteArray} {pc nL index maxL n mc ms : Nat} {ret : Option FieldType} {wy : List Cond} {rm : Room} {y : MethodName} {ls : Array Slot} {rest st0 As : List Value} {D : va_G} {A : Nat → Prop} {tys : List (ClassId × FieldType)} {ws X Z : va_W} {H0 : Heap} {own C : String} {b : Nat}
/-- a method of a part of the world that changes that part -/
theorem kp_i {U : Type} {wf : U → va_W} {u : U} {post : Int32 → U → Prop} {AS : Nat → Prop} (S : CallFix p m c cc nL s args wA own) (hM : Met l y wy rm (va_Pc (.ref b :: As) (tq_wB D vwA (wf u) tys)) (va_Qi post (fun u' t => va_P D vwA (wf u') t.heap) AS) 0 0 AS) (cw : CallW R s args own C index y bytes maxL ret wy rm 0 0 n) (hK : va_K D vwA tys s) (hP : va_P D vwA (X ++ (wf u ++ Z)) H) (hD : va_D A (X ++ (wf u ++ Z))) (hS : va_S A H0 H locs) (hAS : ∀ q, AS q → tq_A (wf u) q) (hadr : ∀ u', (wf u').map (fun x => x.1) = (wf u).map (fun x => x.1))
    (i ci : Nat) {fs : List Value} {T : u_T} {N : Nat} (hi : (wf u)[i]? = some (b, .inr (ci, fs))) (hc : vwA[ci]? = some (C, T, N)) (hn : As.length = n) (hls : ls.size = nL) (hroom : (rest.map fun v => v.category).sum ≤ 8) (hcs : cells + 0 ≤ R.cells ∧ slots + 0 ≤ R.slots) (hdg : decode cc pc = .ok (.invokevirtual index, 3)) (hst : st0 = As.reverse ++ .ref b :: rest)
    (kk : ∀ (r : Int32) (u' : U) (H1 : Heap) (locs1 : List Loc), post r u' → va_P D vwA (X ++ (wf u' ++ Z)) H1 → va_D A (X ++ (wf u' ++ Z)) → va_S A H0 H1 locs1 → W p l e R s m args below meth c H1 locs1 cells slots Q (F0 m (pc + 3) ls (.int r :: rest))) : W p l e R s m args below meth c H locs cells slots Q (F0 m pc ls st0) := by
  have hP1 := pa_l (pa_r hP)
  have hD1 := da_l (da_r hD)
  exact tq_wri (va_runV (As := As) (rest := rest) S hM cw ⟨tq_wB_blind, va_recv hK hP1 (q := (C, T, N)) hc hi, fun U hU hW => ⟨rfl, by rw [hU]; exact hP1, va_K.moved hW.alike hK, hD1.weaken (fun _ _ _ _ => trivial)⟩⟩ rfl hn hls hst (lv_room hroom) hdg hcs) hS (fun q z => by
      obtain ⟨k, q', hk, e'⟩ := ad_in (hAS q z)
      rw [← e']
      exact hD1.2 k q' hk)
    (fun r u' t H1 locs1 ht1 hp hb hk hS1 => by
      rw [ht1] at hb
      exact kk r u' H1 locs1 hp (mid_P hP hD hAS hk hb) (mid_D hD (hadr u')) hS1)
theorem kp_rv {v : Int32} {Y : va_W} (S : CallFix p m c cc nL s args wA own) (hM : Met l y wy rm (va_Pc (.ref b :: As) (tq_rB D vwA Y tys)) (va_Qi (fun r (_ : Unit) => r = v) (fun _ _ => True) (fun _ => False)) 0 0 (fun _ => False)) (cw : CallW R s args own C index y bytes maxL ret wy rm 0 0 n) (hK : va_K D vwA tys s) (hP : va_P D vwA (X ++ (Y ++ Z)) H) (hS : va_S A H0 H locs)
    (i ci : Nat) {fs : List Value} {T : u_T} {N : Nat} (hi : Y[i]? = some (b, .inr (ci, fs))) (hc : vwA[ci]? = some (C, T, N)) (hn : As.length = n) (hls : ls.size = nL) (hroom : (rest.map fun v => v.category).sum ≤ 8) (hcs : cells + 0 ≤ R.cells ∧ slots + 0 ≤ R.slots) (hdg : decode cc pc = .ok (.invokevirtual index, 3)) (hst : st0 = As.reverse ++ .ref b :: rest)
    (kk : ∀ (H1 : Heap) (locs1 : List Loc), va_P D vwA (X ++ (Y ++ Z)) H1 → va_S A H0 H1 locs1 → W p l e R s m args below meth c H1 locs1 cells slots Q (F0 m (pc + 3) ls (.int v :: rest))) : W p l e R s m args below meth c H locs cells slots Q (F0 m pc ls st0) := by
  have hP1 := pa_l (pa_r hP)
  exact tq_rdv (va_runV (As := As) (rest := rest) S hM cw ⟨tq_rB_blind, va_recv hK hP1 (q := (C, T, N)) hc hi, fun U hU hW => ⟨rfl, by rw [hU]; exact hP1, va_K.moved hW.alike hK⟩⟩ rfl hn hls hst (lv_room hroom) hdg hcs) hS hP kk
/-- what a call of a static method with handlers needs -/
def lk_CB (R : Room) (s : State) (args : Array Value) (own : String) (index : Nat) (y : MethodName) (bytes : ByteArray) (maxL : Nat) (ret : Option FieldType) (hh : List (Nat × Nat × Nat × Nat)) (ws : List Cond) (rm : Room) (mc ms n : Nat) : Prop :=
  rm.cells = mc ∧ rm.slots = ms ∧ rm.frames + 1 ≤ R.frames ∧ 8 + (maxL + 11) + rm.locals ≤ R.locals ∧ (∀ w ∈ ws, ∀ (a' : Array Value) (U : State), s.WarmedH U.vm → w.before a' U = true) ∧ Cond.codeWith y bytes maxL ret hh ∈ ws ∧
  (Cond.codeWith y bytes maxL ret hh).before args s = true ∧ (Cond.initialized y.cls).before args s = true ∧ (y.cls ≠ "java/lang/invoke/MethodHandle" ∧ y.cls ≠ "java/lang/invoke/VarHandle") ∧ (∀ sig, parseMethodDescriptor y.desc = some sig → n = sig.parameters.length) ∧ (Cond.methodLink own index y).before args s = true ∧ (Cond.static y).before args s = true
theorem lk_runS {hh : List (Nat × Nat × Nat × Nat)} {Pc : Array Value → State → Prop} {Qc : Array Value → State → Outcome → State → Prop} {free : Addr → Prop} {Ts : List Cond} (S : CallFix p m c cc nL s args Ts own) (hM : Met l y wy rm Pc Qc mc ms free) (cw : lk_CB R s args own index y bytes maxL ret hh wy rm mc ms n) (hp : PreS s H Pc As)
    (hn : As.length = n) (hsize : ls.size = nL) (hstack : st0 = As.reverse ++ rest) (hW : (rest.map fun v => v.category).sum ≤ 8) (hdg : decode cc pc = .ok (.invokestatic index, 3)) (hf : cells + mc ≤ R.cells ∧ slots + ms ≤ R.slots) :
    va_Run p l e R s m args below meth c H locs cells slots mc ms (F0 m pc ls st0) rest (Qc As.toArray) free := by
  obtain ⟨c1, c2, c3, c4, c5, c6, hcode, hini, hy, hlen, hl, hstt⟩ := cw
  have hK : Back l R p e below s args y 3 8 (PreOf R mc ms Pc) (PostOf Qc mc ms free) := va_backW (hh := hh) (bytes := bytes) (maxL := maxL) (ret := ret) hM hp.1 c1 c2 c3 c4 c5 c6 (fun a' U hW => word_at hW (Or.inl (by first | rfl | simp [Cond.onTables, Cond.keeps, Cond.steady])) hini)
  obtain ⟨hx, hb, hml, ho, -⟩ := S
  intro T hT X
  obtain ⟨mk, methM, cM, hnamed, hmethM, -, -, -, -, -, -, hsigM⟩ := Cond.codeWith_spec hcode
  have hstatic : methM.isStatic = true := Cond.static_spec hnamed hmethM hstt
  obtain ⟨kP, hkP, -⟩ := className_of_methodNamed hnamed
  have hinitP : kP.init = .initialized := Cond.initialized_spec (findClass_of_methodNamed hnamed) hkP hini
  obtain ⟨vm₁, X₁, hstep₁⟩ := X.invokestatic hx ho hl hnamed hmethM hstatic hkP hinitP hy (g := F0 m pc ls st0) rfl (argsL := As) (rest := rest) (hn.trans (hlen _ hsigM)) hstack (by rw [hb]; exact hdg)
  obtain ⟨v, ⟨U', l2, c2', s2⟩, X', ⟨g', mk', t, L, e1, e2, hq, h1, hL, h2, h3⟩, hsteps⟩ := hK m meth c ⟨T.setVm vm₁, locs, cells, slots⟩ { F0 m pc ls st0 with stack := rest } (.invokestatic index) mk As.toArray X₁ rfl (hsize.trans hml.symm) (by rw [hb]; exact hdg) (lv_room hW) (X₁.named hnamed) ⟨hf.1, hf.2, hp.2 (T.setVm vm₁) hT X₁.warmed⟩
  dsimp only [Pt.U, Pt.locs, Pt.cells, Pt.slots] at X' e1 e2 h1 h2 h3 hsteps
  subst h1; subst h2; subst h3
  exact ⟨v, (T.setVm vm₁).calling g' mk' As.toArray, t, U', L, hT, X', hL, e1, e2, hq, fun target h => hstep₁ _ fun acts => by rw [doInvoke_state]; exact hsteps.trans h⟩
end LK
