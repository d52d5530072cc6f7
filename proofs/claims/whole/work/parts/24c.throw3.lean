/-! Preconditions of methods that throw. -/
def tq_rX (D : va_G) (cl : List vw_C) (ws : va_W) (tys : List (ClassId × FieldType)) (U : State) : Prop := va_P D cl ws U.heap ∧ va_K D cl tys U ∧ tq_X U
theorem tq_rX_blind {D : va_G} {cl : List vw_C} {ws : va_W} {tys : List (ClassId × FieldType)} {av : List Value} : FrameBlind (va_Pc av (tq_rX D cl ws tys)) :=
  fun a U g mk q => ⟨q.1, q.2.1, va_K.moved (u := U) (U := U.calling g mk a) (Vm.Alike.refl U.vm) q.2.2.1, q.2.2.2⟩
theorem tq_X_blind {av : List Value} : FrameBlind (va_Pc av tq_X) := fun a U g mk q => ⟨q.1, q.2⟩
theorem tq_X.at {s U : State} {H : Heap} {locs : List Loc} {A : Nat → Prop} (h : tq_X s) (hS : va_S A s.heap H locs) (hA : ∀ q : Nat, q < s.heap.size → ¬ A q) (hU : U.heap = H) (hW : s.WarmedH U.vm) : tq_X U :=
  h.mv hW (fun q cl z => by
    have hq : q < s.heap.size := (Array.getElem?_eq_some_iff.mp z).1
    rw [hU, hS.2.1 q hq (hA q hq)]
    exact z)
theorem tq_in2 {x : Int32} {M : Nat} (h0 : ¬ x < 0) (h : x < nI M) (hM : M < 2 ^ 31) : ∃ k, k < M ∧ x = nI k := tq_in h0 (fun z => by rw [Int32.lt_iff_toInt_lt] at h; rw [Int32.le_iff_toInt_le] at z; omega) hM
section KT
variable {p : Program} {l : Launch} {e : Env} {R : Room} {s : State} {m : MethodId} {args : Array Value} {below : List Frame} {meth : Method} {c : Code} {H : Heap} {locs : List Loc} {cells slots : Nat} {Q : State → Prop}
variable {cc bytes : ByteArray} {pc nL index maxL n mc ms : Nat} {ret : Option FieldType} {wy : List Cond} {rm : Room} {y : MethodName} {ls : Array Slot} {rest st0 As : List Value} {D : va_G} {tys : List (ClassId × FieldType)} {ws : va_W} {own C : String} {b : Nat}
theorem kt_V (S : CallFix p m c cc nL s args wA own) (hM : tq_MetT l y wy rm (va_Pc (.ref b :: As) (tq_rX D vwA ws tys)) tq_thr mc ms (fun _ => False)) (cw : CallW R s args own C index y bytes maxL ret wy rm mc ms n) (hK : va_K D vwA tys s) (hP : va_P D vwA ws H) (hX : tq_X s) (hS : va_S (fun _ => False) s.heap H locs)
    (i ci : Nat) {fs : List Value} {T : u_T} {N : Nat} (hi : ws[i]? = some (b, .inr (ci, fs))) (hc : vwA[ci]? = some (C, T, N)) (hn : As.length = n) (hls : ls.size = nL) (hroom : (rest.map fun v => v.category).sum ≤ 8) (hcs : cells + mc ≤ R.cells ∧ slots + ms ≤ R.slots) (hdg : decode cc pc = .ok (.invokevirtual index, 3)) (hst : st0 = As.reverse ++ .ref b :: rest)
    (hlocks : meth.locks = false) (hout : ∀ y ∈ c.exceptionTable.toList, covers y pc = false) : W p l e R s m args below meth c H locs cells slots (tq_MQT below tq_thr args s (cells + mc) (slots + ms) (fun _ => False)) (F0 m pc ls st0) :=
  tq_thrown (tq_runVT (As := As) (rest := rest) S hM cw ⟨tq_rX_blind, va_recv hK hP (q := (C, T, N)) hc hi, fun U hU hW => ⟨rfl, by rw [hU]; exact hP, va_K.moved hW.alike hK, hX.at hS (fun _ _ z => z) hU hW⟩⟩ rfl hn hls hst (lv_room hroom) hdg hcs) hS hlocks hout
theorem kt_S (S : CallFix p m c cc nL s args wA own) (hM : tq_MetT l y wy rm (va_Pc As tq_X) tq_thr mc ms (fun _ => False)) (cw : CallB R s args own index y bytes maxL ret wy rm mc ms n ∧ (Cond.static y).before args s = true) (hX : tq_X s) (hS : va_S (fun _ => False) s.heap H locs)
    (hn : As.length = n) (hls : ls.size = nL) (hroom : (rest.map fun v => v.category).sum ≤ 8) (hcs : cells + mc ≤ R.cells ∧ slots + ms ≤ R.slots) (hdg : decode cc pc = .ok (.invokestatic index, 3)) (hst : st0 = As.reverse ++ rest)
    (hlocks : meth.locks = false) (hout : ∀ y ∈ c.exceptionTable.toList, covers y pc = false) : W p l e R s m args below meth c H locs cells slots (tq_MQT below tq_thr args s (cells + mc) (slots + ms) (fun _ => False)) (F0 m pc ls st0) :=
  tq_thrown (tq_runST (As := As) (rest := rest) S hM cw ⟨tq_X_blind, fun U hU hW => ⟨rfl, hX.at hS (fun _ _ z => z) hU hW⟩⟩ rfl hn hls hst (lv_room hroom) hdg hcs) hS hlocks hout
/-- .. into the caller's handler, out of a world -/
theorem kt_C {A : Nat → Prop} {H0 : Heap} {hpc k : Nat} (S : CallFix p m c cc nL s args wA own) (hM : tq_MetT l y wy rm (va_Pc (.ref b :: As) (tq_rX D vwA ws tys)) tq_thr mc ms (fun _ => False)) (cw : CallW R s args own C index y bytes maxL ret wy rm mc ms n) (hK : va_K D vwA tys s) (hP : va_P D vwA ws H) (hX : ∀ U : State, U.heap = H → s.WarmedH U.vm → tq_X U) (hS : va_S A H0 H locs)
    (i ci : Nat) {fs : List Value} {T : u_T} {N : Nat} (hi : ws[i]? = some (b, .inr (ci, fs))) (hc : vwA[ci]? = some (C, T, N)) (hn : As.length = n) (hls : ls.size = nL) (hroom : (rest.map fun v => v.category).sum ≤ 8) (hcs : cells + mc ≤ R.cells ∧ slots + ms ≤ R.slots) (hdg : decode cc pc = .ok (.invokevirtual index, 3)) (hst : st0 = As.reverse ++ .ref b :: rest)
    {x : ExceptionTableEntry} {r : List ExceptionTableEntry} (hsplit : c.exceptionTable.toList = x :: r) (hx : covers x pc = true) (h0 : x.catchType = k) (hk : k ≠ 0) (hpc1 : x.handlerPc = hpc) (hlink : (Cond.classLink own k xIO).before args s = true)
    (kk : ∀ (a1 : Addr) (H1 : Heap) (locs1 : List Loc), va_P D vwA ws H1 → (∀ q : Nat, q < H.size → H1[q]? = H[q]?) → va_S A H0 H1 locs1 → W p l e R s m args below meth c H1 locs1 (cells + mc) (slots + ms) Q (F0 m hpc ls [.ref a1])) : W p l e R s m args below meth c H locs cells slots Q (F0 m pc ls st0) :=
  tq_caught (tq_runVT (As := As) (rest := rest) S hM cw ⟨tq_rX_blind, va_recv hK hP (q := (C, T, N)) hc hi, fun U hU hW => ⟨rfl, by rw [hU]; exact hP, va_K.moved hW.alike hK, hX U hU hW⟩⟩ rfl hn hls hst (lv_room hroom) hdg hcs) hS S.2.2.2.1 hsplit hx h0 hk hpc1 hlink
    (fun a1 H1 locs1 _ hk1 hS1 => kk a1 H1 locs1 (hP.kept (fun k q hq => hk1 q.1 (hP k q hq).lt)) hk1 hS1)
end KT
