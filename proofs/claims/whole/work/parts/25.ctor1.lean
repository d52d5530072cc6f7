/-! Rows of constructors: arrays of a known class, a constructor called on a part of the world. -/
theorem bw_no (wp j : Nat) : bw wp (fun _ _ => false) j = 0 := tm_w_0
theorem tq_haJ (k : ClassId) (N wp : Nat) : vp_cell k (N, .inr (.inl (bw wp (fun _ _ => false)))) = arrV k N (fun _ => defaultValue .long) := by
  show arrV k N (fun j => .long (bw wp (fun _ _ => false) j)) = _
  congr 1
  funext j
  rw [bw_no]
  rfl
def tq_nB (D : va_G) (wc : va_W) (tys : List (ClassId × FieldType)) (sz : Nat) (U : State) : Prop := U.heap.size = sz ∧ va_P D vwA wc U.heap ∧ va_K D vwA tys U ∧ va_D (fun _ => True) wc
theorem tq_nB_blind {D : va_G} {wc : va_W} {tys : List (ClassId × FieldType)} {sz : Nat} {av : List Value} : FrameBlind (va_Pc av (tq_nB D wc tys sz)) :=
  fun a U g mk q => ⟨q.1, q.2.1, q.2.2.1, va_K.moved (u := U) (U := U.calling g mk a) (Vm.Alike.refl U.vm) q.2.2.2.1, q.2.2.2.2⟩
section KI
variable {p : Program} {l : Launch} {e : Env} {R : Room} {s : State} {m : MethodId} {args : Array Value} {below : List Frame} {meth : Method} {c : Code} {H : Heap} {locs : List Loc} {cells slots : Nat} {Q : State → Prop}
variable {cc bytes : ByteArray} {pc nL index maxL n mc ms : Nat} {ret : Option FieldType} {wy : List Cond} {rm : Room} {y : MethodName} {ls : Array Slot} {rest st0 As : List Value} {D : va_G} {A : Nat → Prop} {tys : List (ClassId × FieldType)} {ws wc wr : va_W} {H0 : Heap} {own C : String} {b : Nat}
theorem tq_newa (hexec : p.tables.exec = Jvm.exec) (hb : c.code = cc) {atype : ArrayType} (harr : (Cond.arrayClass (newarray.typeOf atype)).before args s = true) {ty : FieldType} (hty : newarray.typeOf atype = ty) (hP : va_P D vwA ws H) (hD : va_D A ws) (hS : va_S A H0 H locs) (hA : ∀ q, H0.size ≤ q → A q)
    {k : ClassId} (hk0 : s.vm.findClass ("[" ++ ty.toString) = some k) {v : Int32} {N' : Nat} {a0 : vp_A} (ha : vp_cell k a0 = arrV k N' (fun _ => defaultValue ty)) (hn : ¬ v < 0) (hN : v.toNatClampNeg = N') (hbytes : N' * componentBytes ty ≤ 536870912) (hcells : cells + 1 ≤ R.cells) (hslots : slots + N' ≤ R.slots) (hdg : decode cc pc = .ok (.newarray atype, 2))
    (kk : ∀ (q : Nat) (H1 : Heap), va_P D vwA (ws ++ [(q, .inl (k, a0))]) H1 → va_D A (ws ++ [(q, .inl (k, a0))]) → va_S A H0 H1 locs →
      W p l e R s m args below meth c H1 locs (cells + 1) (slots + N') Q (F0 m (pc + 2) ls (.ref q :: rest))) : W p l e R s m args below meth c H locs cells slots Q (F0 m pc ls (.int v :: rest)) := by
  subst hty
  refine va_newaK hexec hb harr rfl hdg rfl hn hN hbytes hcells hslots rfl fun H1 cA e1 z1 o1 hAr hNm => ?_
  cases hNm.symm.trans hk0
  have hk : ∀ (k : Nat) (x : Nat × va_E), ws[k]? = some x → H1[x.1]? = H[x.1]? := fun k x hx => o1 x.1 ((hP k x hx).lt)
  refine kk H.size H1 ((hP.kept hk).app (fun k x hx => ?_)) (hD.push hP rfl (hA _ hS.1)) ⟨Nat.le_trans hS.1 (by omega), fun x h1 h2 => (o1 x (Nat.lt_of_lt_of_le h1 hS.1)).trans (hS.2.1 x h1 h2), hS.2.2⟩
  have hz : k < 1 := (List.getElem?_eq_some_iff.mp hx).1
  rw [show k = 0 by omega] at hx
  cases hx
  show H1[H.size]? = some (vp_cell _ _)
  rw [ha]
  exact e1
theorem kc_I {Z : Type} {wo : Z → va_W} (S : CallFix p m c cc nL s args wA own) (hM : Met l y wy rm (va_Pc (.ref b :: As) (tq_nB D wc tys H.size)) (va_Qv (fun (_ : Z) => True) (fun z t => va_P D vwA (wo z) t.heap ∧ va_D (va_A wc H.size) (wo z)) (va_A wc H.size)) mc ms (va_A wc H.size)) (cw : CallB R s args own index y bytes maxL none wy rm mc ms n ∧ y.name = "<init>" ∧ (Cond.instanceMethod y).before args s = true) (hK : va_K D vwA tys s) (hP : va_P D vwA ws H) (hD : va_D A ws) (hS : va_S A H0 H locs) (hA : ∀ q, H0.size ≤ q → A q)
    (isC isR : List Nat) (hC : isC.map (fun i => ws[i]?) = wc.map some) (hC2 : isC.filterMap (fun i => ws[i]?) = wc) (hR : isR.map (fun i => ws[i]?) = wr.map some) (hnC : va_nd isC = true) (hnd : va_nd isR = true) (hdis : ∀ i ∈ isR, i ∉ isC) (hn : As.length = n) (hls : ls.size = nL) (hroom : (rest.map fun v => v.category).sum ≤ 8) (hcs : cells + mc ≤ R.cells ∧ slots + ms ≤ R.slots) (hdg : decode cc pc = .ok (.invokespecial index, 3)) (hst : st0 = As.reverse ++ .ref b :: rest)
    (kk : ∀ (z : Z) (H1 : Heap) (locs1 : List Loc), va_P D vwA (wr ++ wo z) H1 → va_D A (wr ++ wo z) → va_S A H0 H1 locs1 → W p l e R s m args below meth c H1 locs1 (cells + mc) (slots + ms) Q (F0 m (pc + 3) ls rest)) : W p l e R s m args below meth c H locs cells slots Q (F0 m pc ls st0) := by
  have hPc := hP.sub (ws' := wc) isC hC2
  have hDc := hD.sub (ws' := wc) isC hnC hC
  have hFc := va_free (wc := wc) hD hS hA isC hC
  exact va_callv (va_runI (As := As) (rest := rest) S hM cw ⟨tq_nB_blind, fun U hU hW => ⟨rfl, by rw [hU], by rw [hU]; exact hPc, va_K.moved hW.alike hK, hDc.weaken (fun _ _ _ _ => trivial)⟩⟩ rfl hn hls hst (lv_room hroom) hdg hcs) hS (fun q _ h => hFc q h) hFc (fun z t H1 locs1 ht _ _ hB _ hk1 hS1 => by
    obtain ⟨hP1, hD1⟩ := hB
    rw [ht] at hP1
    obtain ⟨hP2, hD2⟩ := va_join hP hD isC isR hC hR hnd hdis hk1 hFc hP1 hD1
    exact kk z H1 locs1 hP2 hD2 hS1)
theorem kc_S {Z : Type} {wo : Z → va_W} (S : CallFix p m c cc nL s args wA own) (hM : Met l y wy rm (va_Pc As (tq_nB D wc tys H.size)) (va_Qv (fun (_ : Z) => True) (fun z t => va_P D vwA (wo z) t.heap ∧ va_D (va_A wc H.size) (wo z)) (va_A wc H.size)) mc ms (va_A wc H.size)) (cw : CallB R s args own index y bytes maxL ret wy rm mc ms n ∧ (Cond.static y).before args s = true) (hK : va_K D vwA tys s) (hP : va_P D vwA ws H) (hD : va_D A ws) (hS : va_S A H0 H locs) (hA : ∀ q, H0.size ≤ q → A q)
    (isC isR : List Nat) (hC : isC.map (fun i => ws[i]?) = wc.map some) (hC2 : isC.filterMap (fun i => ws[i]?) = wc) (hR : isR.map (fun i => ws[i]?) = wr.map some) (hnC : va_nd isC = true) (hnd : va_nd isR = true) (hdis : ∀ i ∈ isR, i ∉ isC) (hn : As.length = n) (hls : ls.size = nL) (hroom : (rest.map fun v => v.category).sum ≤ 8) (hcs : cells + mc ≤ R.cells ∧ slots + ms ≤ R.slots) (hdg : decode cc pc = .ok (.invokestatic index, 3)) (hst : st0 = As.reverse ++ rest)
    (kk : ∀ (z : Z) (H1 : Heap) (locs1 : List Loc), va_P D vwA (wr ++ wo z) H1 → va_D A (wr ++ wo z) → va_S A H0 H1 locs1 → W p l e R s m args below meth c H1 locs1 (cells + mc) (slots + ms) Q (F0 m (pc + 3) ls rest)) : W p l e R s m args below meth c H locs cells slots Q (F0 m pc ls st0) := by
  have hPc := hP.sub (ws' := wc) isC hC2
  have hDc := hD.sub (ws' := wc) isC hnC hC
  have hFc := va_free (wc := wc) hD hS hA isC hC
  exact va_callv (va_runS (As := As) (rest := rest) S hM cw ⟨tq_nB_blind, fun U hU hW => ⟨rfl, by rw [hU], by rw [hU]; exact hPc, va_K.moved hW.alike hK, hDc.weaken (fun _ _ _ _ => trivial)⟩⟩ rfl hn hls hst (lv_room hroom) hdg hcs) hS (fun q _ h => hFc q h) hFc (fun z t H1 locs1 ht _ _ hB _ hk1 hS1 => by
    obtain ⟨hP1, hD1⟩ := hB
    rw [ht] at hP1
    obtain ⟨hP2, hD2⟩ := va_join hP hD isC isR hC hR hnd hdis hk1 hFc hP1 hD1
    exact kk z H1 locs1 hP2 hD2 hS1)
end KI
theorem moi_S : Cond.methodLink RcS 1 objectInit ∈ wA := wA_m (by decide +kernel) rfl
theorem moi_T : Cond.methodLink RcT 3 objectInit ∈ wA := wA_m (by decide +kernel) rfl
theorem moi_A : Cond.methodLink RcA 3 objectInit ∈ wA := wA_m (by decide +kernel) rfl
theorem moi_B : Cond.methodLink RcB 1 objectInit ∈ wA := wA_m (by decide +kernel) rfl
theorem moi_C : Cond.methodLink RcC 5 objectInit ∈ wA := wA_m (by decide +kernel) rfl
theorem moi_M : Cond.methodLink RcM 1 objectInit ∈ wA := wA_m (by decide +kernel) rfl
theorem moi_i : Cond.instanceMethod objectInit ∈ wA := wA_m (by decide +kernel) rfl
theorem moi_c : Cond.code objectInit ⟨#[0xb1]⟩ 1 none ∈ wA := wA_m (by decide +kernel) rfl
