/-! THE CLAIM OUT OF ONE WALK OF THE LAW'S BODY. Your part is whole_start (and what it stands on); all else here is the same for every law, but numbers. -/
def R_law : String := "TermServerLaw"
def lw_P (b : Addr) (xs : List Int32) (args : Array Value) (s : State) : Prop := args = #[.ref b] ∧ s.IntsAt b xs ∧ xs.length ≤ 2048 ∧ (Jvm.Cond.and given_1 narrow_1).before args s = true
def lw_Q (_ : Array Value) (s : State) (o : Outcome) (t : State) : Prop := o = .returned (some (.int 1)) ∧ Framed s o t [] 601024 7293033
def lw_Z (below : List Frame) (a : Array Value) (s : State) : State → Prop := fun t => ∃ o, t.status = .running ∧ Ended t below o ∧ lw_Q a s o t
/-- the law's own end, with 1 on the stack, nothing written that was there before, its room as the claim has it -/
theorem lw_ret {p : Program} {l : Launch} {e : Env} {s : State} {m : MethodId} {below : List Frame} {meth : Method} {c : Code} {b : Nat} (hx : p.tables.exec = Jvm.exec) (hb : c.code = code) (hr : meth.sig.returnType = ret) (hlocks : meth.locks = false) {pc : Nat} {H : Heap} {ls : Array Slot} (hdg : decode code pc = .ok (.ireturn, 1)) : W p l e room_1 s m #[Value.ref b] below meth c H [] 601024 7293033 (lw_Z below #[Value.ref b] s) (F0 m pc ls [.int 1]) := by
  intro T hT X
  obtain ⟨fs, hret, hrun, hended, hW, hframe⟩ := X.leave (v := some (.int 1)) (hlocks := hlocks) (fun h => by rw [hr] at h; cases h)
  have hmeth' : T.vm.method? m = some meth := X.method'
  refine ⟨T.setFrames fs, ?_, .returned (some (.int 1)), hrun, hended, rfl, ⟨_, rfl⟩, hW, hframe⟩
  jvm_step X.here [X.here.top, hx, hb, hdg, hmeth', hr, ret, narrow_b1]
  (try refine ⟨rfl, ?_⟩); (try refine ⟨rfl, ?_⟩)
  first | (intro acts; rw [hret _ acts rfl rfl rfl]) | rw [hret _ _ rfl rfl rfl]
  exact Steps.refl _
/-- what holds at the law's entry: the machine, the code, the tables' words (any of lw_tbl by 'hts w (by decide +kernel)'), the script of L ints xs at the cell b, what the Statement gives of the start (any of its parts by flat_of_before) -/
def lw_At (p : Program) (s : State) (m : MethodId) (meth : Method) (c : Code) (b L : Nat) (xs : Nat → Int32) : Prop :=
  p.tables.exec = Jvm.exec ∧ c.code = code ∧ meth.sig.returnType = ret ∧ c.maxLocals = 7 ∧ s.vm.findClass R_law = some m.cls ∧ (∀ w ∈ lw_tbl, w.before #[Value.ref b] s = true) ∧ va_X b L xs s s.heap ∧ b < s.heap.size ∧ meth.locks = false ∧ (Jvm.Cond.and given_1 narrow_1).before #[Value.ref b] s = true
/-! The law's loop and its start. Written by wip/whole/gen/genL3.py. -/
theorem law_lim {L i : Nat} (hL : L ≤ 2048) (hi : i ≤ 4096) (h : ¬ nI L - nI 4 < nI i) : i + 4 ≤ L := by
  by_cases c : 4 ≤ L
  · rw [pk_sub c, Int32.lt_iff_toInt_lt, nI_toInt (by omega), nI_toInt (by omega)] at h
    omega
  · refine absurd ?_ h
    have k : ∀ L, L < 4 → (nI L - nI 4).toInt < 0 := by decide +kernel
    have := k L (by omega)
    rw [Int32.lt_iff_toInt_lt, nI_toInt (show i < 2 ^ 31 by omega)]
    omega
/-- a constructor, on the last part of a world -/
theorem kp_I {p : Program} {l : Launch} {e : Env} {R : Room} {s : State} {m : MethodId} {args : Array Value} {below : List Frame} {meth : Method} {c : Code} {H : Heap} {locs : List Loc} {cells slots : Nat} {Q : State → Prop} {cc bytes : ByteArray} {pc nL index maxL n mc ms : Nat} {wy : List Cond} {rm : Room} {y : MethodName} {ls : Array Slot} {rest st0 As : List Value} {D : va_G} {A : Nat → Prop} {tys : List (ClassId × FieldType)} {X wc : va_W} {H0 : Heap} {own : String} {b : Nat}
    {Z : Type} {wo : Z → va_W} (S : CallFix p m c cc nL s args wA own) (hM : Met l y wy rm (va_Pc (.ref b :: As) (tq_nB D wc tys H.size)) (va_Qv (fun (_ : Z) => True) (fun z t => va_P D vwA (wo z) t.heap ∧ va_D (va_A wc H.size) (wo z)) (va_A wc H.size)) mc ms (va_A wc H.size)) (cw : CallB R s args own index y bytes maxL none wy rm mc ms n ∧ y.name = "<init>" ∧ (Cond.instanceMethod y).before args s = true) (hK : va_K D vwA tys s) (hP : va_P D vwA (X ++ wc) H) (hD : va_D A (X ++ wc)) (hS : va_S A H0 H locs) (hA : ∀ q, H0.size ≤ q → A q)
    (hn : As.length = n) (hls : ls.size = nL) (hroom : (rest.map fun v => v.category).sum ≤ 8) (hcs : cells + mc ≤ R.cells ∧ slots + ms ≤ R.slots) (hdg : decode cc pc = .ok (.invokespecial index, 3)) (hst : st0 = As.reverse ++ .ref b :: rest)
    (kk : ∀ (z : Z) (H1 : Heap) (locs1 : List Loc), va_P D vwA (X ++ wo z) H1 → va_D A (X ++ wo z) → va_S A H0 H1 locs1 → W p l e R s m args below meth c H1 locs1 (cells + mc) (slots + ms) Q (F0 m (pc + 3) ls rest)) : W p l e R s m args below meth c H locs cells slots Q (F0 m pc ls st0) := by
  have hPc := pa_r hP
  have hDc := da_r hD
  have hFc : ∀ q, va_A wc H.size q → A q := fun q z => z.elim (fun ⟨k, e', hk⟩ => hDc.2 k (q, e') hk) (fun z => hA q (Nat.le_trans hS.1 z))
  have hno : ∀ (k : Nat) (q : Nat × va_E), X[k]? = some q → q.1 < H.size ∧ ¬ va_A wc H.size q.1 := fun k q hq => by
    have hlt := (pa_l hP k q hq).lt
    refine ⟨hlt, fun z => z.elim (fun ⟨j, e', hj⟩ => da_x hD k j q (q.1, e') hq hj rfl) (fun z => by omega)⟩
  exact va_callv (va_runI (As := As) (rest := rest) S hM cw ⟨tq_nB_blind, fun U hU hW => ⟨rfl, by rw [hU], by rw [hU]; exact hPc, va_K.moved hW.alike hK, hDc.weaken (fun _ _ _ _ => trivial)⟩⟩ rfl hn hls hst (lv_room hroom) hdg hcs) hS (fun q _ h => hFc q h) hFc (fun z t H1 locs1 ht _ _ hB _ hk1 hS1 => by
    obtain ⟨hP1, hD1⟩ := hB
    rw [ht] at hP1
    refine kk z H1 locs1 (va_P.app ((pa_l hP).kept (fun k q hq => hk1 q.1 (hno k q hq).1 (hno k q hq).2)) hP1) (va_D.app (da_l hD) (hD1.weaken (fun k q _ h => hFc q.1 h)) (fun i j p q hp hq e' => ?_)) hS1
    exact (hno i p hp).2 (by rw [e']; exact hD1.2 j q hq))
set_option maxHeartbeats 4000000 in
set_option maxRecDepth 100000 in
theorem lw_loop {p : Program} {l : Launch} {e : Env} {s : State} {m : MethodId} {below : List Frame} {meth : Method} {c : Code} {b0 L : Nat} {xs : Nat → Int32} {D : va_G} {kI kL kZ : ClassId} {a b : Nat → Nat} {o : Nat} (h0 : lw_C p l room_1 s m #[Value.ref b0] c b0 L xs D kI kL kZ) (hL : L ≤ 2048) (hr : meth.sig.returnType = ret) (hlocks : meth.locks = false) : ∀ (fu ix : Nat) (u v : sU) (f : Nat → Int64) (H : Heap) (locs : List Loc) (ls : Array Slot), lw_J u v → va_P D vwA (lW a o b kI kL kZ u f v) H → va_D (fun q => s.heap.size ≤ q) (lW a o b kI kL kZ u f v) → va_S (fun q => s.heap.size ≤ q) s.heap H locs → lv_has ls 7 [(0, .ref b0), (1, .ref (a 0)), (2, .ref (b 0)), (3, .ref o), (4, .int (nI ix))] → ix ≤ 2052 → 2052 - ix < fu → W p l e room_1 s m #[Value.ref b0] below meth c H locs (100 + ix) (20000 + 6 * ix) (lw_Z below #[Value.ref b0] s) (F0 m 23 ls []) := by
  have h0c := h0
  obtain ⟨hx, hb, hml, hown, hA, hXs, hbl, hK, hXX, hl0, hRf, hRl⟩ := h0c
  have hbA : ¬ s.heap.size ≤ b0 := by omega
  have hRc : room_1.cells = 601024 := rfl
  have hRs : room_1.slots = 7293033 := rfl
  intro fu
  induction fu with
  | zero => intros; omega
  | succ fu ih =>
    intro ix u v f H locs ls hJ hP hD hS hl h1 hfu
    refine lv_iload hx hb dL_law_23 (lv_at hl 4 rfl) ?_
    refine lv_aload_n hx hb dL_law_25 rfl (lv_at hl 0 rfl) ?_
    refine va_slen hx hb hXs hbl hbA hS dL_law_26 ?_
    refine tq_i (show Int32.ofNat L = nI L from rfl) ?_
    refine lv_iconst (v := nI 4) hx hb dL_law_27 (by decide +kernel) ?_
    refine lv_isub hx hb dL_law_28 ?_
    refine lv_icmp_gt hx hb dL_law_29 (tgt := 1203) (by decide) (fun h29 => ?_) (fun h29 => ?_)
    · refine lv_iconst (v := nI 1) hx hb dL_law_1203 (by decide +kernel) ?_
      refine tq_i (show nI 1 = 1 from rfl) ?_
      refine va_forget (fun q hq => hS.2.2 q hq) ?_
      refine W.widen (k := 601024) (n := 7293033) (by omega) (by omega) ?_
      exact lw_ret hx hb hr hlocks dL_law_1204
    · have hix : ix + 4 ≤ L := law_lim hL (by omega) h29
      have kk : ∀ (u v : sU) (f : Nat → Int64) (H : Heap) (locs : List Loc) (ls : Array Slot), lw_J u v → va_P D vwA (lW a o b kI kL kZ u f v) H → va_D (fun q => s.heap.size ≤ q) (lW a o b kI kL kZ u f v) → va_S (fun q => s.heap.size ≤ q) s.heap H locs → lv_has ls 7 [(0, .ref b0), (1, .ref (a 0)), (2, .ref (b 0)), (3, .ref o), (4, .int (nI ix))] → W p l e room_1 s m #[Value.ref b0] below meth c H locs (100 + ix + 1) (20000 + 6 * ix + 6) (lw_Z below #[Value.ref b0] s) (F0 m 1197 ls []) := by
        intro u v f H locs ls hJ hP hD hS hl
        refine lv_iinc (k := 4) (lv' := [(4, .int (nI (ix + 4))), (0, .ref b0), (1, .ref (a 0)), (2, .ref (b 0)), (3, .ref o)]) hx hb dL_law_1197 hl rfl (nI_add _ _) (by decide) rfl (fun ls hl => ?_)
        refine lv_goto hx hb dL_law_1200 (tgt := 23) (by decide) ?_
        refine W.widen (k := 100 + (ix + 4)) (n := 20000 + 6 * (ix + 4)) (by omega) (by omega) ?_
        exact ih (ix + 4) u v f H locs ls hJ hP hD hS (lv_sub hl [1, 2, 3, 4, 0] rfl) (by omega) (by omega)
      have hcs : 100 + ix + 1 ≤ room_1.cells ∧ 20000 + 6 * ix + 6 ≤ room_1.slots := ⟨by omega, by omega⟩
      refine lv_aload_n hx hb dL_law_32 rfl (lv_at hl 0 rfl) ?_
      refine lv_iload hx hb dL_law_33 (lv_at hl 4 rfl) ?_
      refine va_sld hx hb hXs hbl hbA hS (vp_in_nI (by omega) (by omega)) dL_law_35 ?_
      refine lv_bipush (v := nI 31) hx hb dL_law_36 (by decide +kernel) ?_
      refine lv_iand hx hb dL_law_38 ?_
      generalize xs (nI ix).toNatClampNeg &&& nI 31 = y9
      by_cases c0 : y9.toInt < 0 ∨ 17 < y9.toInt
      · refine lv_tableOut hx hb dL_law_39 (tgt := 1197) c0 (by decide) ?_
        refine W.widen (k := 100 + ix + 1) (n := 20000 + 6 * ix + 6) (by omega) (by omega) ?_
        exact kk u v f H locs ls hJ hP hD hS hl
      · obtain ⟨q, hq, hy⟩ : ∃ q, q < 18 ∧ y9 = nI q := ⟨y9.toInt.toNat, by omega, Int32.toInt_inj.mp (by rw [nI_toInt (by omega)]; omega)⟩
        refine tq_i hy ?_
        match q, hq with
        | 0, _ => exact lv_tableIn hx hb dL_law_39 (off := 85) (tgt := 124) (by decide +kernel) (by decide +kernel) (by decide +kernel) (by decide) (lc_0 h0 hix hL hJ hP hD hS hl hcs kk)
        | 1, _ => exact lv_tableIn hx hb dL_law_39 (off := 98) (tgt := 137) (by decide +kernel) (by decide +kernel) (by decide +kernel) (by decide) (lc_1 h0 hix hL hJ hP hD hS hl hcs kk)
        | 2, _ => exact lv_tableIn hx hb dL_law_39 (off := 166) (tgt := 205) (by decide +kernel) (by decide +kernel) (by decide +kernel) (by decide) (lc_2 h0 hix hL hJ hP hD hS hl hcs kk)
        | 3, _ => exact lv_tableIn hx hb dL_law_39 (off := 234) (tgt := 273) (by decide +kernel) (by decide +kernel) (by decide +kernel) (by decide) (lc_3 h0 hix hL hJ hP hD hS hl hcs kk)
        | 4, _ => exact lv_tableIn hx hb dL_law_39 (off := 302) (tgt := 341) (by decide +kernel) (by decide +kernel) (by decide +kernel) (by decide) (lc_4 h0 hix hL hJ hP hD hS hl hcs kk)
        | 5, _ => exact lv_tableIn hx hb dL_law_39 (off := 370) (tgt := 409) (by decide +kernel) (by decide +kernel) (by decide +kernel) (by decide) (lc_5 h0 hix hL hJ hP hD hS hl hcs kk)
        | 6, _ => exact lv_tableIn hx hb dL_law_39 (off := 438) (tgt := 477) (by decide +kernel) (by decide +kernel) (by decide +kernel) (by decide) (lc_6 h0 hix hL hJ hP hD hS hl hcs kk)
        | 7, _ => exact lv_tableIn hx hb dL_law_39 (off := 518) (tgt := 557) (by decide +kernel) (by decide +kernel) (by decide +kernel) (by decide) (lc_7 h0 hix hL hJ hP hD hS hl hcs kk)
        | 8, _ => exact lv_tableIn hx hb dL_law_39 (off := 543) (tgt := 582) (by decide +kernel) (by decide +kernel) (by decide +kernel) (by decide) (lc_8 h0 hix hL hJ hP hD hS hl hcs kk)
        | 9, _ => exact lv_tableIn hx hb dL_law_39 (off := 618) (tgt := 657) (by decide +kernel) (by decide +kernel) (by decide +kernel) (by decide) (lc_9 h0 hix hL hJ hP hD hS hl hcs kk)
        | 10, _ => exact lv_tableIn hx hb dL_law_39 (off := 674) (tgt := 713) (by decide +kernel) (by decide +kernel) (by decide +kernel) (by decide) (lc_10 h0 hix hL hJ hP hD hS hl hcs kk)
        | 11, _ => exact lv_tableIn hx hb dL_law_39 (off := 742) (tgt := 781) (by decide +kernel) (by decide +kernel) (by decide +kernel) (by decide) (lc_11 h0 hix hL hJ hP hD hS hl hcs kk)
        | 12, _ => exact lv_tableIn hx hb dL_law_39 (off := 817) (tgt := 856) (by decide +kernel) (by decide +kernel) (by decide +kernel) (by decide) (lc_12 h0 hix hL hJ hP hD hS hl hcs kk)
        | 13, _ => exact lv_tableIn hx hb dL_law_39 (off := 873) (tgt := 912) (by decide +kernel) (by decide +kernel) (by decide +kernel) (by decide) (lc_13 h0 hix hL hJ hP hD hS hl hcs kk)
        | 14, _ => exact lv_tableIn hx hb dL_law_39 (off := 953) (tgt := 992) (by decide +kernel) (by decide +kernel) (by decide +kernel) (by decide) (lc_14 h0 hix hL hJ hP hD hS hl hcs kk)
        | 15, _ => exact lv_tableIn hx hb dL_law_39 (off := 1021) (tgt := 1060) (by decide +kernel) (by decide +kernel) (by decide +kernel) (by decide) (lc_15 h0 hix hL hJ hP hD hS hl hcs kk)
        | 16, _ => exact lv_tableIn hx hb dL_law_39 (off := 1046) (tgt := 1085) (by decide +kernel) (by decide +kernel) (by decide +kernel) (by decide) (lc_16 h0 hix hL hJ hP hD hS hl hcs kk)
        | 17, _ => exact lv_tableIn hx hb dL_law_39 (off := 1133) (tgt := 1172) (by decide +kernel) (by decide +kernel) (by decide +kernel) (by decide) (lc_17 h0 hix hL hJ hP hD hS hl hcs kk)
        | q + 18, hq => omega
theorem xw_args {s : State} {b : Nat} : (∀ w ∈ tq_xL, w.before #[Value.ref b] s = true) → ∀ w ∈ tq_xL, w.before #[] s = true := fun h w hw => by
  have k := h w hw
  simp only [tq_xL, List.mem_cons, List.not_mem_nil, or_false] at hw
  rcases hw with rfl | rfl | rfl | rfl | rfl | rfl | rfl | rfl | rfl | rfl <;> exact k
theorem ord_D {A : Nat → Prop} {X Y Z : va_W} (h : va_D A ((X ++ Y) ++ Z)) : va_D A (X ++ (Z ++ (Y ++ []))) := by
  rw [List.append_nil]
  have hXY := da_l h
  have hx : ∀ (i j : Nat) (p q : Nat × va_E), X[i]? = some p → Z[j]? = some q → p.1 ≠ q.1 := fun i j p q hp hq => da_x h i j p q (by rw [List.getElem?_append_left (List.getElem?_eq_some_iff.mp hp).1]; exact hp) hq
  have hy : ∀ (i j : Nat) (p q : Nat × va_E), Z[i]? = some p → Y[j]? = some q → p.1 ≠ q.1 := fun i j p q hp hq e => da_x h (X.length + j) i q p (by rw [List.getElem?_append_right (Nat.le_add_right _ _), Nat.add_sub_cancel_left]; exact hq) hp e.symm
  refine va_D.app (da_l hXY) (va_D.app (da_r h) (da_r hXY) hy) (fun i j p q hp hq => ?_)
  by_cases c : j < Z.length
  · rw [List.getElem?_append_left c] at hq
    exact hx i j p q hp hq
  · rw [List.getElem?_append_right (by omega)] at hq
    exact da_x hXY i _ p q hp hq
theorem ord_P {D : va_G} {cl : List vw_C} {X Y Z : va_W} {H : Heap} (h : va_P D cl ((X ++ Y) ++ Z) H) : va_P D cl (X ++ (Z ++ (Y ++ []))) H := by
  rw [List.append_nil]
  exact va_P.app (pa_l (pa_l h)) (va_P.app (pa_r h) (pa_r (pa_l h)))
