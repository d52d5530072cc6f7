/-! What the throwing of an IndexOutOfBoundsException asks of the state beside the good words of the tables; the row that throws; a call that throws, out of the caller or into its handler. -/
def xIO : String := "java/lang/IndexOutOfBoundsException"
def upIO : List String := ["java/lang/RuntimeException", "java/lang/Exception"]
def tq_ownA : List Cond := Bundle.ownAtoms RcS 134 xIO upIO
def tq_xL : List Cond := [.declares (Bundle.initS "java/lang/RuntimeException"), .declares (Bundle.initS "java/lang/Exception"), .declares (Bundle.initS Bundle.tN), .castable xIO xIO, .laysStatic Bundle.tN "UNASSIGNED_STACK" Bundle.steD, .laysStatic Bundle.tN "SUPPRESSED_SENTINEL" Bundle.listD,
  .isRef (.static Bundle.tN "UNASSIGNED_STACK" Bundle.steD), .isRef (.static Bundle.tN "SUPPRESSED_SENTINEL" Bundle.listD), .stringRef RcS 132 "no such description", .stringRef RcS 137 "no such role"]
theorem tq_own_in : tq_ownA.all (fun w => (decide (w ∈ lw_tbl) && goodWord w) || decide (w ∈ tq_xL)) = true := by decide +kernel
/-- the state comes from one in which the words hold -/
def tq_X (U : State) : Prop := ∃ U0 : State, (∀ w ∈ tq_xL, w.before #[] U0 = true) ∧ U0.WarmedH U.vm ∧ ∀ (q : Nat) (cl : Cell), U0.heap[q]? = some cl → U.heap[q]? = some cl
theorem tq_X.mv {U V : State} (h : tq_X U) (hW : U.WarmedH V.vm) (hh : ∀ (q : Nat) (cl : Cell), U.heap[q]? = some cl → V.heap[q]? = some cl) : tq_X V := by
  obtain ⟨U0, h1, h2, h3⟩ := h
  exact ⟨U0, h1, State.WarmedH.trans h2 hW, fun q cl z => hh q cl (h3 q cl z)⟩
theorem x_decl {U0 U : State} {x : MethodName} {args : Array Value} (hW : U0.WarmedH U.vm) (h : (Cond.declares x).before #[] U0 = true) : (Cond.declares x).before args U = true := by
  have hal := hW.alike
  have e : U.methodNamed? x = U0.methodNamed? x := State.methodNamed?_setVm (s := U0) hal x
  have hm : U.vm.method? = U0.vm.method? := funext hal.method?
  simp only [Cond.before, Cond.holds, Cond.value] at h ⊢
  rw [e, hm]
  exact h
theorem x_cast {U0 U : State} {x y : String} {args : Array Value} (hW : U0.WarmedH U.vm) (h : (Cond.castable x y).before #[] U0 = true) : (Cond.castable x y).before args U = true := by
  have hal := hW.alike
  simp only [Cond.before, Cond.holds, Cond.value, hal.findClass, hal.assignable] at h ⊢
  exact h
theorem x_str {U0 U : State} {x t : String} {i : Nat} {args : Array Value} (hW : U0.WarmedH U.vm) (h : (Cond.stringRef x i t).before #[] U0 = true) : (Cond.stringRef x i t).before args U = true :=
  (Cond.stringRef_warmed hW h : _)
theorem x_lay {A B : State} {o n d : String} {args : Array Value} (hv : B.vm = A.vm) (hh : ∀ (q : Nat) (cl : Cell), A.heap[q]? = some cl → B.heap[q]? = some cl) (h : (Cond.laysStatic o n d).before #[] A = true) : (Cond.laysStatic o n d).before args B = true := by
  have e : B.fieldFound? o n d = A.fieldFound? o n d := by unfold State.fieldFound?; rw [hv]
  simp only [Cond.before, Cond.holds, Cond.value, hv, e] at h ⊢
  split at h
  · rename_i c' k i f _ _
    cases hs : k.statics with
    | none => rw [hs] at h; simp at h
    | some q =>
      rw [hs] at h
      cases hq : A.heap[q]? with
      | none => simp [hq] at h
      | some cl =>
        simp only [Option.bind_some, hq] at h
        simp only [Option.bind_some, hh q cl hq]
        exact h
  · simp at h
theorem x_ref {A B : State} {o n d : String} {args : Array Value} (hv : B.vm = A.vm) (hh : ∀ (q : Nat) (cl : Cell), A.heap[q]? = some cl → B.heap[q]? = some cl) (h : (Cond.isRef (.static o n d)).before #[] A = true) : (Cond.isRef (.static o n d)).before args B = true := by
  have e0 : B.fieldFound? o n d = A.fieldFound? o n d := by unfold State.fieldFound?; rw [hv]
  have e : B.fieldNamed? o n d true = A.fieldNamed? o n d true := by unfold State.fieldNamed?; rw [e0]
  simp only [Cond.before, Cond.holds, Cond.value, Term.eval, e] at h ⊢
  cases hf : A.fieldNamed? o n d true with
  | none => rw [hf] at h; simp at h
  | some z =>
    obtain ⟨c, k, sl⟩ := z
    cases hs : k.statics with
    | none => simp [hf, hs] at h
    | some q =>
      cases hq : A.heap[q]? with
      | none => simp [hf, hs, hq] at h
      | some cl =>
        simp only [hf, hs, hq, hh q cl hq, Option.bind_eq_bind, Option.bind_some] at h ⊢
        exact h
theorem x_at {U : State} (h : tq_X U) {args : Array Value} : ∀ w ∈ tq_xL, w.before args U = true := by
  obtain ⟨U0, h1, hW, h3⟩ := h
  have hh : ∀ (q : Nat) (cl : Cell), (U0.setVm U.vm).heap[q]? = some cl → U.heap[q]? = some cl := h3
  have key : ∀ w ∈ tq_xL, w.before #[] U0 = true := h1
  unfold tq_xL at key ⊢
  simp only [List.forall_mem_cons] at key ⊢
  obtain ⟨k1, k2, k3, k4, k5, k6, k7, k8, k9, k10, -⟩ := key
  refine ⟨x_decl hW k1, x_decl hW k2, x_decl hW k3, x_cast hW k4, ?_, ?_, ?_, ?_, x_str hW k9, x_str hW k10, fun _ z => absurd z List.not_mem_nil⟩
  · exact x_lay (A := U0.setVm U.vm) rfl hh (Cond.holds_shifted (State.Shifted.of_warmed hW) _ [] rfl k5)
  · exact x_lay (A := U0.setVm U.vm) rfl hh (Cond.holds_shifted (State.Shifted.of_warmed hW) _ [] rfl k6)
  · exact x_ref (A := U0.setVm U.vm) rfl hh (Cond.holds_shifted (State.Shifted.of_warmed hW) _ [] rfl k7)
  · exact x_ref (A := U0.setVm U.vm) rfl hh (Cond.holds_shifted (State.Shifted.of_warmed hW) _ [] rfl k8)
theorem x_own {U : State} {args : Array Value} (hA : ∀ w ∈ wA, w.before args U = true) (h : tq_X U) : ∀ w ∈ tq_ownA, w.before args U = true := fun w hw => by
  have := List.all_eq_true.mp tq_own_in w hw
  rw [Bool.or_eq_true, Bool.and_eq_true, decide_eq_true_iff, decide_eq_true_iff] at this
  rcases this with z | z
  · exact hA w (wA_m z.1 z.2)
  · exact x_at h w z
theorem m_cl130 : Cond.classLink RcS 130 xIO ∈ wA := wA_m (by decide +kernel) rfl
theorem m_iniIO : Cond.initialized xIO ∈ wA := wA_m (by decide +kernel) rfl
/-- what was thrown, and that nothing else changed -/
def tq_thr (_ : Array Value) (s : State) (x : Addr) (t : State) : Prop := s.heap.size ≤ x ∧ (∃ ce : Cell, t.heap[x]? = some ce ∧ s.vm.findClass xIO = some ce.cls ∧ s.vm.assignable ce.cls ce.cls = true ∧ ce.vm = .none) ∧ s.heap.size ≤ t.heap.size ∧ ∀ q : Nat, q < s.heap.size → t.heap[q]? = s.heap[q]?
theorem same_kept {s t : State} {locs : List Loc} {k n : Nat} (h : s.sameButNew t locs k n) (hl : ∀ q ∈ locs, False) : ∀ q : Nat, q < s.heap.size → t.heap[q]? = s.heap[q]? := fun q hq => by
  obtain ⟨-, -, -, -, -, h6⟩ := h
  obtain ⟨cl, hcl⟩ : ∃ cl, s.heap[q]? = some cl := ⟨s.heap[q], Array.getElem?_eq_getElem hq⟩
  obtain ⟨c', h1, h2, h3, h4⟩ := h6 q cl hcl
  have e : c'.slots = cl.slots := Array.ext_getElem? (fun i => h4 i (fun z => hl _ z))
  rw [h1, hcl, h2, e]
section TH
variable {p : Program} {l : Launch} {e : Env} {R : Room} {s : State} {m : MethodId} {args : Array Value} {below : List Frame} {meth : Method} {c : Code} {H : Heap} {locs : List Loc} {cells slots : Nat}
set_option maxHeartbeats 2000000 in
theorem tq_throw {cc : ByteArray} {pc : Nat} {ls : Array Slot} {i : Nat} {text : String} (hx : p.tables.exec = Jvm.exec) (hb : c.code = cc) (hA : ∀ w ∈ wA, w.before args s = true) (hX : tq_X s) (hown : s.vm.findClass RcS = some m.cls) (hl0 : l.stackTraces = false) (hlocks : meth.locks = false) (hsz : ls.size = c.maxLocals) (hout : ∀ y ∈ c.exceptionTable.toList, covers y (pc + 9) = false)
    (hS : va_S (fun _ => False) s.heap H locs) (hc : cells + 1 ≤ R.cells) (hs : slots + 6 ≤ R.slots) (hf : 6 ≤ R.frames) (hlo : 100 ≤ R.locals) (hm : Cond.stringRef RcS i text ∈ tq_xL)
    (d0 : decode cc pc = .ok (.new 130, 3)) (d3 : decode cc (pc + 3) = .ok (.dup, 1)) (d4 : decode cc (pc + 4) = .ok (.ldc i, 2)) (d6 : decode cc (pc + 6) = .ok (.invokespecial 134, 3)) (d9 : decode cc (pc + 9) = .ok (.athrow, 1)) :
    W p l e R s m args below meth c H locs cells slots (tq_MQT below tq_thr args s (cells + 1) (slots + 6) (fun _ => False)) (F0 m pc ls []) := by
  intro T hT X
  have hh := x_own hA hX
  have htr : e.platform.stackTraces = false := by rw [X.admits.platform]; exact hl0
  obtain ⟨vm₁, cX, kX, hfX, hkX, -, -, X₁, st1⟩ := X.newCold hx (own := RcS) (C := xIO) (index := 130) (n := 6) hown (hA _ m_cl130) (hh (.instantiable xIO 6) (by simp [tq_ownA, Bundle.ownAtoms])) (hA _ m_iniIO) (g := F0 m pc ls []) rfl (by rw [hb]; exact d0) hc hs
  generalize hT2 : (T.setVm vm₁).pushCell { cls := cX, slots := kX.instanceTypes.map defaultValue, vm := .none } = T2 at X₁ st1
  have hcellA : T2.heap[T.heap.size]? = some (freshCell cX kX) := by rw [← hT2]; exact State.heap_pushCell_size _ _
  have hconst := x_at hX (args := args) _ hm
  obtain ⟨-, -, -, sa, -, -, -, -, -, hev⟩ := Cond.stringRef_spec hown hconst
  have hsz0 : s.heap.size ≤ T.heap.size := by rw [hT]; exact hS.1
  obtain ⟨U, hsteps, hrun, hend, hW, hsame, ce, hce, K⟩ := X₁.ctorThrowS hx htr (own := RcS) (cls := xIO) (names := upIO) (ic := 134) hown (by decide +kernel) (by decide +kernel) hh (fun y hy => (hS.2.2 y hy).elim) hfX hkX hcellA hsz0 (msg := .ref sa) rfl
    (g := F0 m (pc + 6) ls [.ref sa, .ref T.heap.size, .ref T.heap.size]) rfl hsz rfl rfl (rest := []) rfl (by rw [hb]; exact d6) (by rw [hb]; exact d9) hout (by simp only [upIO, List.length_cons, List.length_nil]; omega) (by simp [upIO, F0, JFrame.monitorRoom, Value.category]; omega) (hlocks := hlocks)
  have hk9 : ∀ q : Nat, q < s.heap.size → U.heap[q]? = s.heap[q]? := same_kept (t := ({ U with vm := s.vm } : State)) hsame (fun q hq => hS.2.2 q hq)
  refine ⟨U, ?_, T.heap.size, hrun, hend, ⟨hsz0, ⟨ce, hce, K.cls, K.self, K.vm⟩, hsame.2.1, hk9⟩, locs, ⟨hW, hsame⟩, hS.2.2⟩
  refine st1 _ ?_
  show Steps p.tables e below (T2.setTop (F0 m (pc + 3) ls [.ref T.heap.size])) _
  jvm_step X₁.here [X₁.here.top, hx, hb, d3, Value.category]
  exact X₁.ldcString hx (own := RcS) (text := text) (index := i) (a := sa) hown hconst hev (g := F0 m (pc + 4) ls [.ref T.heap.size, .ref T.heap.size]) rfl (by rw [hb]; exact d4) _ hsteps
end TH
section TC
variable {p : Program} {l : Launch} {e : Env} {R : Room} {s : State} {m : MethodId} {args : Array Value} {below : List Frame} {meth : Method} {c : Code} {H : Heap} {locs : List Loc} {cells slots : Nat} {Q : State → Prop}
variable {y : MethodName} {bytes cc : ByteArray} {maxL nL mc ms n index : Nat} {ret : Option FieldType} {ws : List Cond} {rm : Room} {Pc : Array Value → State → Prop} {Qt : Array Value → State → Addr → State → Prop} {free : Addr → Prop} {Ts : List Cond} {own C : String} {b : Addr} {As rest : List Value} {g : JFrame}
theorem tq_cbT (cb : CallB R s args own index y bytes maxL ret ws rm mc ms n) (hM : tq_MetT l y ws rm Pc Qt mc ms free) (hbl : FrameBlind Pc) : tq_BackT l R p e below s args y 3 8 (PreOf R mc ms Pc) (tq_PostT Qt mc ms free) := by
  obtain ⟨hrc, hrs, hfr, hlo, hws, hcw, -, hini, -⟩ := cb
  exact tq_backT_of (bytes := bytes) (maxL := maxL) (ret := ret) hM hbl hrc hrs hfr hlo hws hcw (fun a' U hW => word_at hW (Or.inl (by first | rfl | simp [Cond.onTables, Cond.keeps, Cond.steady])) hini)
/-- a call that throws: where it leads, the note over the caller's frame -/
def tq_RunT (p : Program) (l : Launch) (e : Env) (R : Room) (s : State) (m : MethodId) (args : Array Value) (below : List Frame) (meth : Method) (c : Code) (H : Heap) (locs : List Loc) (cells slots mc ms : Nat) (g : JFrame) (rest : List Value) (Qa : State → Addr → State → Prop) (free : Addr → Prop) : Prop :=
  ∀ T : State, T.heap = H → Stand p l e R s m args below meth c T locs cells slots → ∃ (x : Addr) (st₀ t T' : State) (L : List Loc), st₀.heap = H ∧ s.WarmedH st₀.vm ∧ Stand p l e R s m args below meth c T' (locs ++ L) (cells + mc) (slots + ms) ∧ (∀ q ∈ L, free q.base) ∧ T'.heap = t.heap ∧ T'.vm = t.vm ∧ Qa st₀ x t ∧
    ∀ target, Steps p.tables e below ((T'.setTop { g with stack := rest }).pushFrame (.throwing x)) target → Steps p.tables e below (T.setTop g) target
theorem tq_runVT (S : CallFix p m c cc nL s args Ts own) (hM : tq_MetT l y ws rm Pc Qt mc ms free) (cw : CallW R s args own C index y bytes maxL ret ws rm mc ms n) (hp : PreV s H C b Pc As)
    (hg : g.method = m) (hn : As.length = n) (hsize : g.locals.size = nL) (hstack : g.stack = As.reverse ++ .ref b :: rest) (hW : 2 * g.monitorRoom + (rest.map fun v => v.category).sum ≤ 8) (hdg : decode cc g.pc = .ok (.invokevirtual index, 3)) (hf : cells + mc ≤ R.cells ∧ slots + ms ≤ R.slots) :
    tq_RunT p l e R s m args below meth c H locs cells slots mc ms g rest (Qt (Value.ref b :: As).toArray) free := by
  have hK : tq_BackT l R p e below s args y 3 8 (PreOf R mc ms Pc) (tq_PostT Qt mc ms free) := tq_cbT cw.1 hM hp.1
  obtain ⟨⟨-, -, -, -, -, -, hcode, -, hy, hlen, hl⟩, hin, hse⟩ := cw
  obtain ⟨hx, hb, hml, ho, -⟩ := S
  obtain ⟨-, ⟨cellB, hcB, hoB, hclB⟩, hPc⟩ := hp
  intro T hT X
  obtain ⟨mk, methM, hnamed, hmethM, hstM, habM⟩ := Cond.instanceMethod_spec hin
  obtain ⟨methM', cM, hmethM', -, -, -, -, -, -, hsigM⟩ := Cond.code_spec hnamed hcode
  cases hmethM.symm.trans hmethM'
  obtain ⟨c2, r2, m2, q1, q2, q3, q4, kP, hkP, hkPi⟩ := Cond.selects_spec hse
  cases hclB.symm.trans q1
  cases (State.methodFound?_of_named hnamed hy).symm.trans q2
  cases hnamed.symm.trans q3
  have hselP : selectMethod e.platform s.vm cellB.cls mk = .method mk := by rw [Launch.admits_selectMethod X.admits]; exact q4
  obtain ⟨vm₁, X₁, hstep₁⟩ := X.invokevirtual hx ho hl hnamed hmethM hstM hkP hkPi hy (a := b) (cell := cellB) (by rw [hT]; exact hcB)
    (fun z h => by rw [h] at hoB; cases hoB) hselP hmethM habM hkP hkPi (g := g) hg (argsL := As) (rest := rest) (hn.trans (hlen _ hsigM)) hstack (by rw [hb]; exact hdg)
  obtain ⟨x, ⟨U', l2, c2', s2⟩, X', ⟨g', mk', t, L, e1, e2, hq, h1, hL, h2, h3⟩, hsteps⟩ := hK m meth c ⟨T.setVm vm₁, locs, cells, slots⟩ { g with stack := rest } (.invokevirtual index) mk (Value.ref b :: As).toArray X₁ hg (hsize.trans hml.symm) (by rw [hb]; exact hdg) hW (X₁.named hnamed) ⟨hf.1, hf.2, hPc (T.setVm vm₁) hT X₁.warmed⟩
  dsimp only [Pt.U, Pt.locs, Pt.cells, Pt.slots] at X' e1 e2 h1 h2 h3 hsteps
  subst h1; subst h2; subst h3
  exact ⟨x, (T.setVm vm₁).calling g' mk' (Value.ref b :: As).toArray, t, U', L, hT, X₁.warmed, X', hL, e1, e2, hq, fun target h => hstep₁ _ fun acts => by rw [doInvoke_state]; exact hsteps.trans h⟩
theorem tq_runST (S : CallFix p m c cc nL s args Ts own) (hM : tq_MetT l y ws rm Pc Qt mc ms free) (cw : CallB R s args own index y bytes maxL ret ws rm mc ms n ∧ (Cond.static y).before args s = true) (hp : PreS s H Pc As)
    (hg : g.method = m) (hn : As.length = n) (hsize : g.locals.size = nL) (hstack : g.stack = As.reverse ++ rest) (hW : 2 * g.monitorRoom + (rest.map fun v => v.category).sum ≤ 8) (hdg : decode cc g.pc = .ok (.invokestatic index, 3)) (hf : cells + mc ≤ R.cells ∧ slots + ms ≤ R.slots) :
    tq_RunT p l e R s m args below meth c H locs cells slots mc ms g rest (Qt As.toArray) free := by
  have hK : tq_BackT l R p e below s args y 3 8 (PreOf R mc ms Pc) (tq_PostT Qt mc ms free) := tq_cbT cw.1 hM hp.1
  obtain ⟨⟨-, -, -, -, -, -, hcode, hini, hy, hlen, hl⟩, hstt⟩ := cw
  obtain ⟨hx, hb, hml, ho, -⟩ := S
  intro T hT X
  obtain ⟨mk, hnamed⟩ := Cond.code_named hcode
  obtain ⟨methM, cM, hmethM, -, -, -, -, -, -, hsigM⟩ := Cond.code_spec hnamed hcode
  have hstatic : methM.isStatic = true := Cond.static_spec hnamed hmethM hstt
  obtain ⟨kP, hkP, -⟩ := className_of_methodNamed hnamed
  have hinitP : kP.init = .initialized := Cond.initialized_spec (findClass_of_methodNamed hnamed) hkP hini
  obtain ⟨vm₁, X₁, hstep₁⟩ := X.invokestatic hx ho hl hnamed hmethM hstatic hkP hinitP hy (g := g) hg (argsL := As) (rest := rest) (hn.trans (hlen _ hsigM)) hstack (by rw [hb]; exact hdg)
  obtain ⟨x, ⟨U', l2, c2', s2⟩, X', ⟨g', mk', t, L, e1, e2, hq, h1, hL, h2, h3⟩, hsteps⟩ := hK m meth c ⟨T.setVm vm₁, locs, cells, slots⟩ { g with stack := rest } (.invokestatic index) mk As.toArray X₁ hg (hsize.trans hml.symm) (by rw [hb]; exact hdg) hW (X₁.named hnamed) ⟨hf.1, hf.2, hp.2 (T.setVm vm₁) hT X₁.warmed⟩
  dsimp only [Pt.U, Pt.locs, Pt.cells, Pt.slots] at X' e1 e2 h1 h2 h3 hsteps
  subst h1; subst h2; subst h3
  exact ⟨x, (T.setVm vm₁).calling g' mk' As.toArray, t, U', L, hT, X₁.warmed, X', hL, e1, e2, hq, fun target h => hstep₁ _ fun acts => by rw [doInvoke_state]; exact hsteps.trans h⟩
/-- out of the caller too -/
theorem tq_thrown {pc : Nat} {ls : Array Slot} {st0 : List Value} {a0 : Array Value} (hr : tq_RunT p l e R s m args below meth c H locs cells slots mc ms (F0 m pc ls st0) rest (tq_thr a0) (fun _ => False)) (hS : va_S (fun _ => False) s.heap H locs) (hlocks : meth.locks = false) (hout : ∀ y ∈ c.exceptionTable.toList, covers y pc = false) :
    W p l e R s m args below meth c H locs cells slots (tq_MQT below tq_thr args s (cells + mc) (slots + ms) (fun _ => False)) (F0 m pc ls st0) := by
  intro T hT X
  obtain ⟨x, st₀, t, T', L, e0, hW, X', hL, e1, e2, ⟨t1, ⟨ce, t2, t3, t4, t5⟩, t6, t7⟩, st⟩ := hr T hT X
  obtain ⟨l1, l2, l3, l4, l5⟩ := X'.leaveThrown x (g := { F0 m pc ls st0 with stack := rest }) rfl rfl rfl hout (hlocks := hlocks)
  rw [e0] at t1 t6 t7
  rw [hW.alike.findClass] at t3
  rw [hW.alike.assignable] at t4
  refine ⟨_, st _ l1, x, l2, l3, ⟨Nat.le_trans hS.1 t1, ⟨ce, by rw [← t2, ← e1]; rfl, t3, t4, t5⟩, ?_, fun q hq => ?_⟩, locs ++ L, ⟨l4, l5⟩, fun q hq => ?_⟩
  · show s.heap.size ≤ T'.heap.size
    rw [e1]
    exact Nat.le_trans hS.1 t6
  · show T'.heap[q]? = _
    rw [e1, t7 q (Nat.lt_of_lt_of_le hq hS.1)]
    exact hS.2.1 q hq (fun z => z)
  · rcases List.mem_append.mp hq with z | z
    · exact hS.2.2 q z
    · exact hL q z
/-- into the caller's own handler, the first of its table -/
theorem tq_caught {pc hpc i : Nat} {ls : Array Slot} {st0 : List Value} {a0 : Array Value} {A0 : Nat → Prop} {H0 : Heap} (hr : tq_RunT p l e R s m args below meth c H locs cells slots mc ms (F0 m pc ls st0) rest (tq_thr a0) (fun _ => False)) (hS : va_S A0 H0 H locs) (hown : s.vm.findClass own = some m.cls) {x : ExceptionTableEntry} {r : List ExceptionTableEntry} (hsplit : c.exceptionTable.toList = x :: r) (hx : covers x pc = true) (h0 : x.catchType = i) (hi : i ≠ 0) (hpc1 : x.handlerPc = hpc)
    (hlink : (Cond.classLink own i xIO).before args s = true)
    (kk : ∀ (a1 : Addr) (H1 : Heap) (locs1 : List Loc), H.size ≤ H1.size → (∀ q : Nat, q < H.size → H1[q]? = H[q]?) → va_S A0 H0 H1 locs1 → W p l e R s m args below meth c H1 locs1 (cells + mc) (slots + ms) Q (F0 m hpc ls [.ref a1])) : W p l e R s m args below meth c H locs cells slots Q (F0 m pc ls st0) := by
  intro T hT X
  obtain ⟨a1, st₀, t, T', L, e0, hW, X', hL, e1, e2, ⟨t1, ⟨ce, t2, t3, t4, t5⟩, t6, t7⟩, st⟩ := hr T hT X
  rw [hW.alike.findClass] at t3
  rw [hW.alike.assignable] at t4
  rw [e0] at t6 t7
  subst hpc1
  obtain ⟨vm', X2, st2⟩ := X'.caughtLink a1 (g := { F0 m pc ls st0 with stack := rest }) rfl (own := own) (name := xIO) hown [] x r hsplit (fun _ z => absurd z List.not_mem_nil) hx (by rw [h0]; exact hi) (by rw [h0]; exact hlink) t3 (cell := ce) (by rw [e1]; exact t2) (by rw [t5]; rfl) t4
  obtain ⟨t', b1, b2⟩ := kk a1 T'.heap (locs ++ L) (by rw [e1]; exact t6) (fun q hq => by rw [e1]; exact t7 q hq) ⟨Nat.le_trans hS.1 (by rw [e1]; exact t6), fun q h1 h2 => by rw [e1, t7 q (Nat.lt_of_lt_of_le h1 hS.1)]; exact hS.2.1 q h1 h2, fun q hq => (List.mem_append.mp hq).elim (hS.2.2 q) (fun z => (hL q z).elim)⟩ (T'.setVm vm') rfl X2
  refine ⟨t', st _ ?_, b2⟩
  rw [X'.pushThrowing_eq]
  exact st2 _ b1
end TC
