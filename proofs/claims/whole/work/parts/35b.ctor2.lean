/-! Constructors. Written by wip/whole/gen/genI.py. -/
set_option maxHeartbeats 4000000 in
set_option maxRecDepth 100000 in
/-- c_B_init -/
theorem c_B_init (l : Launch) (D : va_G) (sz : Nat) (kI kL kZ : ClassId) (h rows Wd wp n : Nat) (hwp : (Wd + 63) / 64 = wp) (hrn : rows * wp = n) (hn : n < 100000) (hW : Wd < 100000) : Met l yB_init (wB_init :: wA) ({ frames := 1, cells := 1, slots := n, locals := 20 }) (va_Pc [.ref h, .int (nI rows), .int (nI Wd)] (tq_nB D [(h, .inr (0, [.int 0, .int 0, .null]))] (sT kI kL kZ) sz)) (va_Qv (fun (_ : Nat → Nat) => True) (fun z t => va_P D vwA [(h, .inr (0, [.int (nI Wd), .int (nI wp), .ref (z 0)])), ((z 0), .inl (kL, n, .inr (.inl (bw wp (fun _ _ => false)))))] t.heap ∧ va_D (va_A [(h, .inr (0, [.int 0, .int 0, .null]))] sz) [(h, .inr (0, [.int (nI Wd), .int (nI wp), .ref (z 0)])), ((z 0), .inl (kL, n, .inr (.inl (bw wp (fun _ _ => false)))))]) (va_A [(h, .inr (0, [.int 0, .int 0, .null]))] sz)) 1 n (va_A [(h, .inr (0, [.int 0, .int 0, .null]))] sz) := by
  refine Met.ofW (cc := bB_init) (maxL := 3) (ret := none) (by decide +kernel) rfl ?_
  intro p e s m args below meth c s₁ B1 hml hv
  obtain ⟨rfl, hsz, hP, hK, hD0⟩ := hv
  have hx := B1.exec
  have hb := B1.bytes
  have hr := B1.returns
  have hA : ∀ w ∈ wA, w.before ([.ref h, .int (nI rows), .int (nI Wd)] : List Value).toArray s = true := fun w h => atoms_spec (ws := wB_init :: wA) B1.pre w (List.mem_cons_of_mem _ h)
  have hown : s.vm.findClass RcB = some m.cls := findClass_of_methodNamed B1.named
  have hlocks := B1.notSynchronized
  have hin : meth.name = "<init>" := (name_of_methodNamed B1.named B1.method).1
  subst hsz
  have hD := hD0.self (sz := s.heap.size)
  generalize hAe : va_A [(h, .inr (0, [.int 0, .int 0, .null]))] s.heap.size = A at hD ⊢
  have hAA : ∀ q : Nat, s.heap.size ≤ q → A q := fun q h => by rw [← hAe]; exact Or.inr h
  have hS : va_S A s.heap s.heap [] := va_S.rf
  have hP : va_P D vwA [(h, .inr (0, [.int 0, .int 0, .null]))] s.heap := hP
  have hD : va_D A [(h, .inr (0, [.int 0, .int 0, .null]))] := hD
  have hl := lv_entry ([.ref h, .int (nI rows), .int (nI Wd)]) (n := 3) (Nat.le_of_ble_eq_true rfl)
  rw [lg_entry_eq]
  generalize (lg_sl ([.ref h, .int (nI rows), .int (nI Wd)]) ++ List.replicate (3 - (lg_sl ([.ref h, .int (nI rows), .int (nI Wd)])).length) Slot.unset).toArray = ls at hl ⊢
  have hl : lv_has ls 3 [(0, .ref h), (1, .int (nI rows)), (2, .int (nI Wd))] := hl
  refine tq_gen (fun R Q hRe hQe => ?_)
  have hRf : 1 ≤ R.frames := by rw [hRe]; exact Nat.le_of_ble_eq_true rfl
  have hRl : 20 ≤ R.locals := by rw [hRe]; exact Nat.le_of_ble_eq_true rfl
  have hRc : 1 ≤ R.cells := by rw [hRe]; exact Nat.le_of_ble_eq_true rfl
  have hRs : n ≤ R.slots := by rw [hRe]; exact Nat.le_refl _
  refine lv_aload_n hx hb dB_init_0 rfl (lv_at hl 0 rfl) ?_
  refine W.objInit hx hb hown (hA _ moi_B) (hA _ moi_i) (hA _ moi_c) rfl (by rw [hml]; exact hl.1) rfl dB_init_1 (Nat.le_trans (Nat.le_of_ble_eq_true rfl) hRf) (Nat.le_trans (Nat.le_of_ble_eq_true rfl) hRl) ?_
  refine W.eq (g2 := F0 m 4 ls []) rfl ?_
  refine lv_aload_n hx hb dB_init_4 rfl (lv_at hl 0 rfl) ?_
  refine lv_iload_n hx hb dB_init_5 rfl (lv_at hl 2 rfl) ?_
  refine pf_B_7 (v := .int (nI Wd)) hx hb hA hown hK hP hD hS 0 rfl hin rfl rfl (Nat.le_of_ble_eq_true rfl) dB_init_6 (fun H locs hP hD hS => ?_)
  have hP : va_P D vwA [(h, .inr (0, [.int (nI Wd), .int 0, .null]))] H := hP
  have hD : va_D A [(h, .inr (0, [.int (nI Wd), .int 0, .null]))] := hD
  refine lv_aload_n hx hb dB_init_9 rfl (lv_at hl 0 rfl) ?_
  refine lv_iload_n hx hb dB_init_10 rfl (lv_at hl 2 rfl) ?_
  refine lv_bipush (v := nI 63) hx hb dB_init_11 (by decide +kernel) ?_
  refine tq_iadd hx hb dB_init_13 ?_
  refine lv_bipush (v := nI 64) hx hb dB_init_14 (by decide +kernel) ?_
  refine tq_idiv hx hb dB_init_16 (by omega) (by omega) (by omega) ?_
  refine tq_i (congrArg nI hwp) ?_
  refine pf_B_13 (v := .int (nI wp)) hx hb hA hown hK hP hD hS 0 rfl hin rfl rfl (Nat.le_of_ble_eq_true rfl) dB_init_17 (fun H locs hP hD hS => ?_)
  have hP : va_P D vwA [(h, .inr (0, [.int (nI Wd), .int (nI wp), .null]))] H := hP
  have hD : va_D A [(h, .inr (0, [.int (nI Wd), .int (nI wp), .null]))] := hD
  refine lv_aload_n hx hb dB_init_20 rfl (lv_at hl 0 rfl) ?_
  refine lv_iload_n hx hb dB_init_21 rfl (lv_at hl 1 rfl) ?_
  refine lv_aload_n hx hb dB_init_22 rfl (lv_at hl 0 rfl) ?_
  refine gf_B_13 (v := .int (nI wp)) hx hb hA hown hK hP 0 rfl rfl dB_init_23 ?_
  refine tq_imul hx hb dB_init_26 ?_
  refine tq_i (congrArg nI hrn) ?_
  refine tq_newa (atype := .long) (a0 := (n, .inr (.inl (bw wp (fun _ _ => false))))) (N' := n) hx hb (hA _ arr_long) rfl hP hD hS hAA (hK.2 1 _ rfl).2 (tq_haJ _ _ _) (nI_nn (by omega)) (nI_clamp (by omega)) (by first | decide | (show _ * 8 ≤ _; omega)) (by omega) (by omega) dB_init_27 (fun q1 H hP hD hS => ?_)
  have hP : va_P D vwA [(h, .inr (0, [.int (nI Wd), .int (nI wp), .null])), (q1, .inl (kL, n, .inr (.inl (bw wp (fun _ _ => false)))))] H := hP
  have hD : va_D A [(h, .inr (0, [.int (nI Wd), .int (nI wp), .null])), (q1, .inl (kL, n, .inr (.inl (bw wp (fun _ _ => false)))))] := hD
  refine W.widen (k := 1) (n := n) (by omega) (by omega) ?_
  refine pf_B_16 (v := .ref q1) hx hb hA hown hK hP hD hS 0 rfl hin rfl rfl (Nat.le_of_ble_eq_true rfl) dB_init_29 (fun H locs hP hD hS => ?_)
  have hP : va_P D vwA [(h, .inr (0, [.int (nI Wd), .int (nI wp), .ref q1])), (q1, .inl (kL, n, .inr (.inl (bw wp (fun _ _ => false)))))] H := hP
  have hD : va_D A [(h, .inr (0, [.int (nI Wd), .int (nI wp), .ref q1])), (q1, .inl (kL, n, .inr (.inl (bw wp (fun _ _ => false)))))] := hD
  have hP9 := hP.sub (ws' := [(h, .inr (0, [.int (nI Wd), .int (nI wp), .ref ((fun _ => q1) 0)])), (((fun _ => q1) 0), .inl (kL, n, .inr (.inl (bw wp (fun _ _ => false)))))]) [0, 1] rfl
  have hD9 := hD.sub (ws' := [(h, .inr (0, [.int (nI Wd), .int (nI wp), .ref ((fun _ => q1) 0)])), (((fun _ => q1) 0), .inl (kL, n, .inr (.inl (bw wp (fun _ _ => false)))))]) [0, 1] (by decide) rfl
  subst hQe
  exact W.vret hx hb hr (fun t ht hW => ⟨⟨fun _ => q1, rfl, trivial, tq_hp ht hP9, hD9⟩, hS.F ht⟩) hS.2.2 dB_init_32
theorem fill_0 (f : Nat → Int32) (x : Int32) : (fun j => if j < 0 then x else f j) = f := by
  funext j
  simp
theorem fill_s (f : Nat → Int32) (x : Int32) (i : Nat) : upd (fun j => if j < i then x else f j) i x = (fun j => if j < i + 1 then x else f j) := by
  funext j
  show (if j = i then x else if j < i then x else f j) = _
  by_cases h : j = i
  · rw [if_pos h, if_pos (by omega)]
  · rw [if_neg h]
    by_cases h2 : j < i
    · rw [if_pos h2, if_pos (by omega)]
    · rw [if_neg h2, if_neg (by omega)]
set_option maxHeartbeats 4000000 in
set_option maxRecDepth 100000 in
/-- c_fill -/
theorem c_fill (l : Launch) (D : va_G) (sz : Nat) (kI kL kZ : ClassId) (h n : Nat) (f : Nat → Int32) (x : Int32) (hn : n < 100000) : Met l yJa_fill (wJa_fill :: wA) ({ frames := 0, cells := 0, slots := 0, locals := 0 }) (va_Pc [.ref h, .int x] (tq_nB D [(h, .inl (kI, n, .inl f))] (sT kI kL kZ) sz)) (va_Qv (fun (_ : Nat → Nat) => True) (fun z t => va_P D vwA [(h, .inl (kI, n, .inl (fun j => if j < n then x else f j)))] t.heap ∧ va_D (va_A [(h, .inl (kI, n, .inl f))] sz) [(h, .inl (kI, n, .inl (fun j => if j < n then x else f j)))]) (va_A [(h, .inl (kI, n, .inl f))] sz)) 0 0 (va_A [(h, .inl (kI, n, .inl f))] sz) := by
  refine va_MetF (cc := bJa_fill) (maxL := 4) (ret := none) (by decide +kernel) rfl ?_
  intro p e s m args below meth c s₁ B1 hml hv
  obtain ⟨rfl, hsz, hP, hK, hD0⟩ := hv
  have hx := B1.exec
  have hb := B1.bytes
  have hr := B1.returns
  have hA : ∀ w ∈ wA, w.before ([.ref h, .int x] : List Value).toArray s = true := fun w h => atoms_spec (ws := wJa_fill :: wA) B1.pre w (List.mem_cons_of_mem _ h)
  have hown : s.vm.findClass RcJa = some m.cls := findClass_of_methodNamed B1.named
  have hlocks := B1.notSynchronized
  subst hsz
  have hD := hD0.self (sz := s.heap.size)
  generalize hAe : va_A [(h, .inl (kI, n, .inl f))] s.heap.size = A at hD ⊢
  have hAA : ∀ q : Nat, s.heap.size ≤ q → A q := fun q h => by rw [← hAe]; exact Or.inr h
  have hS : va_S A s.heap s.heap [] := va_S.rf
  have hP : va_P D vwA [(h, .inl (kI, n, .inl f))] s.heap := hP
  have hD : va_D A [(h, .inl (kI, n, .inl f))] := hD
  have hl := lv_entry ([.ref h, .int x]) (n := 4) (Nat.le_of_ble_eq_true rfl)
  rw [lg_entry_eq]
  generalize (lg_sl ([.ref h, .int x]) ++ List.replicate (4 - (lg_sl ([.ref h, .int x])).length) Slot.unset).toArray = ls at hl ⊢
  have hl : lv_has ls 4 [(0, .ref h), (1, .int x)] := hl
  refine tq_gen (fun R Q hRe hQe => ?_)
  have hRf : 0 ≤ R.frames := by rw [hRe]; exact Nat.le_of_ble_eq_true rfl
  have hRl : 0 ≤ R.locals := by rw [hRe]; exact Nat.le_of_ble_eq_true rfl
  have hRc : 0 ≤ R.cells := by rw [hRe]; exact Nat.le_of_ble_eq_true rfl
  have hRs : 0 ≤ R.slots := by rw [hRe]; exact Nat.le_of_ble_eq_true rfl
  refine lv_iconst (v := nI 0) hx hb dJa_fill_0 (by decide +kernel) ?_
  refine lv_istore_n (lv' := [(2, .int (nI 0)), (0, .ref h), (1, .int x)]) hx hb dJa_fill_1 rfl hl (by decide) rfl (fun ls hl => ?_)
  refine lv_aload_n hx hb dJa_fill_2 rfl (lv_at hl 1 rfl) ?_
  refine va_alen (v := nI n) hx hb hK hP 0 0 rfl rfl rfl dJa_fill_3 ?_
  refine lv_istore_n (lv' := [(3, .int (nI n)), (2, .int (nI 0)), (0, .ref h), (1, .int x)]) hx hb dJa_fill_4 rfl hl (by decide) rfl (fun ls hl => ?_)
  have lp : ∀ (fu : Nat) (i : Nat) (ls : Array Slot) (H : Heap) (locs : List Loc), i ≤ n → va_P D vwA [(h, .inl (kI, n, .inl (fun j => if j < i then x else f j)))] H → va_D A [(h, .inl (kI, n, .inl (fun j => if j < i then x else f j)))] → va_S A s.heap H locs → n - i < fu → lv_has ls 4 [(3, .int (nI n)), (2, .int (nI i)), (0, .ref h), (1, .int x)] → W p l e R s m ([.ref h, .int x] : List Value).toArray below meth c H locs 0 0 Q (F0 m 5 ls []) := by
    intro fu
    induction fu with
    | zero => intros; omega
    | succ fu ih5 =>
      intro i ls H locs g1 hP hD hS hfu hl
      refine lv_iload_n hx hb dJa_fill_5 rfl (lv_at hl 1 rfl) ?_
      refine lv_iload_n hx hb dJa_fill_6 rfl (lv_at hl 0 rfl) ?_
      refine tq_ge hx hb dJa_fill_7 (tgt := 20) (by decide) (by omega) (by omega) (fun h7 => ?_) (fun h7 => ?_)
      · rw [show i = n by omega] at hP hD
        have hP9 := hP.sub (ws' := [(h, .inl (kI, n, .inl (fun j => if j < n then x else f j)))]) [0] rfl
        have hD9 := hD.sub (ws' := [(h, .inl (kI, n, .inl (fun j => if j < n then x else f j)))]) [0] (by decide) rfl
        subst hQe
        exact W.vret hx hb hr (fun t ht hW => ⟨⟨fun _ => 0, rfl, trivial, tq_hp ht hP9, hD9⟩, hS.F ht⟩) hS.2.2 dJa_fill_20
      · refine lv_aload_n hx hb dJa_fill_10 rfl (lv_at hl 2 rfl) ?_
        refine lv_iload_n hx hb dJa_fill_11 rfl (lv_at hl 1 rfl) ?_
        refine lv_iload_n hx hb dJa_fill_12 rfl (lv_at hl 3 rfl) ?_
        refine tq_iast hx hb hK hP hD hS 0 0 rfl rfl (by omega) (by omega) dJa_fill_13 (fun H locs hP hD hS => ?_)
        have hP : va_P D vwA [(h, .inl (kI, n, .inl (upd (fun j => if j < i then x else f j) i x)))] H := hP
        have hD : va_D A [(h, .inl (kI, n, .inl (upd (fun j => if j < i then x else f j) i x)))] := hD
        refine lv_iinc (k := 1) (lv' := [(2, .int (nI (i + 1))), (3, .int (nI n)), (0, .ref h), (1, .int x)]) hx hb dJa_fill_14 hl rfl (nI_1 _) (by decide) rfl (fun ls hl => ?_)
        refine lv_goto hx hb dJa_fill_17 (tgt := 5) (by decide) ?_
        exact ih5 (i + 1) ls H locs (by omega) (by rw [← fill_s f x i]; exact hP) (by rw [← fill_s f x i]; exact hD) hS (by omega) (lv_sub hl [1, 0, 2, 3] rfl)
  exact lp _ 0 ls _ _ (Nat.zero_le _) (by rw [fill_0 f x]; exact hP) (by rw [fill_0 f x]; exact hD) hS (Nat.lt_succ_self _) (lv_sub hl [0, 1, 2, 3] rfl)
set_option maxHeartbeats 4000000 in
set_option maxRecDepth 100000 in
/-- c_A_init -/
theorem c_A_init (l : Launch) (D : va_G) (sz : Nat) (kI kL kZ : ClassId) (h : Nat) : Met l yA_init (wA_init :: wA) ({ frames := 1, cells := 5, slots := 500, locals := 20 }) (va_Pc [.ref h] (tq_nB D [(h, .inr (2, [.null, .null, .null, .null, .null, .int 0, .int 0]))] (sT kI kL kZ) sz)) (va_Qv (fun (_ : Nat → Nat) => True) (fun z t => va_P D vwA [(h, .inr (2, [.ref (z 0), .ref (z 1), .ref (z 2), .ref (z 3), .ref (z 4), .int (nI 0), .int (nI 0)])), ((z 0), .inl (kI, 100, .inl (fun _ => 0))), ((z 1), .inl (kI, 100, .inl (fun _ => 0))), ((z 2), .inl (kI, 100, .inl (fun _ => 0))), ((z 3), .inl (kI, 100, .inl (fun _ => 0))), ((z 4), .inl (kZ, 100, .inl (fun _ => 0)))] t.heap ∧ va_D (va_A [(h, .inr (2, [.null, .null, .null, .null, .null, .int 0, .int 0]))] sz) [(h, .inr (2, [.ref (z 0), .ref (z 1), .ref (z 2), .ref (z 3), .ref (z 4), .int (nI 0), .int (nI 0)])), ((z 0), .inl (kI, 100, .inl (fun _ => 0))), ((z 1), .inl (kI, 100, .inl (fun _ => 0))), ((z 2), .inl (kI, 100, .inl (fun _ => 0))), ((z 3), .inl (kI, 100, .inl (fun _ => 0))), ((z 4), .inl (kZ, 100, .inl (fun _ => 0)))]) (va_A [(h, .inr (2, [.null, .null, .null, .null, .null, .int 0, .int 0]))] sz)) 5 500 (va_A [(h, .inr (2, [.null, .null, .null, .null, .null, .int 0, .int 0]))] sz) := by
  refine Met.ofW (cc := bA_init) (maxL := 1) (ret := none) (by decide +kernel) rfl ?_
  intro p e s m args below meth c s₁ B1 hml hv
  obtain ⟨rfl, hsz, hP, hK, hD0⟩ := hv
  have hx := B1.exec
  have hb := B1.bytes
  have hr := B1.returns
  have hA : ∀ w ∈ wA, w.before ([.ref h] : List Value).toArray s = true := fun w h => atoms_spec (ws := wA_init :: wA) B1.pre w (List.mem_cons_of_mem _ h)
  have hown : s.vm.findClass RcA = some m.cls := findClass_of_methodNamed B1.named
  have hlocks := B1.notSynchronized
  have hin : meth.name = "<init>" := (name_of_methodNamed B1.named B1.method).1
  subst hsz
  have hD := hD0.self (sz := s.heap.size)
  generalize hAe : va_A [(h, .inr (2, [.null, .null, .null, .null, .null, .int 0, .int 0]))] s.heap.size = A at hD ⊢
  have hAA : ∀ q : Nat, s.heap.size ≤ q → A q := fun q h => by rw [← hAe]; exact Or.inr h
  have hS : va_S A s.heap s.heap [] := va_S.rf
  have hP : va_P D vwA [(h, .inr (2, [.null, .null, .null, .null, .null, .int 0, .int 0]))] s.heap := hP
  have hD : va_D A [(h, .inr (2, [.null, .null, .null, .null, .null, .int 0, .int 0]))] := hD
  have hl := lv_entry ([.ref h]) (n := 1) (Nat.le_of_ble_eq_true rfl)
  rw [lg_entry_eq]
  generalize (lg_sl ([.ref h]) ++ List.replicate (1 - (lg_sl ([.ref h])).length) Slot.unset).toArray = ls at hl ⊢
  have hl : lv_has ls 1 [(0, .ref h)] := hl
  refine tq_gen (fun R Q hRe hQe => ?_)
  have hRf : 1 ≤ R.frames := by rw [hRe]; exact Nat.le_of_ble_eq_true rfl
  have hRl : 20 ≤ R.locals := by rw [hRe]; exact Nat.le_of_ble_eq_true rfl
  have hRc : 5 ≤ R.cells := by rw [hRe]; exact Nat.le_of_ble_eq_true rfl
  have hRs : 500 ≤ R.slots := by rw [hRe]; exact Nat.le_of_ble_eq_true rfl
  refine lv_aload_n hx hb dA_init_0 rfl (lv_at hl 0 rfl) ?_
  refine W.objInit hx hb hown (hA _ moi_A) (hA _ moi_i) (hA _ moi_c) rfl (by rw [hml]; exact hl.1) rfl dA_init_1 (Nat.le_trans (Nat.le_of_ble_eq_true rfl) hRf) (Nat.le_trans (Nat.le_of_ble_eq_true rfl) hRl) ?_
  refine W.eq (g2 := F0 m 4 ls []) rfl ?_
  refine lv_aload_n hx hb dA_init_4 rfl (lv_at hl 0 rfl) ?_
  refine lv_bipush (v := nI 100) hx hb dA_init_5 (by decide +kernel) ?_
  refine tq_newa (atype := .int) (a0 := (100, .inl (fun _ => 0))) (N' := 100) hx hb (hA _ arr_int) rfl hP hD hS hAA (hK.2 0 _ rfl).2 rfl (nI_nn (by omega)) (nI_clamp (by omega)) (by first | decide | (show _ * 8 ≤ _; omega)) (by omega) (by omega) dA_init_7 (fun q1 H hP hD hS => ?_)
  have hP : va_P D vwA [(h, .inr (2, [.null, .null, .null, .null, .null, .int 0, .int 0])), (q1, .inl (kI, 100, .inl (fun _ => 0)))] H := hP
  have hD : va_D A [(h, .inr (2, [.null, .null, .null, .null, .null, .int 0, .int 0])), (q1, .inl (kI, 100, .inl (fun _ => 0)))] := hD
  refine W.widen (k := 1) (n := 100) (by omega) (by omega) ?_
  refine pf_A_9 (v := .ref q1) hx hb hA hown hK hP hD hS 0 rfl hin rfl rfl (Nat.le_of_ble_eq_true rfl) dA_init_9 (fun H locs hP hD hS => ?_)
  have hP : va_P D vwA [(h, .inr (2, [.ref q1, .null, .null, .null, .null, .int 0, .int 0])), (q1, .inl (kI, 100, .inl (fun _ => 0)))] H := hP
  have hD : va_D A [(h, .inr (2, [.ref q1, .null, .null, .null, .null, .int 0, .int 0])), (q1, .inl (kI, 100, .inl (fun _ => 0)))] := hD
  refine lv_aload_n hx hb dA_init_12 rfl (lv_at hl 0 rfl) ?_
  refine lv_bipush (v := nI 100) hx hb dA_init_13 (by decide +kernel) ?_
  refine tq_newa (atype := .int) (a0 := (100, .inl (fun _ => 0))) (N' := 100) hx hb (hA _ arr_int) rfl hP hD hS hAA (hK.2 0 _ rfl).2 rfl (nI_nn (by omega)) (nI_clamp (by omega)) (by first | decide | (show _ * 8 ≤ _; omega)) (by omega) (by omega) dA_init_15 (fun q2 H hP hD hS => ?_)
  have hP : va_P D vwA [(h, .inr (2, [.ref q1, .null, .null, .null, .null, .int 0, .int 0])), (q1, .inl (kI, 100, .inl (fun _ => 0))), (q2, .inl (kI, 100, .inl (fun _ => 0)))] H := hP
  have hD : va_D A [(h, .inr (2, [.ref q1, .null, .null, .null, .null, .int 0, .int 0])), (q1, .inl (kI, 100, .inl (fun _ => 0))), (q2, .inl (kI, 100, .inl (fun _ => 0)))] := hD
  refine W.widen (k := 2) (n := 200) (by omega) (by omega) ?_
  refine pf_A_15 (v := .ref q2) hx hb hA hown hK hP hD hS 0 rfl hin rfl rfl (Nat.le_of_ble_eq_true rfl) dA_init_17 (fun H locs hP hD hS => ?_)
  have hP : va_P D vwA [(h, .inr (2, [.ref q1, .ref q2, .null, .null, .null, .int 0, .int 0])), (q1, .inl (kI, 100, .inl (fun _ => 0))), (q2, .inl (kI, 100, .inl (fun _ => 0)))] H := hP
  have hD : va_D A [(h, .inr (2, [.ref q1, .ref q2, .null, .null, .null, .int 0, .int 0])), (q1, .inl (kI, 100, .inl (fun _ => 0))), (q2, .inl (kI, 100, .inl (fun _ => 0)))] := hD
  refine lv_aload_n hx hb dA_init_20 rfl (lv_at hl 0 rfl) ?_
  refine lv_bipush (v := nI 100) hx hb dA_init_21 (by decide +kernel) ?_
  refine tq_newa (atype := .int) (a0 := (100, .inl (fun _ => 0))) (N' := 100) hx hb (hA _ arr_int) rfl hP hD hS hAA (hK.2 0 _ rfl).2 rfl (nI_nn (by omega)) (nI_clamp (by omega)) (by first | decide | (show _ * 8 ≤ _; omega)) (by omega) (by omega) dA_init_23 (fun q3 H hP hD hS => ?_)
  have hP : va_P D vwA [(h, .inr (2, [.ref q1, .ref q2, .null, .null, .null, .int 0, .int 0])), (q1, .inl (kI, 100, .inl (fun _ => 0))), (q2, .inl (kI, 100, .inl (fun _ => 0))), (q3, .inl (kI, 100, .inl (fun _ => 0)))] H := hP
  have hD : va_D A [(h, .inr (2, [.ref q1, .ref q2, .null, .null, .null, .int 0, .int 0])), (q1, .inl (kI, 100, .inl (fun _ => 0))), (q2, .inl (kI, 100, .inl (fun _ => 0))), (q3, .inl (kI, 100, .inl (fun _ => 0)))] := hD
  refine W.widen (k := 3) (n := 300) (by omega) (by omega) ?_
  refine pf_A_18 (v := .ref q3) hx hb hA hown hK hP hD hS 0 rfl hin rfl rfl (Nat.le_of_ble_eq_true rfl) dA_init_25 (fun H locs hP hD hS => ?_)
  have hP : va_P D vwA [(h, .inr (2, [.ref q1, .ref q2, .ref q3, .null, .null, .int 0, .int 0])), (q1, .inl (kI, 100, .inl (fun _ => 0))), (q2, .inl (kI, 100, .inl (fun _ => 0))), (q3, .inl (kI, 100, .inl (fun _ => 0)))] H := hP
  have hD : va_D A [(h, .inr (2, [.ref q1, .ref q2, .ref q3, .null, .null, .int 0, .int 0])), (q1, .inl (kI, 100, .inl (fun _ => 0))), (q2, .inl (kI, 100, .inl (fun _ => 0))), (q3, .inl (kI, 100, .inl (fun _ => 0)))] := hD
  refine lv_aload_n hx hb dA_init_28 rfl (lv_at hl 0 rfl) ?_
  refine lv_bipush (v := nI 100) hx hb dA_init_29 (by decide +kernel) ?_
  refine tq_newa (atype := .int) (a0 := (100, .inl (fun _ => 0))) (N' := 100) hx hb (hA _ arr_int) rfl hP hD hS hAA (hK.2 0 _ rfl).2 rfl (nI_nn (by omega)) (nI_clamp (by omega)) (by first | decide | (show _ * 8 ≤ _; omega)) (by omega) (by omega) dA_init_31 (fun q4 H hP hD hS => ?_)
  have hP : va_P D vwA [(h, .inr (2, [.ref q1, .ref q2, .ref q3, .null, .null, .int 0, .int 0])), (q1, .inl (kI, 100, .inl (fun _ => 0))), (q2, .inl (kI, 100, .inl (fun _ => 0))), (q3, .inl (kI, 100, .inl (fun _ => 0))), (q4, .inl (kI, 100, .inl (fun _ => 0)))] H := hP
  have hD : va_D A [(h, .inr (2, [.ref q1, .ref q2, .ref q3, .null, .null, .int 0, .int 0])), (q1, .inl (kI, 100, .inl (fun _ => 0))), (q2, .inl (kI, 100, .inl (fun _ => 0))), (q3, .inl (kI, 100, .inl (fun _ => 0))), (q4, .inl (kI, 100, .inl (fun _ => 0)))] := hD
  refine W.widen (k := 4) (n := 400) (by omega) (by omega) ?_
  refine pf_A_21 (v := .ref q4) hx hb hA hown hK hP hD hS 0 rfl hin rfl rfl (Nat.le_of_ble_eq_true rfl) dA_init_33 (fun H locs hP hD hS => ?_)
  have hP : va_P D vwA [(h, .inr (2, [.ref q1, .ref q2, .ref q3, .ref q4, .null, .int 0, .int 0])), (q1, .inl (kI, 100, .inl (fun _ => 0))), (q2, .inl (kI, 100, .inl (fun _ => 0))), (q3, .inl (kI, 100, .inl (fun _ => 0))), (q4, .inl (kI, 100, .inl (fun _ => 0)))] H := hP
  have hD : va_D A [(h, .inr (2, [.ref q1, .ref q2, .ref q3, .ref q4, .null, .int 0, .int 0])), (q1, .inl (kI, 100, .inl (fun _ => 0))), (q2, .inl (kI, 100, .inl (fun _ => 0))), (q3, .inl (kI, 100, .inl (fun _ => 0))), (q4, .inl (kI, 100, .inl (fun _ => 0)))] := hD
  refine lv_aload_n hx hb dA_init_36 rfl (lv_at hl 0 rfl) ?_
  refine lv_bipush (v := nI 100) hx hb dA_init_37 (by decide +kernel) ?_
  refine tq_newa (atype := .boolean) (a0 := (100, .inl (fun _ => 0))) (N' := 100) hx hb (hA _ arr_boolean) rfl hP hD hS hAA (hK.2 2 _ rfl).2 rfl (nI_nn (by omega)) (nI_clamp (by omega)) (by first | decide | (show _ * 8 ≤ _; omega)) (by omega) (by omega) dA_init_39 (fun q5 H hP hD hS => ?_)
  have hP : va_P D vwA [(h, .inr (2, [.ref q1, .ref q2, .ref q3, .ref q4, .null, .int 0, .int 0])), (q1, .inl (kI, 100, .inl (fun _ => 0))), (q2, .inl (kI, 100, .inl (fun _ => 0))), (q3, .inl (kI, 100, .inl (fun _ => 0))), (q4, .inl (kI, 100, .inl (fun _ => 0))), (q5, .inl (kZ, 100, .inl (fun _ => 0)))] H := hP
  have hD : va_D A [(h, .inr (2, [.ref q1, .ref q2, .ref q3, .ref q4, .null, .int 0, .int 0])), (q1, .inl (kI, 100, .inl (fun _ => 0))), (q2, .inl (kI, 100, .inl (fun _ => 0))), (q3, .inl (kI, 100, .inl (fun _ => 0))), (q4, .inl (kI, 100, .inl (fun _ => 0))), (q5, .inl (kZ, 100, .inl (fun _ => 0)))] := hD
  refine W.widen (k := 5) (n := 500) (by omega) (by omega) ?_
  refine pf_A_24 (v := .ref q5) hx hb hA hown hK hP hD hS 0 rfl hin rfl rfl (Nat.le_of_ble_eq_true rfl) dA_init_41 (fun H locs hP hD hS => ?_)
  have hP : va_P D vwA [(h, .inr (2, [.ref q1, .ref q2, .ref q3, .ref q4, .ref q5, .int 0, .int 0])), (q1, .inl (kI, 100, .inl (fun _ => 0))), (q2, .inl (kI, 100, .inl (fun _ => 0))), (q3, .inl (kI, 100, .inl (fun _ => 0))), (q4, .inl (kI, 100, .inl (fun _ => 0))), (q5, .inl (kZ, 100, .inl (fun _ => 0)))] H := hP
  have hD : va_D A [(h, .inr (2, [.ref q1, .ref q2, .ref q3, .ref q4, .ref q5, .int 0, .int 0])), (q1, .inl (kI, 100, .inl (fun _ => 0))), (q2, .inl (kI, 100, .inl (fun _ => 0))), (q3, .inl (kI, 100, .inl (fun _ => 0))), (q4, .inl (kI, 100, .inl (fun _ => 0))), (q5, .inl (kZ, 100, .inl (fun _ => 0)))] := hD
  refine lv_aload_n hx hb dA_init_44 rfl (lv_at hl 0 rfl) ?_
  refine lv_iconst (v := nI 0) hx hb dA_init_45 (by decide +kernel) ?_
  refine pf_A_28 (v := .int (nI 0)) hx hb hA hown hK hP hD hS 0 rfl rfl rfl (Nat.le_of_ble_eq_true rfl) dA_init_46 (fun H locs hP hD hS => ?_)
  have hP : va_P D vwA [(h, .inr (2, [.ref q1, .ref q2, .ref q3, .ref q4, .ref q5, .int (nI 0), .int 0])), (q1, .inl (kI, 100, .inl (fun _ => 0))), (q2, .inl (kI, 100, .inl (fun _ => 0))), (q3, .inl (kI, 100, .inl (fun _ => 0))), (q4, .inl (kI, 100, .inl (fun _ => 0))), (q5, .inl (kZ, 100, .inl (fun _ => 0)))] H := hP
  have hD : va_D A [(h, .inr (2, [.ref q1, .ref q2, .ref q3, .ref q4, .ref q5, .int (nI 0), .int 0])), (q1, .inl (kI, 100, .inl (fun _ => 0))), (q2, .inl (kI, 100, .inl (fun _ => 0))), (q3, .inl (kI, 100, .inl (fun _ => 0))), (q4, .inl (kI, 100, .inl (fun _ => 0))), (q5, .inl (kZ, 100, .inl (fun _ => 0)))] := hD
  refine lv_aload_n hx hb dA_init_49 rfl (lv_at hl 0 rfl) ?_
  refine lv_iconst (v := nI 0) hx hb dA_init_50 (by decide +kernel) ?_
  refine pf_A_32 (v := .int (nI 0)) hx hb hA hown hK hP hD hS 0 rfl rfl rfl (Nat.le_of_ble_eq_true rfl) dA_init_51 (fun H locs hP hD hS => ?_)
  have hP : va_P D vwA [(h, .inr (2, [.ref q1, .ref q2, .ref q3, .ref q4, .ref q5, .int (nI 0), .int (nI 0)])), (q1, .inl (kI, 100, .inl (fun _ => 0))), (q2, .inl (kI, 100, .inl (fun _ => 0))), (q3, .inl (kI, 100, .inl (fun _ => 0))), (q4, .inl (kI, 100, .inl (fun _ => 0))), (q5, .inl (kZ, 100, .inl (fun _ => 0)))] H := hP
  have hD : va_D A [(h, .inr (2, [.ref q1, .ref q2, .ref q3, .ref q4, .ref q5, .int (nI 0), .int (nI 0)])), (q1, .inl (kI, 100, .inl (fun _ => 0))), (q2, .inl (kI, 100, .inl (fun _ => 0))), (q3, .inl (kI, 100, .inl (fun _ => 0))), (q4, .inl (kI, 100, .inl (fun _ => 0))), (q5, .inl (kZ, 100, .inl (fun _ => 0)))] := hD
  have hP9 := hP.sub (ws' := [(h, .inr (2, [.ref ((fun i => [q1, q2, q3, q4, q5].getD i 0) 0), .ref ((fun i => [q1, q2, q3, q4, q5].getD i 0) 1), .ref ((fun i => [q1, q2, q3, q4, q5].getD i 0) 2), .ref ((fun i => [q1, q2, q3, q4, q5].getD i 0) 3), .ref ((fun i => [q1, q2, q3, q4, q5].getD i 0) 4), .int (nI 0), .int (nI 0)])), (((fun i => [q1, q2, q3, q4, q5].getD i 0) 0), .inl (kI, 100, .inl (fun _ => 0))), (((fun i => [q1, q2, q3, q4, q5].getD i 0) 1), .inl (kI, 100, .inl (fun _ => 0))), (((fun i => [q1, q2, q3, q4, q5].getD i 0) 2), .inl (kI, 100, .inl (fun _ => 0))), (((fun i => [q1, q2, q3, q4, q5].getD i 0) 3), .inl (kI, 100, .inl (fun _ => 0))), (((fun i => [q1, q2, q3, q4, q5].getD i 0) 4), .inl (kZ, 100, .inl (fun _ => 0)))]) [0, 1, 2, 3, 4, 5] rfl
  have hD9 := hD.sub (ws' := [(h, .inr (2, [.ref ((fun i => [q1, q2, q3, q4, q5].getD i 0) 0), .ref ((fun i => [q1, q2, q3, q4, q5].getD i 0) 1), .ref ((fun i => [q1, q2, q3, q4, q5].getD i 0) 2), .ref ((fun i => [q1, q2, q3, q4, q5].getD i 0) 3), .ref ((fun i => [q1, q2, q3, q4, q5].getD i 0) 4), .int (nI 0), .int (nI 0)])), (((fun i => [q1, q2, q3, q4, q5].getD i 0) 0), .inl (kI, 100, .inl (fun _ => 0))), (((fun i => [q1, q2, q3, q4, q5].getD i 0) 1), .inl (kI, 100, .inl (fun _ => 0))), (((fun i => [q1, q2, q3, q4, q5].getD i 0) 2), .inl (kI, 100, .inl (fun _ => 0))), (((fun i => [q1, q2, q3, q4, q5].getD i 0) 3), .inl (kI, 100, .inl (fun _ => 0))), (((fun i => [q1, q2, q3, q4, q5].getD i 0) 4), .inl (kZ, 100, .inl (fun _ => 0)))]) [0, 1, 2, 3, 4, 5] (by decide) rfl
  subst hQe
  exact W.vret hx hb hr (fun t ht hW => ⟨⟨(fun i => [q1, q2, q3, q4, q5].getD i 0), rfl, trivial, tq_hp ht hP9, hD9⟩, hS.F ht⟩) hS.2.2 dA_init_54
