/-! The system's world: TermServer with its Terms, Axioms, Closure and their arrays; contracts of Terms and Axioms. Written by wip/whole/gen/gensys.py. -/
/-- what the system holds: the tables of bits (facts, sources, fresh, freshRows, toldAbove, toldRoles, toldChains, boths, fillers), the arrays of ints (kinds, lefts, rights, somes; the axioms' kinds, firsts, seconds, thirds, takenBack; reasons), the counts (size, names, told, inForce, admitted, heard, spoiled, reasonCount) -/
abbrev sU : Type := (Nat → Nat → Nat → Bool) × (Nat → Nat → Int32) × (Nat → Nat)
def sW (a : Nat → Nat) (kI kL kZ : ClassId) (u : sU) : va_W := [(a 0, .inr (4, [.ref (a 1), .ref (a 2), .ref (a 3), .ref (a 4), .int (nI (u.2.2 7))])), (a 1, .inr (1, [.ref (a 5), .ref (a 6), .ref (a 7), .ref (a 8), .ref (a 28), .ref (a 30), .int (nI (u.2.2 0)), .int (nI (u.2.2 1))])), (a 2, .inr (2, [.ref (a 9), .ref (a 10), .ref (a 11), .ref (a 12), .ref (a 13), .int (nI (u.2.2 2)), .int (nI (u.2.2 3))])), (a 3, .inr (3, [.ref (a 1), .ref (a 2), .ref (a 14), .ref (a 16), .ref (a 18), .ref (a 20), .ref (a 22), .ref (a 24), .ref (a 26), .int (nI (u.2.2 4)), .int (nI (u.2.2 5)), .int (nI (u.2.2 6))])), (a 4, .inl (kI, 100, .inl (u.2.1 9))), (a 5, .inl (kI, 160, .inl (u.2.1 0))), (a 6, .inl (kI, 160, .inl (u.2.1 1))), (a 7, .inl (kI, 160, .inl (u.2.1 2))), (a 8, .inl (kI, 960, .inl (u.2.1 3))), (a 9, .inl (kI, 100, .inl (u.2.1 4))), (a 10, .inl (kI, 100, .inl (u.2.1 5))), (a 11, .inl (kI, 100, .inl (u.2.1 6))), (a 12, .inl (kI, 100, .inl (u.2.1 7))), (a 13, .inl (kZ, 100, .inl (u.2.1 8))), (a 14, .inr (0, [.int (nI 160), .int (nI 3), .ref (a 15)])), (a 15, .inl (kL, 3360, .inr (.inl (bw 3 (u.1 0))))), (a 16, .inr (0, [.int (nI 160), .int (nI 3), .ref (a 17)])), (a 17, .inl (kL, 3360, .inr (.inl (bw 3 (u.1 1))))), (a 18, .inr (0, [.int (nI 160), .int (nI 3), .ref (a 19)])), (a 19, .inl (kL, 3360, .inr (.inl (bw 3 (u.1 2))))), (a 20, .inr (0, [.int (nI 1120), .int (nI 18), .ref (a 21)])), (a 21, .inl (kL, 18, .inr (.inl (bw 18 (u.1 3))))), (a 22, .inr (0, [.int (nI 160), .int (nI 3), .ref (a 23)])), (a 23, .inl (kL, 480, .inr (.inl (bw 3 (u.1 4))))), (a 24, .inr (0, [.int (nI 6), .int (nI 1), .ref (a 25)])), (a 25, .inl (kL, 6, .inr (.inl (bw 1 (u.1 5))))), (a 26, .inr (0, [.int (nI 6), .int (nI 1), .ref (a 27)])), (a 27, .inl (kL, 36, .inr (.inl (bw 1 (u.1 6))))), (a 28, .inr (0, [.int (nI 160), .int (nI 3), .ref (a 29)])), (a 29, .inl (kL, 480, .inr (.inl (bw 3 (u.1 7))))), (a 30, .inr (0, [.int (nI 160), .int (nI 3), .ref (a 31)])), (a 31, .inl (kL, 18, .inr (.inl (bw 3 (u.1 8)))))]
abbrev sT (kI kL kZ : ClassId) : List (ClassId × FieldType) := [(kI, .int), (kL, .long), (kZ, .boolean)]
def sA (a : Nat → Nat) (q : Nat) : Prop := q ∈ [a 0, a 1, a 2, a 3, a 4, a 5, a 6, a 7, a 8, a 9, a 10, a 11, a 12, a 13, a 14, a 15, a 16, a 17, a 18, a 19, a 20, a 21, a 22, a 23, a 24, a 25, a 26, a 27, a 28, a 29, a 30, a 31]
theorem sA_D {a : Nat → Nat} {kI kL kZ : ClassId} {u : sU} {A : Nat → Prop} (h : va_D A (sW a kI kL kZ u)) : va_D (sA a) (sW a kI kL kZ u) := tq_D_self h
theorem sW_adr0 {a : Nat → Nat} {kI kL kZ : ClassId} (u : sU) : (sW a kI kL kZ u).map (fun x => x.1) = [a 0, a 1, a 2, a 3, a 4, a 5, a 6, a 7, a 8, a 9, a 10, a 11, a 12, a 13, a 14, a 15, a 16, a 17, a 18, a 19, a 20, a 21, a 22, a 23, a 24, a 25, a 26, a 27, a 28, a 29, a 30, a 31] := rfl
theorem sW_adr {a : Nat → Nat} {kI kL kZ : ClassId} {u : sU} (u' : sU) : (sW a kI kL kZ u').map (fun x => x.1) = (sW a kI kL kZ u).map (fun x => x.1) := (sW_adr0 u').trans (sW_adr0 u).symm
theorem tq_le1 {x : Int32} {T : Nat} (hT : T < 2 ^ 31) (h1 : ¬ x < nI 1) (h2 : ¬ nI T < x) : ∃ k, 1 ≤ k ∧ k ≤ T ∧ x = nI k := by
  rw [Int32.lt_iff_toInt_lt, nI_toInt (by decide)] at h1
  rw [Int32.lt_iff_toInt_lt, nI_toInt hT] at h2
  refine ⟨x.toInt.toNat, by omega, by omega, Int32.toInt_inj.mp ?_⟩
  rw [nI_toInt (by omega)]
  omega
/-- is the axiom x in force? -/
def s_inf (u : sU) (x : Int32) : Bool := decide (1 ≤ x.toInt ∧ x.toInt ≤ u.2.2 2) && decide (u.2.1 8 (x.toInt.toNat - 1) = 0)
theorem s_inf_k {u : sU} {k : Nat} (h1 : 1 ≤ k) (h2 : k ≤ u.2.2 2) (h3 : u.2.2 2 ≤ 100) : s_inf u (nI k) = decide (u.2.1 8 (k - 1) = 0) := by
  unfold s_inf
  rw [nI_toInt (by omega)]
  have e : (1 ≤ (k : Int) ∧ (k : Int) ≤ u.2.2 2) := by omega
  simp [e]
theorem s_inf_lo {u : sU} {x : Int32} (h : x < nI 1) : s_inf u x = false := by
  rw [Int32.lt_iff_toInt_lt, nI_toInt (by decide)] at h
  unfold s_inf
  have e : ¬ (1 ≤ x.toInt ∧ x.toInt ≤ u.2.2 2) := by omega
  simp [e]
theorem s_inf_hi {u : sU} {x : Int32} (h : nI (u.2.2 2) < x) (h3 : u.2.2 2 ≤ 100) : s_inf u x = false := by
  rw [Int32.lt_iff_toInt_lt, nI_toInt (by omega)] at h
  unfold s_inf
  have e : ¬ (1 ≤ x.toInt ∧ x.toInt ≤ u.2.2 2) := by omega
  simp [e]
def s_tell (u : sU) (k x y z : Int32) : sU := (u.1, va_up (va_up (va_up (va_up u.2.1 4 (upd (u.2.1 4) (u.2.2 2) k)) 5 (upd (u.2.1 5) (u.2.2 2) x)) 6 (upd (u.2.1 6) (u.2.2 2) y)) 7 (upd (u.2.1 7) (u.2.2 2) z), va_up (va_up u.2.2 2 (u.2.2 2 + 1)) 3 (u.2.2 3 + 1))
def s_back (u : sU) (k : Nat) : sU := (u.1, va_up u.2.1 8 (upd (u.2.1 8) (k - 1) (nI 1)), va_up u.2.2 3 (u.2.2 3 - 1))
/-- a description is made: its kind and parts, before what else the kind asks -/
def s_new (u : sU) (k x y : Int32) : sU := (u.1, va_up (va_up (va_up u.2.1 0 (upd (u.2.1 0) (u.2.2 0) k)) 1 (upd (u.2.1 1) (u.2.2 0) x)) 2 (upd (u.2.1 2) (u.2.2 0) y), va_up u.2.2 0 (u.2.2 0 + 1))
def s_name (u : sU) : sU := ((s_new u (nI 1) (-1) (-1)).1, (s_new u (nI 1) (-1) (-1)).2.1, va_up (s_new u (nI 1) (-1) (-1)).2.2 1 (u.2.2 1 + 1))
def s_both (u : sU) (d e : Nat) : sU := (va_up u.1 7 (tm_put (tm_put (u.1 7) d (u.2.2 0)) e (u.2.2 0)), (s_new u (nI 2) (nI d) (nI e)).2)
def s_some (u : sU) (r d : Nat) : sU := (va_up u.1 8 (tm_put (u.1 8) r d), va_up (s_new u (nI 3) (nI r) (nI d)).2.1 3 (upd (u.2.1 3) (r * 160 + d) (nI (u.2.2 0))), (s_new u (nI 3) (nI r) (nI d)).2.2)
set_option maxHeartbeats 4000000 in
set_option maxRecDepth 100000 in
/-- c_size -/
theorem c_size (l : Launch) (D : va_G) (a : Nat → Nat) (kI kL kZ : ClassId) (u : sU)  : Met l yT_size (wT_size :: wA) ({ frames := 0, cells := 0, slots := 0, locals := 0 }) (va_Pc [.ref (a 1)] (tq_rB D vwA (sW a kI kL kZ u) (sT kI kL kZ))) (va_Qi (fun r (_ : Unit) => r = nI (u.2.2 0)) (fun _ _ => True) (fun _ => False)) 0 0 (fun _ => False) := by
  refine Met.ofW (cc := bT_size) (maxL := 1) (ret := (some .int)) (by decide +kernel) rfl ?_
  intro p e s m args below meth c s₁ B1 hml hv
  obtain ⟨rfl, hP, hK⟩ := hv
  have hx := B1.exec
  have hb := B1.bytes
  have hr := B1.returns
  have hA : ∀ w ∈ wA, w.before ([.ref (a 1)] : List Value).toArray s = true := fun w h => atoms_spec (ws := wT_size :: wA) B1.pre w (List.mem_cons_of_mem _ h)
  have hown : s.vm.findClass RcT = some m.cls := findClass_of_methodNamed B1.named
  have hlocks := B1.notSynchronized
  have hS : va_S (fun _ => False) s.heap s.heap [] := va_S.rf
  have hl := lv_entry ([.ref (a 1)]) (n := 1) (Nat.le_of_ble_eq_true rfl)
  rw [lg_entry_eq]
  generalize (lg_sl ([.ref (a 1)]) ++ List.replicate (1 - (lg_sl ([.ref (a 1)])).length) Slot.unset).toArray = ls at hl ⊢
  have hl : lv_has ls 1 [(0, .ref (a 1))] := hl
  refine tq_gen (fun R Q hRe hQe => ?_)
  have hRf : 0 ≤ R.frames := by rw [hRe]; exact Nat.le_of_ble_eq_true rfl
  have hRl : 0 ≤ R.locals := by rw [hRe]; exact Nat.le_of_ble_eq_true rfl
  have hRc : 0 ≤ R.cells := by rw [hRe]; exact Nat.le_of_ble_eq_true rfl
  have hRs : 0 ≤ R.slots := by rw [hRe]; exact Nat.le_of_ble_eq_true rfl
  refine lv_aload_n hx hb dT_size_0 rfl (lv_at hl 0 rfl) ?_
  refine gf_T_42 (v := .int (nI (u.2.2 0))) hx hb hA hown hK hP 1 rfl rfl dT_size_1 ?_
  subst hQe
  exact W.iret (v := nI (u.2.2 0)) hx hb hr (fun t ht hW => ⟨⟨_, (), rfl, rfl, trivial⟩, hS.F ht⟩) hS.2.2 dT_size_4
set_option maxHeartbeats 4000000 in
set_option maxRecDepth 100000 in
/-- c_names -/
theorem c_names (l : Launch) (D : va_G) (a : Nat → Nat) (kI kL kZ : ClassId) (u : sU)  : Met l yT_names (wT_names :: wA) ({ frames := 0, cells := 0, slots := 0, locals := 0 }) (va_Pc [.ref (a 1)] (tq_rB D vwA (sW a kI kL kZ u) (sT kI kL kZ))) (va_Qi (fun r (_ : Unit) => r = nI (u.2.2 1)) (fun _ _ => True) (fun _ => False)) 0 0 (fun _ => False) := by
  refine Met.ofW (cc := bT_names) (maxL := 1) (ret := (some .int)) (by decide +kernel) rfl ?_
  intro p e s m args below meth c s₁ B1 hml hv
  obtain ⟨rfl, hP, hK⟩ := hv
  have hx := B1.exec
  have hb := B1.bytes
  have hr := B1.returns
  have hA : ∀ w ∈ wA, w.before ([.ref (a 1)] : List Value).toArray s = true := fun w h => atoms_spec (ws := wT_names :: wA) B1.pre w (List.mem_cons_of_mem _ h)
  have hown : s.vm.findClass RcT = some m.cls := findClass_of_methodNamed B1.named
  have hlocks := B1.notSynchronized
  have hS : va_S (fun _ => False) s.heap s.heap [] := va_S.rf
  have hl := lv_entry ([.ref (a 1)]) (n := 1) (Nat.le_of_ble_eq_true rfl)
  rw [lg_entry_eq]
  generalize (lg_sl ([.ref (a 1)]) ++ List.replicate (1 - (lg_sl ([.ref (a 1)])).length) Slot.unset).toArray = ls at hl ⊢
  have hl : lv_has ls 1 [(0, .ref (a 1))] := hl
  refine tq_gen (fun R Q hRe hQe => ?_)
  have hRf : 0 ≤ R.frames := by rw [hRe]; exact Nat.le_of_ble_eq_true rfl
  have hRl : 0 ≤ R.locals := by rw [hRe]; exact Nat.le_of_ble_eq_true rfl
  have hRc : 0 ≤ R.cells := by rw [hRe]; exact Nat.le_of_ble_eq_true rfl
  have hRs : 0 ≤ R.slots := by rw [hRe]; exact Nat.le_of_ble_eq_true rfl
  refine lv_aload_n hx hb dT_names_0 rfl (lv_at hl 0 rfl) ?_
  refine gf_T_46 (v := .int (nI (u.2.2 1))) hx hb hA hown hK hP 1 rfl rfl dT_names_1 ?_
  subst hQe
  exact W.iret (v := nI (u.2.2 1)) hx hb hr (fun t ht hW => ⟨⟨_, (), rfl, rfl, trivial⟩, hS.F ht⟩) hS.2.2 dT_names_4
set_option maxHeartbeats 4000000 in
set_option maxRecDepth 100000 in
/-- c_kind -/
theorem c_kind (l : Launch) (D : va_G) (a : Nat → Nat) (kI kL kZ : ClassId) (u : sU) (d : Nat) (hd : d < 160) : Met l yT_kind (wT_kind :: wA) ({ frames := 0, cells := 0, slots := 0, locals := 0 }) (va_Pc [.ref (a 1), .int (nI d)] (tq_rB D vwA (sW a kI kL kZ u) (sT kI kL kZ))) (va_Qi (fun r (_ : Unit) => r = u.2.1 0 d) (fun _ _ => True) (fun _ => False)) 0 0 (fun _ => False) := by
  refine Met.ofW (cc := bT_kind) (maxL := 2) (ret := (some .int)) (by decide +kernel) rfl ?_
  intro p e s m args below meth c s₁ B1 hml hv
  obtain ⟨rfl, hP, hK⟩ := hv
  have hx := B1.exec
  have hb := B1.bytes
  have hr := B1.returns
  have hA : ∀ w ∈ wA, w.before ([.ref (a 1), .int (nI d)] : List Value).toArray s = true := fun w h => atoms_spec (ws := wT_kind :: wA) B1.pre w (List.mem_cons_of_mem _ h)
  have hown : s.vm.findClass RcT = some m.cls := findClass_of_methodNamed B1.named
  have hlocks := B1.notSynchronized
  have hS : va_S (fun _ => False) s.heap s.heap [] := va_S.rf
  have hl := lv_entry ([.ref (a 1), .int (nI d)]) (n := 2) (Nat.le_of_ble_eq_true rfl)
  rw [lg_entry_eq]
  generalize (lg_sl ([.ref (a 1), .int (nI d)]) ++ List.replicate (2 - (lg_sl ([.ref (a 1), .int (nI d)])).length) Slot.unset).toArray = ls at hl ⊢
  have hl : lv_has ls 2 [(0, .ref (a 1)), (1, .int (nI d))] := hl
  refine tq_gen (fun R Q hRe hQe => ?_)
  have hRf : 0 ≤ R.frames := by rw [hRe]; exact Nat.le_of_ble_eq_true rfl
  have hRl : 0 ≤ R.locals := by rw [hRe]; exact Nat.le_of_ble_eq_true rfl
  have hRc : 0 ≤ R.cells := by rw [hRe]; exact Nat.le_of_ble_eq_true rfl
  have hRs : 0 ≤ R.slots := by rw [hRe]; exact Nat.le_of_ble_eq_true rfl
  refine lv_aload_n hx hb dT_kind_0 rfl (lv_at hl 0 rfl) ?_
  refine gf_T_9 (v := .ref (a 5)) hx hb hA hown hK hP 1 rfl rfl dT_kind_1 ?_
  refine lv_iload_n hx hb dT_kind_4 rfl (lv_at hl 1 rfl) ?_
  refine tq_iald hx hb hK hP 5 0 rfl rfl (by omega) (by omega) dT_kind_5 ?_
  subst hQe
  exact W.iret (v := (u.2.1 0) d) hx hb hr (fun t ht hW => ⟨⟨_, (), rfl, rfl, trivial⟩, hS.F ht⟩) hS.2.2 dT_kind_6
set_option maxHeartbeats 4000000 in
set_option maxRecDepth 100000 in
/-- c_left -/
theorem c_left (l : Launch) (D : va_G) (a : Nat → Nat) (kI kL kZ : ClassId) (u : sU) (d : Nat) (hd : d < 160) : Met l yT_left (wT_left :: wA) ({ frames := 0, cells := 0, slots := 0, locals := 0 }) (va_Pc [.ref (a 1), .int (nI d)] (tq_rB D vwA (sW a kI kL kZ u) (sT kI kL kZ))) (va_Qi (fun r (_ : Unit) => r = u.2.1 1 d) (fun _ _ => True) (fun _ => False)) 0 0 (fun _ => False) := by
  refine Met.ofW (cc := bT_left) (maxL := 2) (ret := (some .int)) (by decide +kernel) rfl ?_
  intro p e s m args below meth c s₁ B1 hml hv
  obtain ⟨rfl, hP, hK⟩ := hv
  have hx := B1.exec
  have hb := B1.bytes
  have hr := B1.returns
  have hA : ∀ w ∈ wA, w.before ([.ref (a 1), .int (nI d)] : List Value).toArray s = true := fun w h => atoms_spec (ws := wT_left :: wA) B1.pre w (List.mem_cons_of_mem _ h)
  have hown : s.vm.findClass RcT = some m.cls := findClass_of_methodNamed B1.named
  have hlocks := B1.notSynchronized
  have hS : va_S (fun _ => False) s.heap s.heap [] := va_S.rf
  have hl := lv_entry ([.ref (a 1), .int (nI d)]) (n := 2) (Nat.le_of_ble_eq_true rfl)
  rw [lg_entry_eq]
  generalize (lg_sl ([.ref (a 1), .int (nI d)]) ++ List.replicate (2 - (lg_sl ([.ref (a 1), .int (nI d)])).length) Slot.unset).toArray = ls at hl ⊢
  have hl : lv_has ls 2 [(0, .ref (a 1)), (1, .int (nI d))] := hl
  refine tq_gen (fun R Q hRe hQe => ?_)
  have hRf : 0 ≤ R.frames := by rw [hRe]; exact Nat.le_of_ble_eq_true rfl
  have hRl : 0 ≤ R.locals := by rw [hRe]; exact Nat.le_of_ble_eq_true rfl
  have hRc : 0 ≤ R.cells := by rw [hRe]; exact Nat.le_of_ble_eq_true rfl
  have hRs : 0 ≤ R.slots := by rw [hRe]; exact Nat.le_of_ble_eq_true rfl
  refine lv_aload_n hx hb dT_left_0 rfl (lv_at hl 0 rfl) ?_
  refine gf_T_15 (v := .ref (a 6)) hx hb hA hown hK hP 1 rfl rfl dT_left_1 ?_
  refine lv_iload_n hx hb dT_left_4 rfl (lv_at hl 1 rfl) ?_
  refine tq_iald hx hb hK hP 6 0 rfl rfl (by omega) (by omega) dT_left_5 ?_
  subst hQe
  exact W.iret (v := (u.2.1 1) d) hx hb hr (fun t ht hW => ⟨⟨_, (), rfl, rfl, trivial⟩, hS.F ht⟩) hS.2.2 dT_left_6
set_option maxHeartbeats 4000000 in
set_option maxRecDepth 100000 in
/-- c_right -/
theorem c_right (l : Launch) (D : va_G) (a : Nat → Nat) (kI kL kZ : ClassId) (u : sU) (d : Nat) (hd : d < 160) : Met l yT_right (wT_right :: wA) ({ frames := 0, cells := 0, slots := 0, locals := 0 }) (va_Pc [.ref (a 1), .int (nI d)] (tq_rB D vwA (sW a kI kL kZ u) (sT kI kL kZ))) (va_Qi (fun r (_ : Unit) => r = u.2.1 2 d) (fun _ _ => True) (fun _ => False)) 0 0 (fun _ => False) := by
  refine Met.ofW (cc := bT_right) (maxL := 2) (ret := (some .int)) (by decide +kernel) rfl ?_
  intro p e s m args below meth c s₁ B1 hml hv
  obtain ⟨rfl, hP, hK⟩ := hv
  have hx := B1.exec
  have hb := B1.bytes
  have hr := B1.returns
  have hA : ∀ w ∈ wA, w.before ([.ref (a 1), .int (nI d)] : List Value).toArray s = true := fun w h => atoms_spec (ws := wT_right :: wA) B1.pre w (List.mem_cons_of_mem _ h)
  have hown : s.vm.findClass RcT = some m.cls := findClass_of_methodNamed B1.named
  have hlocks := B1.notSynchronized
  have hS : va_S (fun _ => False) s.heap s.heap [] := va_S.rf
  have hl := lv_entry ([.ref (a 1), .int (nI d)]) (n := 2) (Nat.le_of_ble_eq_true rfl)
  rw [lg_entry_eq]
  generalize (lg_sl ([.ref (a 1), .int (nI d)]) ++ List.replicate (2 - (lg_sl ([.ref (a 1), .int (nI d)])).length) Slot.unset).toArray = ls at hl ⊢
  have hl : lv_has ls 2 [(0, .ref (a 1)), (1, .int (nI d))] := hl
  refine tq_gen (fun R Q hRe hQe => ?_)
  have hRf : 0 ≤ R.frames := by rw [hRe]; exact Nat.le_of_ble_eq_true rfl
  have hRl : 0 ≤ R.locals := by rw [hRe]; exact Nat.le_of_ble_eq_true rfl
  have hRc : 0 ≤ R.cells := by rw [hRe]; exact Nat.le_of_ble_eq_true rfl
  have hRs : 0 ≤ R.slots := by rw [hRe]; exact Nat.le_of_ble_eq_true rfl
  refine lv_aload_n hx hb dT_right_0 rfl (lv_at hl 0 rfl) ?_
  refine gf_T_18 (v := .ref (a 7)) hx hb hA hown hK hP 1 rfl rfl dT_right_1 ?_
  refine lv_iload_n hx hb dT_right_4 rfl (lv_at hl 1 rfl) ?_
  refine tq_iald hx hb hK hP 7 0 rfl rfl (by omega) (by omega) dT_right_5 ?_
  subst hQe
  exact W.iret (v := (u.2.1 2) d) hx hb hr (fun t ht hW => ⟨⟨_, (), rfl, rfl, trivial⟩, hS.F ht⟩) hS.2.2 dT_right_6
set_option maxHeartbeats 4000000 in
set_option maxRecDepth 100000 in
/-- c_isName -/
theorem c_isName (l : Launch) (D : va_G) (a : Nat → Nat) (kI kL kZ : ClassId) (u : sU) (d : Nat) (hd : d < 160) : Met l yT_isName (wT_isName :: wA) ({ frames := 0, cells := 0, slots := 0, locals := 0 }) (va_Pc [.ref (a 1), .int (nI d)] (tq_rB D vwA (sW a kI kL kZ u) (sT kI kL kZ))) (va_Qi (fun r (_ : Unit) => r = bI (decide (u.2.1 0 d = nI 1))) (fun _ _ => True) (fun _ => False)) 0 0 (fun _ => False) := by
  refine Met.ofW (cc := bT_isName) (maxL := 2) (ret := (some .boolean)) (by decide +kernel) rfl ?_
  intro p e s m args below meth c s₁ B1 hml hv
  obtain ⟨rfl, hP, hK⟩ := hv
  have hx := B1.exec
  have hb := B1.bytes
  have hr := B1.returns
  have hA : ∀ w ∈ wA, w.before ([.ref (a 1), .int (nI d)] : List Value).toArray s = true := fun w h => atoms_spec (ws := wT_isName :: wA) B1.pre w (List.mem_cons_of_mem _ h)
  have hown : s.vm.findClass RcT = some m.cls := findClass_of_methodNamed B1.named
  have hlocks := B1.notSynchronized
  have hS : va_S (fun _ => False) s.heap s.heap [] := va_S.rf
  have hl := lv_entry ([.ref (a 1), .int (nI d)]) (n := 2) (Nat.le_of_ble_eq_true rfl)
  rw [lg_entry_eq]
  generalize (lg_sl ([.ref (a 1), .int (nI d)]) ++ List.replicate (2 - (lg_sl ([.ref (a 1), .int (nI d)])).length) Slot.unset).toArray = ls at hl ⊢
  have hl : lv_has ls 2 [(0, .ref (a 1)), (1, .int (nI d))] := hl
  refine tq_gen (fun R Q hRe hQe => ?_)
  have hRf : 0 ≤ R.frames := by rw [hRe]; exact Nat.le_of_ble_eq_true rfl
  have hRl : 0 ≤ R.locals := by rw [hRe]; exact Nat.le_of_ble_eq_true rfl
  have hRc : 0 ≤ R.cells := by rw [hRe]; exact Nat.le_of_ble_eq_true rfl
  have hRs : 0 ≤ R.slots := by rw [hRe]; exact Nat.le_of_ble_eq_true rfl
  refine lv_aload_n hx hb dT_isName_0 rfl (lv_at hl 0 rfl) ?_
  refine gf_T_9 (v := .ref (a 5)) hx hb hA hown hK hP 1 rfl rfl dT_isName_1 ?_
  refine lv_iload_n hx hb dT_isName_4 rfl (lv_at hl 1 rfl) ?_
  refine tq_iald hx hb hK hP 5 0 rfl rfl (by omega) (by omega) dT_isName_5 ?_
  refine lv_iconst (v := nI 1) hx hb dT_isName_6 (by decide +kernel) ?_
  refine lv_icmp_ne hx hb dT_isName_7 (tgt := 14) (by decide) (fun h7 => ?_) (fun h7 => ?_)
  · refine lv_iconst (v := nI 0) hx hb dT_isName_14 (by decide +kernel) ?_
    subst hQe
    exact W.zret (v := nI 0) (ty := .boolean) hx hb hr rfl (fun t ht hW => ⟨⟨_, (), rfl, by simp [h7]; rfl, trivial⟩, hS.F ht⟩) hS.2.2 dT_isName_15
  · refine lv_iconst (v := nI 1) hx hb dT_isName_10 (by decide +kernel) ?_
    refine lv_goto hx hb dT_isName_11 (tgt := 15) (by decide) ?_
    subst hQe
    exact W.zret (v := nI 1) (ty := .boolean) hx hb hr rfl (fun t ht hW => ⟨⟨_, (), rfl, by simp [h7]; rfl, trivial⟩, hS.F ht⟩) hS.2.2 dT_isName_15
set_option maxHeartbeats 4000000 in
set_option maxRecDepth 100000 in
/-- c_findSome -/
theorem c_findSome (l : Launch) (D : va_G) (a : Nat → Nat) (kI kL kZ : ClassId) (u : sU) (i d : Nat) (hi : i < 6) (hd : d < 160) : Met l yT_findSome (wT_findSome :: wA) ({ frames := 0, cells := 0, slots := 0, locals := 0 }) (va_Pc [.ref (a 1), .int (nI i), .int (nI d)] (tq_rB D vwA (sW a kI kL kZ u) (sT kI kL kZ))) (va_Qi (fun r (_ : Unit) => r = u.2.1 3 (i * 160 + d)) (fun _ _ => True) (fun _ => False)) 0 0 (fun _ => False) := by
  refine Met.ofW (cc := bT_findSome) (maxL := 3) (ret := (some .int)) (by decide +kernel) rfl ?_
  intro p e s m args below meth c s₁ B1 hml hv
  obtain ⟨rfl, hP, hK⟩ := hv
  have hx := B1.exec
  have hb := B1.bytes
  have hr := B1.returns
  have hA : ∀ w ∈ wA, w.before ([.ref (a 1), .int (nI i), .int (nI d)] : List Value).toArray s = true := fun w h => atoms_spec (ws := wT_findSome :: wA) B1.pre w (List.mem_cons_of_mem _ h)
  have hown : s.vm.findClass RcT = some m.cls := findClass_of_methodNamed B1.named
  have hlocks := B1.notSynchronized
  have hS : va_S (fun _ => False) s.heap s.heap [] := va_S.rf
  have hl := lv_entry ([.ref (a 1), .int (nI i), .int (nI d)]) (n := 3) (Nat.le_of_ble_eq_true rfl)
  rw [lg_entry_eq]
  generalize (lg_sl ([.ref (a 1), .int (nI i), .int (nI d)]) ++ List.replicate (3 - (lg_sl ([.ref (a 1), .int (nI i), .int (nI d)])).length) Slot.unset).toArray = ls at hl ⊢
  have hl : lv_has ls 3 [(0, .ref (a 1)), (1, .int (nI i)), (2, .int (nI d))] := hl
  refine tq_gen (fun R Q hRe hQe => ?_)
  have hRf : 0 ≤ R.frames := by rw [hRe]; exact Nat.le_of_ble_eq_true rfl
  have hRl : 0 ≤ R.locals := by rw [hRe]; exact Nat.le_of_ble_eq_true rfl
  have hRc : 0 ≤ R.cells := by rw [hRe]; exact Nat.le_of_ble_eq_true rfl
  have hRs : 0 ≤ R.slots := by rw [hRe]; exact Nat.le_of_ble_eq_true rfl
  refine lv_aload_n hx hb dT_findSome_0 rfl (lv_at hl 0 rfl) ?_
  refine gf_T_21 (v := .ref (a 8)) hx hb hA hown hK hP 1 rfl rfl dT_findSome_1 ?_
  refine lv_iload_n hx hb dT_findSome_4 rfl (lv_at hl 1 rfl) ?_
  refine lv_sipush (v := nI 160) hx hb dT_findSome_5 (by decide +kernel) ?_
  refine tq_imul hx hb dT_findSome_8 ?_
  refine lv_iload_n hx hb dT_findSome_9 rfl (lv_at hl 2 rfl) ?_
  refine tq_iadd hx hb dT_findSome_10 ?_
  refine tq_iald hx hb hK hP 8 0 rfl rfl (by omega) (by omega) dT_findSome_11 ?_
  subst hQe
  exact W.iret (v := (u.2.1 3) ((i * 160) + d)) hx hb hr (fun t ht hW => ⟨⟨_, (), rfl, rfl, trivial⟩, hS.F ht⟩) hS.2.2 dT_findSome_12
set_option maxHeartbeats 4000000 in
set_option maxRecDepth 100000 in
/-- c_otherPart -/
theorem c_otherPart (l : Launch) (D : va_G) (a : Nat → Nat) (kI kL kZ : ClassId) (u : sU) (b d : Nat) (hb9 : b < 160) : Met l yT_otherPart (wT_otherPart :: wA) ({ frames := 0, cells := 0, slots := 0, locals := 0 }) (va_Pc [.ref (a 1), .int (nI b), .int (nI d)] (tq_rB D vwA (sW a kI kL kZ u) (sT kI kL kZ))) (va_Qi (fun r (_ : Unit) => r = if u.2.1 1 b = nI d then u.2.1 2 b else u.2.1 1 b) (fun _ _ => True) (fun _ => False)) 0 0 (fun _ => False) := by
  refine Met.ofW (cc := bT_otherPart) (maxL := 3) (ret := (some .int)) (by decide +kernel) rfl ?_
  intro p e s m args below meth c s₁ B1 hml hv
  obtain ⟨rfl, hP, hK⟩ := hv
  have hx := B1.exec
  have hb := B1.bytes
  have hr := B1.returns
  have hA : ∀ w ∈ wA, w.before ([.ref (a 1), .int (nI b), .int (nI d)] : List Value).toArray s = true := fun w h => atoms_spec (ws := wT_otherPart :: wA) B1.pre w (List.mem_cons_of_mem _ h)
  have hown : s.vm.findClass RcT = some m.cls := findClass_of_methodNamed B1.named
  have hlocks := B1.notSynchronized
  have hS : va_S (fun _ => False) s.heap s.heap [] := va_S.rf
  have hl := lv_entry ([.ref (a 1), .int (nI b), .int (nI d)]) (n := 3) (Nat.le_of_ble_eq_true rfl)
  rw [lg_entry_eq]
  generalize (lg_sl ([.ref (a 1), .int (nI b), .int (nI d)]) ++ List.replicate (3 - (lg_sl ([.ref (a 1), .int (nI b), .int (nI d)])).length) Slot.unset).toArray = ls at hl ⊢
  have hl : lv_has ls 3 [(0, .ref (a 1)), (1, .int (nI b)), (2, .int (nI d))] := hl
  refine tq_gen (fun R Q hRe hQe => ?_)
  have hRf : 0 ≤ R.frames := by rw [hRe]; exact Nat.le_of_ble_eq_true rfl
  have hRl : 0 ≤ R.locals := by rw [hRe]; exact Nat.le_of_ble_eq_true rfl
  have hRc : 0 ≤ R.cells := by rw [hRe]; exact Nat.le_of_ble_eq_true rfl
  have hRs : 0 ≤ R.slots := by rw [hRe]; exact Nat.le_of_ble_eq_true rfl
  refine lv_aload_n hx hb dT_otherPart_0 rfl (lv_at hl 0 rfl) ?_
  refine gf_T_15 (v := .ref (a 6)) hx hb hA hown hK hP 1 rfl rfl dT_otherPart_1 ?_
  refine lv_iload_n hx hb dT_otherPart_4 rfl (lv_at hl 1 rfl) ?_
  refine tq_iald hx hb hK hP 6 0 rfl rfl (by omega) (by omega) dT_otherPart_5 ?_
  refine lv_iload_n hx hb dT_otherPart_6 rfl (lv_at hl 2 rfl) ?_
  refine lv_icmp_ne hx hb dT_otherPart_7 (tgt := 19) (by decide) (fun h7 => ?_) (fun h7 => ?_)
  · refine lv_aload_n hx hb dT_otherPart_19 rfl (lv_at hl 0 rfl) ?_
    refine gf_T_15 (v := .ref (a 6)) hx hb hA hown hK hP 1 rfl rfl dT_otherPart_20 ?_
    refine lv_iload_n hx hb dT_otherPart_23 rfl (lv_at hl 1 rfl) ?_
    refine tq_iald hx hb hK hP 6 0 rfl rfl (by omega) (by omega) dT_otherPart_24 ?_
    subst hQe
    exact W.iret (v := (u.2.1 1) b) hx hb hr (fun t ht hW => ⟨⟨_, (), rfl, by simp [h7], trivial⟩, hS.F ht⟩) hS.2.2 dT_otherPart_25
  · refine lv_aload_n hx hb dT_otherPart_10 rfl (lv_at hl 0 rfl) ?_
    refine gf_T_18 (v := .ref (a 7)) hx hb hA hown hK hP 1 rfl rfl dT_otherPart_11 ?_
    refine lv_iload_n hx hb dT_otherPart_14 rfl (lv_at hl 1 rfl) ?_
    refine tq_iald hx hb hK hP 7 0 rfl rfl (by omega) (by omega) dT_otherPart_15 ?_
    refine lv_goto hx hb dT_otherPart_16 (tgt := 25) (by decide) ?_
    subst hQe
    exact W.iret (v := (u.2.1 2) b) hx hb hr (fun t ht hW => ⟨⟨_, (), rfl, by simp [h7], trivial⟩, hS.F ht⟩) hS.2.2 dT_otherPart_25
set_option maxHeartbeats 4000000 in
set_option maxRecDepth 100000 in
/-- c_told -/
theorem c_told (l : Launch) (D : va_G) (a : Nat → Nat) (kI kL kZ : ClassId) (u : sU)  : Met l yA_told (wA_told :: wA) ({ frames := 0, cells := 0, slots := 0, locals := 0 }) (va_Pc [.ref (a 2)] (tq_rB D vwA (sW a kI kL kZ u) (sT kI kL kZ))) (va_Qi (fun r (_ : Unit) => r = nI (u.2.2 2)) (fun _ _ => True) (fun _ => False)) 0 0 (fun _ => False) := by
  refine Met.ofW (cc := bA_told) (maxL := 1) (ret := (some .int)) (by decide +kernel) rfl ?_
  intro p e s m args below meth c s₁ B1 hml hv
  obtain ⟨rfl, hP, hK⟩ := hv
  have hx := B1.exec
  have hb := B1.bytes
  have hr := B1.returns
  have hA : ∀ w ∈ wA, w.before ([.ref (a 2)] : List Value).toArray s = true := fun w h => atoms_spec (ws := wA_told :: wA) B1.pre w (List.mem_cons_of_mem _ h)
  have hown : s.vm.findClass RcA = some m.cls := findClass_of_methodNamed B1.named
  have hlocks := B1.notSynchronized
  have hS : va_S (fun _ => False) s.heap s.heap [] := va_S.rf
  have hl := lv_entry ([.ref (a 2)]) (n := 1) (Nat.le_of_ble_eq_true rfl)
  rw [lg_entry_eq]
  generalize (lg_sl ([.ref (a 2)]) ++ List.replicate (1 - (lg_sl ([.ref (a 2)])).length) Slot.unset).toArray = ls at hl ⊢
  have hl : lv_has ls 1 [(0, .ref (a 2))] := hl
  refine tq_gen (fun R Q hRe hQe => ?_)
  have hRf : 0 ≤ R.frames := by rw [hRe]; exact Nat.le_of_ble_eq_true rfl
  have hRl : 0 ≤ R.locals := by rw [hRe]; exact Nat.le_of_ble_eq_true rfl
  have hRc : 0 ≤ R.cells := by rw [hRe]; exact Nat.le_of_ble_eq_true rfl
  have hRs : 0 ≤ R.slots := by rw [hRe]; exact Nat.le_of_ble_eq_true rfl
  refine lv_aload_n hx hb dA_told_0 rfl (lv_at hl 0 rfl) ?_
  refine gf_A_28 (v := .int (nI (u.2.2 2))) hx hb hA hown hK hP 2 rfl rfl dA_told_1 ?_
  subst hQe
  exact W.iret (v := nI (u.2.2 2)) hx hb hr (fun t ht hW => ⟨⟨_, (), rfl, rfl, trivial⟩, hS.F ht⟩) hS.2.2 dA_told_4
set_option maxHeartbeats 4000000 in
set_option maxRecDepth 100000 in
/-- c_inForce -/
theorem c_inForce (l : Launch) (D : va_G) (a : Nat → Nat) (kI kL kZ : ClassId) (u : sU)  : Met l yA_inForce (wA_inForce :: wA) ({ frames := 0, cells := 0, slots := 0, locals := 0 }) (va_Pc [.ref (a 2)] (tq_rB D vwA (sW a kI kL kZ u) (sT kI kL kZ))) (va_Qi (fun r (_ : Unit) => r = nI (u.2.2 3)) (fun _ _ => True) (fun _ => False)) 0 0 (fun _ => False) := by
  refine Met.ofW (cc := bA_inForce) (maxL := 1) (ret := (some .int)) (by decide +kernel) rfl ?_
  intro p e s m args below meth c s₁ B1 hml hv
  obtain ⟨rfl, hP, hK⟩ := hv
  have hx := B1.exec
  have hb := B1.bytes
  have hr := B1.returns
  have hA : ∀ w ∈ wA, w.before ([.ref (a 2)] : List Value).toArray s = true := fun w h => atoms_spec (ws := wA_inForce :: wA) B1.pre w (List.mem_cons_of_mem _ h)
  have hown : s.vm.findClass RcA = some m.cls := findClass_of_methodNamed B1.named
  have hlocks := B1.notSynchronized
  have hS : va_S (fun _ => False) s.heap s.heap [] := va_S.rf
  have hl := lv_entry ([.ref (a 2)]) (n := 1) (Nat.le_of_ble_eq_true rfl)
  rw [lg_entry_eq]
  generalize (lg_sl ([.ref (a 2)]) ++ List.replicate (1 - (lg_sl ([.ref (a 2)])).length) Slot.unset).toArray = ls at hl ⊢
  have hl : lv_has ls 1 [(0, .ref (a 2))] := hl
  refine tq_gen (fun R Q hRe hQe => ?_)
  have hRf : 0 ≤ R.frames := by rw [hRe]; exact Nat.le_of_ble_eq_true rfl
  have hRl : 0 ≤ R.locals := by rw [hRe]; exact Nat.le_of_ble_eq_true rfl
  have hRc : 0 ≤ R.cells := by rw [hRe]; exact Nat.le_of_ble_eq_true rfl
  have hRs : 0 ≤ R.slots := by rw [hRe]; exact Nat.le_of_ble_eq_true rfl
  refine lv_aload_n hx hb dA_inForce_0 rfl (lv_at hl 0 rfl) ?_
  refine gf_A_32 (v := .int (nI (u.2.2 3))) hx hb hA hown hK hP 2 rfl rfl dA_inForce_1 ?_
  subst hQe
  exact W.iret (v := nI (u.2.2 3)) hx hb hr (fun t ht hW => ⟨⟨_, (), rfl, rfl, trivial⟩, hS.F ht⟩) hS.2.2 dA_inForce_4
set_option maxHeartbeats 4000000 in
set_option maxRecDepth 100000 in
/-- c_axkind -/
theorem c_axkind (l : Launch) (D : va_G) (a : Nat → Nat) (kI kL kZ : ClassId) (u : sU) (k : Nat) (h1 : 1 ≤ k) (h2 : k ≤ 100) : Met l yA_kind (wA_kind :: wA) ({ frames := 0, cells := 0, slots := 0, locals := 0 }) (va_Pc [.ref (a 2), .int (nI k)] (tq_rB D vwA (sW a kI kL kZ u) (sT kI kL kZ))) (va_Qi (fun r (_ : Unit) => r = u.2.1 4 (k - 1)) (fun _ _ => True) (fun _ => False)) 0 0 (fun _ => False) := by
  refine Met.ofW (cc := bA_kind) (maxL := 2) (ret := (some .int)) (by decide +kernel) rfl ?_
  intro p e s m args below meth c s₁ B1 hml hv
  obtain ⟨rfl, hP, hK⟩ := hv
  have hx := B1.exec
  have hb := B1.bytes
  have hr := B1.returns
  have hA : ∀ w ∈ wA, w.before ([.ref (a 2), .int (nI k)] : List Value).toArray s = true := fun w h => atoms_spec (ws := wA_kind :: wA) B1.pre w (List.mem_cons_of_mem _ h)
  have hown : s.vm.findClass RcA = some m.cls := findClass_of_methodNamed B1.named
  have hlocks := B1.notSynchronized
  have hS : va_S (fun _ => False) s.heap s.heap [] := va_S.rf
  have hl := lv_entry ([.ref (a 2), .int (nI k)]) (n := 2) (Nat.le_of_ble_eq_true rfl)
  rw [lg_entry_eq]
  generalize (lg_sl ([.ref (a 2), .int (nI k)]) ++ List.replicate (2 - (lg_sl ([.ref (a 2), .int (nI k)])).length) Slot.unset).toArray = ls at hl ⊢
  have hl : lv_has ls 2 [(0, .ref (a 2)), (1, .int (nI k))] := hl
  refine tq_gen (fun R Q hRe hQe => ?_)
  have hRf : 0 ≤ R.frames := by rw [hRe]; exact Nat.le_of_ble_eq_true rfl
  have hRl : 0 ≤ R.locals := by rw [hRe]; exact Nat.le_of_ble_eq_true rfl
  have hRc : 0 ≤ R.cells := by rw [hRe]; exact Nat.le_of_ble_eq_true rfl
  have hRs : 0 ≤ R.slots := by rw [hRe]; exact Nat.le_of_ble_eq_true rfl
  refine lv_aload_n hx hb dA_kind_0 rfl (lv_at hl 0 rfl) ?_
  refine gf_A_9 (v := .ref (a 9)) hx hb hA hown hK hP 2 rfl rfl dA_kind_1 ?_
  refine lv_iload_n hx hb dA_kind_4 rfl (lv_at hl 1 rfl) ?_
  refine lv_iconst (v := nI 1) hx hb dA_kind_5 (by decide +kernel) ?_
  refine tq_isub hx hb dA_kind_6 (by omega) ?_
  refine tq_iald hx hb hK hP 9 0 rfl rfl (by omega) (by omega) dA_kind_7 ?_
  subst hQe
  exact W.iret (v := (u.2.1 4) (k - 1)) hx hb hr (fun t ht hW => ⟨⟨_, (), rfl, rfl, trivial⟩, hS.F ht⟩) hS.2.2 dA_kind_8
set_option maxHeartbeats 4000000 in
set_option maxRecDepth 100000 in
/-- c_axfirst -/
theorem c_axfirst (l : Launch) (D : va_G) (a : Nat → Nat) (kI kL kZ : ClassId) (u : sU) (k : Nat) (h1 : 1 ≤ k) (h2 : k ≤ 100) : Met l yA_first (wA_first :: wA) ({ frames := 0, cells := 0, slots := 0, locals := 0 }) (va_Pc [.ref (a 2), .int (nI k)] (tq_rB D vwA (sW a kI kL kZ u) (sT kI kL kZ))) (va_Qi (fun r (_ : Unit) => r = u.2.1 5 (k - 1)) (fun _ _ => True) (fun _ => False)) 0 0 (fun _ => False) := by
  refine Met.ofW (cc := bA_first) (maxL := 2) (ret := (some .int)) (by decide +kernel) rfl ?_
  intro p e s m args below meth c s₁ B1 hml hv
  obtain ⟨rfl, hP, hK⟩ := hv
  have hx := B1.exec
  have hb := B1.bytes
  have hr := B1.returns
  have hA : ∀ w ∈ wA, w.before ([.ref (a 2), .int (nI k)] : List Value).toArray s = true := fun w h => atoms_spec (ws := wA_first :: wA) B1.pre w (List.mem_cons_of_mem _ h)
  have hown : s.vm.findClass RcA = some m.cls := findClass_of_methodNamed B1.named
  have hlocks := B1.notSynchronized
  have hS : va_S (fun _ => False) s.heap s.heap [] := va_S.rf
  have hl := lv_entry ([.ref (a 2), .int (nI k)]) (n := 2) (Nat.le_of_ble_eq_true rfl)
  rw [lg_entry_eq]
  generalize (lg_sl ([.ref (a 2), .int (nI k)]) ++ List.replicate (2 - (lg_sl ([.ref (a 2), .int (nI k)])).length) Slot.unset).toArray = ls at hl ⊢
  have hl : lv_has ls 2 [(0, .ref (a 2)), (1, .int (nI k))] := hl
  refine tq_gen (fun R Q hRe hQe => ?_)
  have hRf : 0 ≤ R.frames := by rw [hRe]; exact Nat.le_of_ble_eq_true rfl
  have hRl : 0 ≤ R.locals := by rw [hRe]; exact Nat.le_of_ble_eq_true rfl
  have hRc : 0 ≤ R.cells := by rw [hRe]; exact Nat.le_of_ble_eq_true rfl
  have hRs : 0 ≤ R.slots := by rw [hRe]; exact Nat.le_of_ble_eq_true rfl
  refine lv_aload_n hx hb dA_first_0 rfl (lv_at hl 0 rfl) ?_
  refine gf_A_15 (v := .ref (a 10)) hx hb hA hown hK hP 2 rfl rfl dA_first_1 ?_
  refine lv_iload_n hx hb dA_first_4 rfl (lv_at hl 1 rfl) ?_
  refine lv_iconst (v := nI 1) hx hb dA_first_5 (by decide +kernel) ?_
  refine tq_isub hx hb dA_first_6 (by omega) ?_
  refine tq_iald hx hb hK hP 10 0 rfl rfl (by omega) (by omega) dA_first_7 ?_
  subst hQe
  exact W.iret (v := (u.2.1 5) (k - 1)) hx hb hr (fun t ht hW => ⟨⟨_, (), rfl, rfl, trivial⟩, hS.F ht⟩) hS.2.2 dA_first_8
set_option maxHeartbeats 4000000 in
set_option maxRecDepth 100000 in
/-- c_axsecond -/
theorem c_axsecond (l : Launch) (D : va_G) (a : Nat → Nat) (kI kL kZ : ClassId) (u : sU) (k : Nat) (h1 : 1 ≤ k) (h2 : k ≤ 100) : Met l yA_second (wA_second :: wA) ({ frames := 0, cells := 0, slots := 0, locals := 0 }) (va_Pc [.ref (a 2), .int (nI k)] (tq_rB D vwA (sW a kI kL kZ u) (sT kI kL kZ))) (va_Qi (fun r (_ : Unit) => r = u.2.1 6 (k - 1)) (fun _ _ => True) (fun _ => False)) 0 0 (fun _ => False) := by
  refine Met.ofW (cc := bA_second) (maxL := 2) (ret := (some .int)) (by decide +kernel) rfl ?_
  intro p e s m args below meth c s₁ B1 hml hv
  obtain ⟨rfl, hP, hK⟩ := hv
  have hx := B1.exec
  have hb := B1.bytes
  have hr := B1.returns
  have hA : ∀ w ∈ wA, w.before ([.ref (a 2), .int (nI k)] : List Value).toArray s = true := fun w h => atoms_spec (ws := wA_second :: wA) B1.pre w (List.mem_cons_of_mem _ h)
  have hown : s.vm.findClass RcA = some m.cls := findClass_of_methodNamed B1.named
  have hlocks := B1.notSynchronized
  have hS : va_S (fun _ => False) s.heap s.heap [] := va_S.rf
  have hl := lv_entry ([.ref (a 2), .int (nI k)]) (n := 2) (Nat.le_of_ble_eq_true rfl)
  rw [lg_entry_eq]
  generalize (lg_sl ([.ref (a 2), .int (nI k)]) ++ List.replicate (2 - (lg_sl ([.ref (a 2), .int (nI k)])).length) Slot.unset).toArray = ls at hl ⊢
  have hl : lv_has ls 2 [(0, .ref (a 2)), (1, .int (nI k))] := hl
  refine tq_gen (fun R Q hRe hQe => ?_)
  have hRf : 0 ≤ R.frames := by rw [hRe]; exact Nat.le_of_ble_eq_true rfl
  have hRl : 0 ≤ R.locals := by rw [hRe]; exact Nat.le_of_ble_eq_true rfl
  have hRc : 0 ≤ R.cells := by rw [hRe]; exact Nat.le_of_ble_eq_true rfl
  have hRs : 0 ≤ R.slots := by rw [hRe]; exact Nat.le_of_ble_eq_true rfl
  refine lv_aload_n hx hb dA_second_0 rfl (lv_at hl 0 rfl) ?_
  refine gf_A_18 (v := .ref (a 11)) hx hb hA hown hK hP 2 rfl rfl dA_second_1 ?_
  refine lv_iload_n hx hb dA_second_4 rfl (lv_at hl 1 rfl) ?_
  refine lv_iconst (v := nI 1) hx hb dA_second_5 (by decide +kernel) ?_
  refine tq_isub hx hb dA_second_6 (by omega) ?_
  refine tq_iald hx hb hK hP 11 0 rfl rfl (by omega) (by omega) dA_second_7 ?_
  subst hQe
  exact W.iret (v := (u.2.1 6) (k - 1)) hx hb hr (fun t ht hW => ⟨⟨_, (), rfl, rfl, trivial⟩, hS.F ht⟩) hS.2.2 dA_second_8
set_option maxHeartbeats 4000000 in
set_option maxRecDepth 100000 in
/-- c_axthird -/
theorem c_axthird (l : Launch) (D : va_G) (a : Nat → Nat) (kI kL kZ : ClassId) (u : sU) (k : Nat) (h1 : 1 ≤ k) (h2 : k ≤ 100) : Met l yA_third (wA_third :: wA) ({ frames := 0, cells := 0, slots := 0, locals := 0 }) (va_Pc [.ref (a 2), .int (nI k)] (tq_rB D vwA (sW a kI kL kZ u) (sT kI kL kZ))) (va_Qi (fun r (_ : Unit) => r = u.2.1 7 (k - 1)) (fun _ _ => True) (fun _ => False)) 0 0 (fun _ => False) := by
  refine Met.ofW (cc := bA_third) (maxL := 2) (ret := (some .int)) (by decide +kernel) rfl ?_
  intro p e s m args below meth c s₁ B1 hml hv
  obtain ⟨rfl, hP, hK⟩ := hv
  have hx := B1.exec
  have hb := B1.bytes
  have hr := B1.returns
  have hA : ∀ w ∈ wA, w.before ([.ref (a 2), .int (nI k)] : List Value).toArray s = true := fun w h => atoms_spec (ws := wA_third :: wA) B1.pre w (List.mem_cons_of_mem _ h)
  have hown : s.vm.findClass RcA = some m.cls := findClass_of_methodNamed B1.named
  have hlocks := B1.notSynchronized
  have hS : va_S (fun _ => False) s.heap s.heap [] := va_S.rf
  have hl := lv_entry ([.ref (a 2), .int (nI k)]) (n := 2) (Nat.le_of_ble_eq_true rfl)
  rw [lg_entry_eq]
  generalize (lg_sl ([.ref (a 2), .int (nI k)]) ++ List.replicate (2 - (lg_sl ([.ref (a 2), .int (nI k)])).length) Slot.unset).toArray = ls at hl ⊢
  have hl : lv_has ls 2 [(0, .ref (a 2)), (1, .int (nI k))] := hl
  refine tq_gen (fun R Q hRe hQe => ?_)
  have hRf : 0 ≤ R.frames := by rw [hRe]; exact Nat.le_of_ble_eq_true rfl
  have hRl : 0 ≤ R.locals := by rw [hRe]; exact Nat.le_of_ble_eq_true rfl
  have hRc : 0 ≤ R.cells := by rw [hRe]; exact Nat.le_of_ble_eq_true rfl
  have hRs : 0 ≤ R.slots := by rw [hRe]; exact Nat.le_of_ble_eq_true rfl
  refine lv_aload_n hx hb dA_third_0 rfl (lv_at hl 0 rfl) ?_
  refine gf_A_21 (v := .ref (a 12)) hx hb hA hown hK hP 2 rfl rfl dA_third_1 ?_
  refine lv_iload_n hx hb dA_third_4 rfl (lv_at hl 1 rfl) ?_
  refine lv_iconst (v := nI 1) hx hb dA_third_5 (by decide +kernel) ?_
  refine tq_isub hx hb dA_third_6 (by omega) ?_
  refine tq_iald hx hb hK hP 12 0 rfl rfl (by omega) (by omega) dA_third_7 ?_
  subst hQe
  exact W.iret (v := (u.2.1 7) (k - 1)) hx hb hr (fun t ht hW => ⟨⟨_, (), rfl, rfl, trivial⟩, hS.F ht⟩) hS.2.2 dA_third_8
set_option maxHeartbeats 4000000 in
set_option maxRecDepth 100000 in
/-- c_isInForce -/
theorem c_isInForce (l : Launch) (D : va_G) (a : Nat → Nat) (kI kL kZ : ClassId) (u : sU) (x : Int32) (hT : u.2.2 2 ≤ 100) : Met l yA_isInForce (wA_isInForce :: wA) ({ frames := 0, cells := 0, slots := 0, locals := 0 }) (va_Pc [.ref (a 2), .int x] (tq_rB D vwA (sW a kI kL kZ u) (sT kI kL kZ))) (va_Qi (fun r (_ : Unit) => r = bI (s_inf u x)) (fun _ _ => True) (fun _ => False)) 0 0 (fun _ => False) := by
  refine Met.ofW (cc := bA_isInForce) (maxL := 2) (ret := (some .boolean)) (by decide +kernel) rfl ?_
  intro p e s m args below meth c s₁ B1 hml hv
  obtain ⟨rfl, hP, hK⟩ := hv
  have hx := B1.exec
  have hb := B1.bytes
  have hr := B1.returns
  have hA : ∀ w ∈ wA, w.before ([.ref (a 2), .int x] : List Value).toArray s = true := fun w h => atoms_spec (ws := wA_isInForce :: wA) B1.pre w (List.mem_cons_of_mem _ h)
  have hown : s.vm.findClass RcA = some m.cls := findClass_of_methodNamed B1.named
  have hlocks := B1.notSynchronized
  have hS : va_S (fun _ => False) s.heap s.heap [] := va_S.rf
  have hl := lv_entry ([.ref (a 2), .int x]) (n := 2) (Nat.le_of_ble_eq_true rfl)
  rw [lg_entry_eq]
  generalize (lg_sl ([.ref (a 2), .int x]) ++ List.replicate (2 - (lg_sl ([.ref (a 2), .int x])).length) Slot.unset).toArray = ls at hl ⊢
  have hl : lv_has ls 2 [(0, .ref (a 2)), (1, .int x)] := hl
  refine tq_gen (fun R Q hRe hQe => ?_)
  have hRf : 0 ≤ R.frames := by rw [hRe]; exact Nat.le_of_ble_eq_true rfl
  have hRl : 0 ≤ R.locals := by rw [hRe]; exact Nat.le_of_ble_eq_true rfl
  have hRc : 0 ≤ R.cells := by rw [hRe]; exact Nat.le_of_ble_eq_true rfl
  have hRs : 0 ≤ R.slots := by rw [hRe]; exact Nat.le_of_ble_eq_true rfl
  refine lv_iload_n hx hb dA_isInForce_0 rfl (lv_at hl 1 rfl) ?_
  refine lv_iconst (v := nI 1) hx hb dA_isInForce_1 (by decide +kernel) ?_
  refine lv_icmp_lt hx hb dA_isInForce_2 (tgt := 28) (by decide) (fun h2 => ?_) (fun h2 => ?_)
  · have hz := s_inf_lo (u := u) h2
    refine lv_iconst (v := nI 0) hx hb dA_isInForce_28 (by decide +kernel) ?_
    subst hQe
    exact W.zret (v := nI 0) (ty := .boolean) hx hb hr rfl (fun t ht hW => ⟨⟨_, (), rfl, by rw [hz]; rfl, trivial⟩, hS.F ht⟩) hS.2.2 dA_isInForce_29
  · refine lv_iload_n hx hb dA_isInForce_5 rfl (lv_at hl 1 rfl) ?_
    refine lv_aload_n hx hb dA_isInForce_6 rfl (lv_at hl 0 rfl) ?_
    refine gf_A_28 (v := .int (nI (u.2.2 2))) hx hb hA hown hK hP 2 rfl rfl dA_isInForce_7 ?_
    refine lv_icmp_gt hx hb dA_isInForce_10 (tgt := 28) (by decide) (fun h10 => ?_) (fun h10 => ?_)
    · have hz := s_inf_hi (u := u) h10 hT
      refine lv_iconst (v := nI 0) hx hb dA_isInForce_28 (by decide +kernel) ?_
      subst hQe
      exact W.zret (v := nI 0) (ty := .boolean) hx hb hr rfl (fun t ht hW => ⟨⟨_, (), rfl, by rw [hz]; rfl, trivial⟩, hS.F ht⟩) hS.2.2 dA_isInForce_29
    · obtain ⟨k, hk1, hk2, rfl⟩ := tq_le1 (by omega) h2 h10
      refine lv_aload_n hx hb dA_isInForce_13 rfl (lv_at hl 0 rfl) ?_
      refine gf_A_24 (v := .ref (a 13)) hx hb hA hown hK hP 2 rfl rfl dA_isInForce_14 ?_
      refine lv_iload_n hx hb dA_isInForce_17 rfl (lv_at hl 1 rfl) ?_
      refine lv_iconst (v := nI 1) hx hb dA_isInForce_18 (by decide +kernel) ?_
      refine tq_isub hx hb dA_isInForce_19 (by omega) ?_
      refine tq_zald hx hb hK hP 13 2 rfl rfl (by omega) (by omega) dA_isInForce_20 ?_
      refine lv_if_ne hx hb dA_isInForce_21 (tgt := 28) (by decide) (fun h21 => ?_) (fun h21 => ?_)
      · have hz : s_inf u (nI k) = false := by rw [s_inf_k hk1 hk2 hT]; simpa using h21
        refine lv_iconst (v := nI 0) hx hb dA_isInForce_28 (by decide +kernel) ?_
        subst hQe
        exact W.zret (v := nI 0) (ty := .boolean) hx hb hr rfl (fun t ht hW => ⟨⟨_, (), rfl, by rw [hz]; rfl, trivial⟩, hS.F ht⟩) hS.2.2 dA_isInForce_29
      · have hz : s_inf u (nI k) = true := by rw [s_inf_k hk1 hk2 hT]; simpa using h21
        refine lv_iconst (v := nI 1) hx hb dA_isInForce_24 (by decide +kernel) ?_
        refine lv_goto hx hb dA_isInForce_25 (tgt := 29) (by decide) ?_
        subst hQe
        exact W.zret (v := nI 1) (ty := .boolean) hx hb hr rfl (fun t ht hW => ⟨⟨_, (), rfl, by rw [hz]; rfl, trivial⟩, hS.F ht⟩) hS.2.2 dA_isInForce_29
set_option maxHeartbeats 4000000 in
set_option maxRecDepth 100000 in
/-- c_tell -/
theorem c_tell (l : Launch) (D : va_G) (a : Nat → Nat) (kI kL kZ : ClassId) (u : sU) (k x y z : Int32) (hT : u.2.2 2 ≤ 100) (hF : u.2.2 3 ≤ 100) : Met l yA_tell (wA_tell :: wA) ({ frames := 0, cells := 0, slots := 0, locals := 0 }) (va_Pc [.ref (a 2), .int k, .int x, .int y, .int z] (tq_wB D vwA (sW a kI kL kZ u) (sT kI kL kZ))) (va_Qi (fun r (u' : sU) => (u.2.2 2 < 100 → r = nI (u.2.2 2 + 1) ∧ u' = s_tell u k x y z) ∧ (¬ u.2.2 2 < 100 → r = -1 ∧ u' = u)) (fun u' t => va_P D vwA (sW a kI kL kZ u') t.heap) (sA a)) 0 0 (sA a) := by
  refine Met.ofW (cc := bA_tell) (maxL := 5) (ret := (some .int)) (by decide +kernel) rfl ?_
  intro p e s m args below meth c s₁ B1 hml hv
  obtain ⟨rfl, hP, hK, hD0⟩ := hv
  have hx := B1.exec
  have hb := B1.bytes
  have hr := B1.returns
  have hA : ∀ w ∈ wA, w.before ([.ref (a 2), .int k, .int x, .int y, .int z] : List Value).toArray s = true := fun w h => atoms_spec (ws := wA_tell :: wA) B1.pre w (List.mem_cons_of_mem _ h)
  have hown : s.vm.findClass RcA = some m.cls := findClass_of_methodNamed B1.named
  have hlocks := B1.notSynchronized
  have hS : va_S (sA a) s.heap s.heap [] := va_S.rf
  have hl := lv_entry ([.ref (a 2), .int k, .int x, .int y, .int z]) (n := 5) (Nat.le_of_ble_eq_true rfl)
  rw [lg_entry_eq]
  generalize (lg_sl ([.ref (a 2), .int k, .int x, .int y, .int z]) ++ List.replicate (5 - (lg_sl ([.ref (a 2), .int k, .int x, .int y, .int z])).length) Slot.unset).toArray = ls at hl ⊢
  have hl : lv_has ls 5 [(0, .ref (a 2)), (1, .int k), (2, .int x), (3, .int y), (4, .int z)] := hl
  refine tq_gen (fun R Q hRe hQe => ?_)
  have hRf : 0 ≤ R.frames := by rw [hRe]; exact Nat.le_of_ble_eq_true rfl
  have hRl : 0 ≤ R.locals := by rw [hRe]; exact Nat.le_of_ble_eq_true rfl
  have hRc : 0 ≤ R.cells := by rw [hRe]; exact Nat.le_of_ble_eq_true rfl
  have hRs : 0 ≤ R.slots := by rw [hRe]; exact Nat.le_of_ble_eq_true rfl
  have hD := sA_D hD0
  refine lv_aload_n hx hb dA_tell_0 rfl (lv_at hl 0 rfl) ?_
  refine gf_A_28 (v := .int (nI (u.2.2 2))) hx hb hA hown hK hP 2 rfl rfl dA_tell_1 ?_
  refine lv_bipush (v := nI 100) hx hb dA_tell_4 (by decide +kernel) ?_
  refine tq_lt hx hb dA_tell_6 (tgt := 11) (by decide) (by omega) (by omega) (fun h6 => ?_) (fun h6 => ?_)
  · refine lv_aload_n hx hb dA_tell_11 rfl (lv_at hl 0 rfl) ?_
    refine gf_A_9 (v := .ref (a 9)) hx hb hA hown hK hP 2 rfl rfl dA_tell_12 ?_
    refine lv_aload_n hx hb dA_tell_15 rfl (lv_at hl 0 rfl) ?_
    refine gf_A_28 (v := .int (nI (u.2.2 2))) hx hb hA hown hK hP 2 rfl rfl dA_tell_16 ?_
    refine lv_iload_n hx hb dA_tell_19 rfl (lv_at hl 1 rfl) ?_
    refine tq_iast hx hb hK hP hD hS 9 0 rfl rfl (by omega) (by omega) dA_tell_20 (fun H locs hP hD hS => ?_)
    have hP : va_P D vwA (sW a kI kL kZ (u.1, va_up u.2.1 4 (upd (u.2.1 4) (u.2.2 2) k), u.2.2)) H := hP
    have hD : va_D (sA a) (sW a kI kL kZ (u.1, va_up u.2.1 4 (upd (u.2.1 4) (u.2.2 2) k), u.2.2)) := hD
    refine lv_aload_n hx hb dA_tell_21 rfl (lv_at hl 0 rfl) ?_
    refine gf_A_15 (v := .ref (a 10)) hx hb hA hown hK hP 2 rfl rfl dA_tell_22 ?_
    refine lv_aload_n hx hb dA_tell_25 rfl (lv_at hl 0 rfl) ?_
    refine gf_A_28 (v := .int (nI (u.2.2 2))) hx hb hA hown hK hP 2 rfl rfl dA_tell_26 ?_
    refine lv_iload_n hx hb dA_tell_29 rfl (lv_at hl 2 rfl) ?_
    refine tq_iast hx hb hK hP hD hS 10 0 rfl rfl (by omega) (by omega) dA_tell_30 (fun H locs hP hD hS => ?_)
    have hP : va_P D vwA (sW a kI kL kZ (u.1, va_up (va_up u.2.1 4 (upd (u.2.1 4) (u.2.2 2) k)) 5 (upd (u.2.1 5) (u.2.2 2) x), u.2.2)) H := hP
    have hD : va_D (sA a) (sW a kI kL kZ (u.1, va_up (va_up u.2.1 4 (upd (u.2.1 4) (u.2.2 2) k)) 5 (upd (u.2.1 5) (u.2.2 2) x), u.2.2)) := hD
    refine lv_aload_n hx hb dA_tell_31 rfl (lv_at hl 0 rfl) ?_
    refine gf_A_18 (v := .ref (a 11)) hx hb hA hown hK hP 2 rfl rfl dA_tell_32 ?_
    refine lv_aload_n hx hb dA_tell_35 rfl (lv_at hl 0 rfl) ?_
    refine gf_A_28 (v := .int (nI (u.2.2 2))) hx hb hA hown hK hP 2 rfl rfl dA_tell_36 ?_
    refine lv_iload_n hx hb dA_tell_39 rfl (lv_at hl 3 rfl) ?_
    refine tq_iast hx hb hK hP hD hS 11 0 rfl rfl (by omega) (by omega) dA_tell_40 (fun H locs hP hD hS => ?_)
    have hP : va_P D vwA (sW a kI kL kZ (u.1, va_up (va_up (va_up u.2.1 4 (upd (u.2.1 4) (u.2.2 2) k)) 5 (upd (u.2.1 5) (u.2.2 2) x)) 6 (upd (u.2.1 6) (u.2.2 2) y), u.2.2)) H := hP
    have hD : va_D (sA a) (sW a kI kL kZ (u.1, va_up (va_up (va_up u.2.1 4 (upd (u.2.1 4) (u.2.2 2) k)) 5 (upd (u.2.1 5) (u.2.2 2) x)) 6 (upd (u.2.1 6) (u.2.2 2) y), u.2.2)) := hD
    refine lv_aload_n hx hb dA_tell_41 rfl (lv_at hl 0 rfl) ?_
    refine gf_A_21 (v := .ref (a 12)) hx hb hA hown hK hP 2 rfl rfl dA_tell_42 ?_
    refine lv_aload_n hx hb dA_tell_45 rfl (lv_at hl 0 rfl) ?_
    refine gf_A_28 (v := .int (nI (u.2.2 2))) hx hb hA hown hK hP 2 rfl rfl dA_tell_46 ?_
    refine lv_iload hx hb dA_tell_49 (lv_at hl 4 rfl) ?_
    refine tq_iast hx hb hK hP hD hS 12 0 rfl rfl (by omega) (by omega) dA_tell_51 (fun H locs hP hD hS => ?_)
    have hP : va_P D vwA (sW a kI kL kZ (u.1, va_up (va_up (va_up (va_up u.2.1 4 (upd (u.2.1 4) (u.2.2 2) k)) 5 (upd (u.2.1 5) (u.2.2 2) x)) 6 (upd (u.2.1 6) (u.2.2 2) y)) 7 (upd (u.2.1 7) (u.2.2 2) z), u.2.2)) H := hP
    have hD : va_D (sA a) (sW a kI kL kZ (u.1, va_up (va_up (va_up (va_up u.2.1 4 (upd (u.2.1 4) (u.2.2 2) k)) 5 (upd (u.2.1 5) (u.2.2 2) x)) 6 (upd (u.2.1 6) (u.2.2 2) y)) 7 (upd (u.2.1 7) (u.2.2 2) z), u.2.2)) := hD
    refine lv_aload_n hx hb dA_tell_52 rfl (lv_at hl 0 rfl) ?_
    refine lv_dup hx hb dA_tell_53 rfl ?_
    refine gf_A_28 (v := .int (nI (u.2.2 2))) hx hb hA hown hK hP 2 rfl rfl dA_tell_54 ?_
    refine lv_iconst (v := nI 1) hx hb dA_tell_57 (by decide +kernel) ?_
    refine tq_iadd hx hb dA_tell_58 ?_
    refine pf_A_28 (v := .int (nI ((u.2.2 2) + 1))) hx hb hA hown hK hP hD hS 2 rfl rfl rfl (Nat.le_of_ble_eq_true rfl) dA_tell_59 (fun H locs hP hD hS => ?_)
    have hP : va_P D vwA (sW a kI kL kZ (u.1, va_up (va_up (va_up (va_up u.2.1 4 (upd (u.2.1 4) (u.2.2 2) k)) 5 (upd (u.2.1 5) (u.2.2 2) x)) 6 (upd (u.2.1 6) (u.2.2 2) y)) 7 (upd (u.2.1 7) (u.2.2 2) z), va_up u.2.2 2 ((u.2.2 2) + 1))) H := hP
    have hD : va_D (sA a) (sW a kI kL kZ (u.1, va_up (va_up (va_up (va_up u.2.1 4 (upd (u.2.1 4) (u.2.2 2) k)) 5 (upd (u.2.1 5) (u.2.2 2) x)) 6 (upd (u.2.1 6) (u.2.2 2) y)) 7 (upd (u.2.1 7) (u.2.2 2) z), va_up u.2.2 2 ((u.2.2 2) + 1))) := hD
    refine lv_aload_n hx hb dA_tell_62 rfl (lv_at hl 0 rfl) ?_
    refine lv_dup hx hb dA_tell_63 rfl ?_
    refine gf_A_32 (v := .int (nI (u.2.2 3))) hx hb hA hown hK hP 2 rfl rfl dA_tell_64 ?_
    refine lv_iconst (v := nI 1) hx hb dA_tell_67 (by decide +kernel) ?_
    refine tq_iadd hx hb dA_tell_68 ?_
    refine pf_A_32 (v := .int (nI ((u.2.2 3) + 1))) hx hb hA hown hK hP hD hS 2 rfl rfl rfl (Nat.le_of_ble_eq_true rfl) dA_tell_69 (fun H locs hP hD hS => ?_)
    have hP : va_P D vwA (sW a kI kL kZ (u.1, va_up (va_up (va_up (va_up u.2.1 4 (upd (u.2.1 4) (u.2.2 2) k)) 5 (upd (u.2.1 5) (u.2.2 2) x)) 6 (upd (u.2.1 6) (u.2.2 2) y)) 7 (upd (u.2.1 7) (u.2.2 2) z), va_up (va_up u.2.2 2 ((u.2.2 2) + 1)) 3 ((u.2.2 3) + 1))) H := hP
    have hD : va_D (sA a) (sW a kI kL kZ (u.1, va_up (va_up (va_up (va_up u.2.1 4 (upd (u.2.1 4) (u.2.2 2) k)) 5 (upd (u.2.1 5) (u.2.2 2) x)) 6 (upd (u.2.1 6) (u.2.2 2) y)) 7 (upd (u.2.1 7) (u.2.2 2) z), va_up (va_up u.2.2 2 ((u.2.2 2) + 1)) 3 ((u.2.2 3) + 1))) := hD
    refine lv_aload_n hx hb dA_tell_72 rfl (lv_at hl 0 rfl) ?_
    refine gf_A_28 (v := .int (nI ((u.2.2 2) + 1))) hx hb hA hown hK hP 2 rfl rfl dA_tell_73 ?_
    subst hQe
    exact W.iret (v := nI ((u.2.2 2) + 1)) hx hb hr (fun t ht hW => ⟨⟨_, (u.1, va_up (va_up (va_up (va_up u.2.1 4 (upd (u.2.1 4) (u.2.2 2) k)) 5 (upd (u.2.1 5) (u.2.2 2) x)) 6 (upd (u.2.1 6) (u.2.2 2) y)) 7 (upd (u.2.1 7) (u.2.2 2) z), va_up (va_up u.2.2 2 ((u.2.2 2) + 1)) 3 ((u.2.2 3) + 1)), rfl, ⟨fun _ => ⟨rfl, rfl⟩, fun z => by omega⟩, tq_hp ht hP⟩, hS.F ht⟩) hS.2.2 dA_tell_76
  · refine lv_iconst (v := (-1)) hx hb dA_tell_9 (by decide +kernel) ?_
    subst hQe
    exact W.iret (v := (-1)) hx hb hr (fun t ht hW => ⟨⟨_, u, rfl, ⟨fun z => by omega, fun _ => ⟨rfl, rfl⟩⟩, tq_hp ht hP⟩, hS.F ht⟩) hS.2.2 dA_tell_10
set_option maxHeartbeats 4000000 in
set_option maxRecDepth 100000 in
/-- c_takeBack -/
theorem c_takeBack (l : Launch) (D : va_G) (a : Nat → Nat) (kI kL kZ : ClassId) (u : sU) (k : Nat) (h1 : 1 ≤ k) (h2 : k ≤ 100) (hF : 1 ≤ u.2.2 3) (hF2 : u.2.2 3 ≤ 100) : Met l yA_takeBack (wA_takeBack :: wA) ({ frames := 0, cells := 0, slots := 0, locals := 0 }) (va_Pc [.ref (a 2), .int (nI k)] (tq_wB D vwA (sW a kI kL kZ u) (sT kI kL kZ))) (va_Qv (fun (u' : sU) => u' = s_back u k) (fun u' t => va_P D vwA (sW a kI kL kZ u') t.heap) (sA a)) 0 0 (sA a) := by
  refine Met.ofW (cc := bA_takeBack) (maxL := 2) (ret := none) (by decide +kernel) rfl ?_
  intro p e s m args below meth c s₁ B1 hml hv
  obtain ⟨rfl, hP, hK, hD0⟩ := hv
  have hx := B1.exec
  have hb := B1.bytes
  have hr := B1.returns
  have hA : ∀ w ∈ wA, w.before ([.ref (a 2), .int (nI k)] : List Value).toArray s = true := fun w h => atoms_spec (ws := wA_takeBack :: wA) B1.pre w (List.mem_cons_of_mem _ h)
  have hown : s.vm.findClass RcA = some m.cls := findClass_of_methodNamed B1.named
  have hlocks := B1.notSynchronized
  have hS : va_S (sA a) s.heap s.heap [] := va_S.rf
  have hl := lv_entry ([.ref (a 2), .int (nI k)]) (n := 2) (Nat.le_of_ble_eq_true rfl)
  rw [lg_entry_eq]
  generalize (lg_sl ([.ref (a 2), .int (nI k)]) ++ List.replicate (2 - (lg_sl ([.ref (a 2), .int (nI k)])).length) Slot.unset).toArray = ls at hl ⊢
  have hl : lv_has ls 2 [(0, .ref (a 2)), (1, .int (nI k))] := hl
  refine tq_gen (fun R Q hRe hQe => ?_)
  have hRf : 0 ≤ R.frames := by rw [hRe]; exact Nat.le_of_ble_eq_true rfl
  have hRl : 0 ≤ R.locals := by rw [hRe]; exact Nat.le_of_ble_eq_true rfl
  have hRc : 0 ≤ R.cells := by rw [hRe]; exact Nat.le_of_ble_eq_true rfl
  have hRs : 0 ≤ R.slots := by rw [hRe]; exact Nat.le_of_ble_eq_true rfl
  have hD := sA_D hD0
  refine lv_aload_n hx hb dA_takeBack_0 rfl (lv_at hl 0 rfl) ?_
  refine gf_A_24 (v := .ref (a 13)) hx hb hA hown hK hP 2 rfl rfl dA_takeBack_1 ?_
  refine lv_iload_n hx hb dA_takeBack_4 rfl (lv_at hl 1 rfl) ?_
  refine lv_iconst (v := nI 1) hx hb dA_takeBack_5 (by decide +kernel) ?_
  refine tq_isub hx hb dA_takeBack_6 (by omega) ?_
  refine lv_iconst (v := nI 1) hx hb dA_takeBack_7 (by decide +kernel) ?_
  refine tq_zast hx hb hK hP hD hS 13 2 rfl rfl (by omega) (by omega) (by first | rfl | decide | exact tq_nzv _) dA_takeBack_8 (fun H locs hP hD hS => ?_)
  have hP : va_P D vwA (sW a kI kL kZ (u.1, va_up u.2.1 8 (upd (u.2.1 8) (k - 1) (nI 1)), u.2.2)) H := hP
  have hD : va_D (sA a) (sW a kI kL kZ (u.1, va_up u.2.1 8 (upd (u.2.1 8) (k - 1) (nI 1)), u.2.2)) := hD
  refine lv_aload_n hx hb dA_takeBack_9 rfl (lv_at hl 0 rfl) ?_
  refine lv_dup hx hb dA_takeBack_10 rfl ?_
  refine gf_A_32 (v := .int (nI (u.2.2 3))) hx hb hA hown hK hP 2 rfl rfl dA_takeBack_11 ?_
  refine lv_iconst (v := nI 1) hx hb dA_takeBack_14 (by decide +kernel) ?_
  refine tq_isub hx hb dA_takeBack_15 (by omega) ?_
  refine pf_A_32 (v := .int (nI ((u.2.2 3) - 1))) hx hb hA hown hK hP hD hS 2 rfl rfl rfl (Nat.le_of_ble_eq_true rfl) dA_takeBack_16 (fun H locs hP hD hS => ?_)
  have hP : va_P D vwA (sW a kI kL kZ (u.1, va_up u.2.1 8 (upd (u.2.1 8) (k - 1) (nI 1)), va_up u.2.2 3 ((u.2.2 3) - 1))) H := hP
  have hD : va_D (sA a) (sW a kI kL kZ (u.1, va_up u.2.1 8 (upd (u.2.1 8) (k - 1) (nI 1)), va_up u.2.2 3 ((u.2.2 3) - 1))) := hD
  subst hQe
  exact W.vret hx hb hr (fun t ht hW => ⟨⟨(u.1, va_up u.2.1 8 (upd (u.2.1 8) (k - 1) (nI 1)), va_up u.2.2 3 ((u.2.2 3) - 1)), rfl, rfl, tq_hp ht hP⟩, hS.F ht⟩) hS.2.2 dA_takeBack_19
set_option maxHeartbeats 4000000 in
set_option maxRecDepth 100000 in
/-- c_make1 -/
theorem c_make1 (l : Launch) (D : va_G) (a : Nat → Nat) (kI kL kZ : ClassId) (u : sU) (hN : u.2.2 0 ≤ 160) (hN1 : u.2.2 1 ≤ 160) : Met l yT_make (wT_make :: wA) ({ frames := 1, cells := 0, slots := 0, locals := 25 }) (va_Pc [.ref (a 1), .int (nI 1), .int (-1), .int (-1)] (tq_wB D vwA (sW a kI kL kZ u) (sT kI kL kZ))) (va_Qi (fun r (u' : sU) => (u.2.2 0 < 160 → r = nI (u.2.2 0) ∧ u' = s_name u) ∧ (¬ u.2.2 0 < 160 → r = -1 ∧ u' = u)) (fun u' t => va_P D vwA (sW a kI kL kZ u') t.heap) (sA a)) 0 0 (sA a) := by
  refine Met.ofW (cc := bT_make) (maxL := 5) (ret := (some .int)) (by decide +kernel) rfl ?_
  intro p e s m args below meth c s₁ B1 hml hv
  obtain ⟨rfl, hP, hK, hD0⟩ := hv
  have hx := B1.exec
  have hb := B1.bytes
  have hr := B1.returns
  have hA : ∀ w ∈ wA, w.before ([.ref (a 1), .int (nI 1), .int (-1), .int (-1)] : List Value).toArray s = true := fun w h => atoms_spec (ws := wT_make :: wA) B1.pre w (List.mem_cons_of_mem _ h)
  have hown : s.vm.findClass RcT = some m.cls := findClass_of_methodNamed B1.named
  have hlocks := B1.notSynchronized
  have hS : va_S (sA a) s.heap s.heap [] := va_S.rf
  have hl := lv_entry ([.ref (a 1), .int (nI 1), .int (-1), .int (-1)]) (n := 5) (Nat.le_of_ble_eq_true rfl)
  rw [lg_entry_eq]
  generalize (lg_sl ([.ref (a 1), .int (nI 1), .int (-1), .int (-1)]) ++ List.replicate (5 - (lg_sl ([.ref (a 1), .int (nI 1), .int (-1), .int (-1)])).length) Slot.unset).toArray = ls at hl ⊢
  have hl : lv_has ls 5 [(0, .ref (a 1)), (1, .int (nI 1)), (2, .int (-1)), (3, .int (-1))] := hl
  refine tq_gen (fun R Q hRe hQe => ?_)
  have hRf : 1 ≤ R.frames := by rw [hRe]; exact Nat.le_of_ble_eq_true rfl
  have hRl : 25 ≤ R.locals := by rw [hRe]; exact Nat.le_of_ble_eq_true rfl
  have hRc : 0 ≤ R.cells := by rw [hRe]; exact Nat.le_of_ble_eq_true rfl
  have hRs : 0 ≤ R.slots := by rw [hRe]; exact Nat.le_of_ble_eq_true rfl
  have hD := sA_D hD0
  refine lv_aload_n hx hb dT_make_0 rfl (lv_at hl 0 rfl) ?_
  refine gf_T_42 (v := .int (nI (u.2.2 0))) hx hb hA hown hK hP 1 rfl rfl dT_make_1 ?_
  refine lv_sipush (v := nI 160) hx hb dT_make_4 (by decide +kernel) ?_
  refine tq_lt hx hb dT_make_7 (tgt := 12) (by decide) (by omega) (by omega) (fun h7 => ?_) (fun h7 => ?_)
  · refine lv_aload_n hx hb dT_make_12 rfl (lv_at hl 0 rfl) ?_
    refine gf_T_42 (v := .int (nI (u.2.2 0))) hx hb hA hown hK hP 1 rfl rfl dT_make_13 ?_
    refine lv_istore (lv' := [(4, .int (nI (u.2.2 0))), (0, .ref (a 1)), (1, .int (nI 1)), (2, .int (-1)), (3, .int (-1))]) hx hb dT_make_16 hl (by decide) rfl (fun ls hl => ?_)
    refine lv_aload_n hx hb dT_make_18 rfl (lv_at hl 1 rfl) ?_
    refine lv_dup hx hb dT_make_19 rfl ?_
    refine gf_T_42 (v := .int (nI (u.2.2 0))) hx hb hA hown hK hP 1 rfl rfl dT_make_20 ?_
    refine lv_iconst (v := nI 1) hx hb dT_make_23 (by decide +kernel) ?_
    refine tq_iadd hx hb dT_make_24 ?_
    refine pf_T_42 (v := .int (nI ((u.2.2 0) + 1))) hx hb hA hown hK hP hD hS 1 rfl rfl rfl (Nat.le_of_ble_eq_true rfl) dT_make_25 (fun H locs hP hD hS => ?_)
    have hP : va_P D vwA (sW a kI kL kZ (u.1, u.2.1, va_up u.2.2 0 ((u.2.2 0) + 1))) H := hP
    have hD : va_D (sA a) (sW a kI kL kZ (u.1, u.2.1, va_up u.2.2 0 ((u.2.2 0) + 1))) := hD
    refine lv_aload_n hx hb dT_make_28 rfl (lv_at hl 1 rfl) ?_
    refine gf_T_9 (v := .ref (a 5)) hx hb hA hown hK hP 1 rfl rfl dT_make_29 ?_
    refine lv_iload hx hb dT_make_32 (lv_at hl 0 rfl) ?_
    refine lv_iload_n hx hb dT_make_34 rfl (lv_at hl 2 rfl) ?_
    refine tq_iast hx hb hK hP hD hS 5 0 rfl rfl (by omega) (by omega) dT_make_35 (fun H locs hP hD hS => ?_)
    have hP : va_P D vwA (sW a kI kL kZ (u.1, va_up u.2.1 0 (upd (u.2.1 0) (u.2.2 0) (nI 1)), va_up u.2.2 0 ((u.2.2 0) + 1))) H := hP
    have hD : va_D (sA a) (sW a kI kL kZ (u.1, va_up u.2.1 0 (upd (u.2.1 0) (u.2.2 0) (nI 1)), va_up u.2.2 0 ((u.2.2 0) + 1))) := hD
    refine lv_aload_n hx hb dT_make_36 rfl (lv_at hl 1 rfl) ?_
    refine gf_T_15 (v := .ref (a 6)) hx hb hA hown hK hP 1 rfl rfl dT_make_37 ?_
    refine lv_iload hx hb dT_make_40 (lv_at hl 0 rfl) ?_
    refine lv_iload_n hx hb dT_make_42 rfl (lv_at hl 3 rfl) ?_
    refine tq_iast hx hb hK hP hD hS 6 0 rfl rfl (by omega) (by omega) dT_make_43 (fun H locs hP hD hS => ?_)
    have hP : va_P D vwA (sW a kI kL kZ (u.1, va_up (va_up u.2.1 0 (upd (u.2.1 0) (u.2.2 0) (nI 1))) 1 (upd (u.2.1 1) (u.2.2 0) (-1)), va_up u.2.2 0 ((u.2.2 0) + 1))) H := hP
    have hD : va_D (sA a) (sW a kI kL kZ (u.1, va_up (va_up u.2.1 0 (upd (u.2.1 0) (u.2.2 0) (nI 1))) 1 (upd (u.2.1 1) (u.2.2 0) (-1)), va_up u.2.2 0 ((u.2.2 0) + 1))) := hD
    refine lv_aload_n hx hb dT_make_44 rfl (lv_at hl 1 rfl) ?_
    refine gf_T_18 (v := .ref (a 7)) hx hb hA hown hK hP 1 rfl rfl dT_make_45 ?_
    refine lv_iload hx hb dT_make_48 (lv_at hl 0 rfl) ?_
    refine lv_iload_n hx hb dT_make_50 rfl (lv_at hl 4 rfl) ?_
    refine tq_iast hx hb hK hP hD hS 7 0 rfl rfl (by omega) (by omega) dT_make_51 (fun H locs hP hD hS => ?_)
    have hP : va_P D vwA (sW a kI kL kZ (u.1, va_up (va_up (va_up u.2.1 0 (upd (u.2.1 0) (u.2.2 0) (nI 1))) 1 (upd (u.2.1 1) (u.2.2 0) (-1))) 2 (upd (u.2.1 2) (u.2.2 0) (-1)), va_up u.2.2 0 ((u.2.2 0) + 1))) H := hP
    have hD : va_D (sA a) (sW a kI kL kZ (u.1, va_up (va_up (va_up u.2.1 0 (upd (u.2.1 0) (u.2.2 0) (nI 1))) 1 (upd (u.2.1 1) (u.2.2 0) (-1))) 2 (upd (u.2.1 2) (u.2.2 0) (-1)), va_up u.2.2 0 ((u.2.2 0) + 1))) := hD
    refine lv_iload_n hx hb dT_make_52 rfl (lv_at hl 2 rfl) ?_
    refine lv_iconst (v := nI 1) hx hb dT_make_53 (by decide +kernel) ?_
    refine tq_ne hx hb dT_make_54 (tgt := 70) (by decide) (by omega) (by omega) (fun h54 => ?_) (fun h54 => ?_)
    · exact absurd rfl h54
    · refine lv_aload_n hx hb dT_make_57 rfl (lv_at hl 1 rfl) ?_
      refine lv_dup hx hb dT_make_58 rfl ?_
      refine gf_T_46 (v := .int (nI (u.2.2 1))) hx hb hA hown hK hP 1 rfl rfl dT_make_59 ?_
      refine lv_iconst (v := nI 1) hx hb dT_make_62 (by decide +kernel) ?_
      refine tq_iadd hx hb dT_make_63 ?_
      refine pf_T_46 (v := .int (nI ((u.2.2 1) + 1))) hx hb hA hown hK hP hD hS 1 rfl rfl rfl (Nat.le_of_ble_eq_true rfl) dT_make_64 (fun H locs hP hD hS => ?_)
      have hP : va_P D vwA (sW a kI kL kZ (u.1, va_up (va_up (va_up u.2.1 0 (upd (u.2.1 0) (u.2.2 0) (nI 1))) 1 (upd (u.2.1 1) (u.2.2 0) (-1))) 2 (upd (u.2.1 2) (u.2.2 0) (-1)), va_up (va_up u.2.2 0 ((u.2.2 0) + 1)) 1 ((u.2.2 1) + 1))) H := hP
      have hD : va_D (sA a) (sW a kI kL kZ (u.1, va_up (va_up (va_up u.2.1 0 (upd (u.2.1 0) (u.2.2 0) (nI 1))) 1 (upd (u.2.1 1) (u.2.2 0) (-1))) 2 (upd (u.2.1 2) (u.2.2 0) (-1)), va_up (va_up u.2.2 0 ((u.2.2 0) + 1)) 1 ((u.2.2 1) + 1))) := hD
      refine lv_goto hx hb dT_make_67 (tgt := 129) (by decide) ?_
      refine lv_iload hx hb dT_make_129 (lv_at hl 0 rfl) ?_
      subst hQe
      exact W.iret (v := nI (u.2.2 0)) hx hb hr (fun t ht hW => ⟨⟨_, (u.1, va_up (va_up (va_up u.2.1 0 (upd (u.2.1 0) (u.2.2 0) (nI 1))) 1 (upd (u.2.1 1) (u.2.2 0) (-1))) 2 (upd (u.2.1 2) (u.2.2 0) (-1)), va_up (va_up u.2.2 0 ((u.2.2 0) + 1)) 1 ((u.2.2 1) + 1)), rfl, ⟨fun _ => ⟨rfl, rfl⟩, fun z => by omega⟩, tq_hp ht hP⟩, hS.F ht⟩) hS.2.2 dT_make_131
  · refine lv_iconst (v := (-1)) hx hb dT_make_10 (by decide +kernel) ?_
    subst hQe
    exact W.iret (v := (-1)) hx hb hr (fun t ht hW => ⟨⟨_, u, rfl, ⟨fun z => by omega, fun _ => ⟨rfl, rfl⟩⟩, tq_hp ht hP⟩, hS.F ht⟩) hS.2.2 dT_make_11
set_option maxHeartbeats 4000000 in
set_option maxRecDepth 100000 in
/-- c_make2 -/
theorem c_make2 (l : Launch) (D : va_G) (a : Nat → Nat) (kI kL kZ : ClassId) (u : sU) (hN : u.2.2 0 ≤ 160) (d d2 : Nat) (hd : d < 160) (hd2 : d2 < 160) : Met l yT_make (wT_make :: wA) ({ frames := 1, cells := 0, slots := 0, locals := 25 }) (va_Pc [.ref (a 1), .int (nI 2), .int (nI d), .int (nI d2)] (tq_wB D vwA (sW a kI kL kZ u) (sT kI kL kZ))) (va_Qi (fun r (u' : sU) => (u.2.2 0 < 160 → r = nI (u.2.2 0) ∧ u' = s_both u d d2) ∧ (¬ u.2.2 0 < 160 → r = -1 ∧ u' = u)) (fun u' t => va_P D vwA (sW a kI kL kZ u') t.heap) (sA a)) 0 0 (sA a) := by
  refine Met.ofW (cc := bT_make) (maxL := 5) (ret := (some .int)) (by decide +kernel) rfl ?_
  intro p e s m args below meth c s₁ B1 hml hv
  obtain ⟨rfl, hP, hK, hD0⟩ := hv
  have hx := B1.exec
  have hb := B1.bytes
  have hr := B1.returns
  have hA : ∀ w ∈ wA, w.before ([.ref (a 1), .int (nI 2), .int (nI d), .int (nI d2)] : List Value).toArray s = true := fun w h => atoms_spec (ws := wT_make :: wA) B1.pre w (List.mem_cons_of_mem _ h)
  have hown : s.vm.findClass RcT = some m.cls := findClass_of_methodNamed B1.named
  have hlocks := B1.notSynchronized
  have hS : va_S (sA a) s.heap s.heap [] := va_S.rf
  have hl := lv_entry ([.ref (a 1), .int (nI 2), .int (nI d), .int (nI d2)]) (n := 5) (Nat.le_of_ble_eq_true rfl)
  rw [lg_entry_eq]
  generalize (lg_sl ([.ref (a 1), .int (nI 2), .int (nI d), .int (nI d2)]) ++ List.replicate (5 - (lg_sl ([.ref (a 1), .int (nI 2), .int (nI d), .int (nI d2)])).length) Slot.unset).toArray = ls at hl ⊢
  have hl : lv_has ls 5 [(0, .ref (a 1)), (1, .int (nI 2)), (2, .int (nI d)), (3, .int (nI d2))] := hl
  refine tq_gen (fun R Q hRe hQe => ?_)
  have hRf : 1 ≤ R.frames := by rw [hRe]; exact Nat.le_of_ble_eq_true rfl
  have hRl : 25 ≤ R.locals := by rw [hRe]; exact Nat.le_of_ble_eq_true rfl
  have hRc : 0 ≤ R.cells := by rw [hRe]; exact Nat.le_of_ble_eq_true rfl
  have hRs : 0 ≤ R.slots := by rw [hRe]; exact Nat.le_of_ble_eq_true rfl
  have hD := sA_D hD0
  refine lv_aload_n hx hb dT_make_0 rfl (lv_at hl 0 rfl) ?_
  refine gf_T_42 (v := .int (nI (u.2.2 0))) hx hb hA hown hK hP 1 rfl rfl dT_make_1 ?_
  refine lv_sipush (v := nI 160) hx hb dT_make_4 (by decide +kernel) ?_
  refine tq_lt hx hb dT_make_7 (tgt := 12) (by decide) (by omega) (by omega) (fun h7 => ?_) (fun h7 => ?_)
  · refine lv_aload_n hx hb dT_make_12 rfl (lv_at hl 0 rfl) ?_
    refine gf_T_42 (v := .int (nI (u.2.2 0))) hx hb hA hown hK hP 1 rfl rfl dT_make_13 ?_
    refine lv_istore (lv' := [(4, .int (nI (u.2.2 0))), (0, .ref (a 1)), (1, .int (nI 2)), (2, .int (nI d)), (3, .int (nI d2))]) hx hb dT_make_16 hl (by decide) rfl (fun ls hl => ?_)
    refine lv_aload_n hx hb dT_make_18 rfl (lv_at hl 1 rfl) ?_
    refine lv_dup hx hb dT_make_19 rfl ?_
    refine gf_T_42 (v := .int (nI (u.2.2 0))) hx hb hA hown hK hP 1 rfl rfl dT_make_20 ?_
    refine lv_iconst (v := nI 1) hx hb dT_make_23 (by decide +kernel) ?_
    refine tq_iadd hx hb dT_make_24 ?_
    refine pf_T_42 (v := .int (nI ((u.2.2 0) + 1))) hx hb hA hown hK hP hD hS 1 rfl rfl rfl (Nat.le_of_ble_eq_true rfl) dT_make_25 (fun H locs hP hD hS => ?_)
    have hP : va_P D vwA (sW a kI kL kZ (u.1, u.2.1, va_up u.2.2 0 ((u.2.2 0) + 1))) H := hP
    have hD : va_D (sA a) (sW a kI kL kZ (u.1, u.2.1, va_up u.2.2 0 ((u.2.2 0) + 1))) := hD
    refine lv_aload_n hx hb dT_make_28 rfl (lv_at hl 1 rfl) ?_
    refine gf_T_9 (v := .ref (a 5)) hx hb hA hown hK hP 1 rfl rfl dT_make_29 ?_
    refine lv_iload hx hb dT_make_32 (lv_at hl 0 rfl) ?_
    refine lv_iload_n hx hb dT_make_34 rfl (lv_at hl 2 rfl) ?_
    refine tq_iast hx hb hK hP hD hS 5 0 rfl rfl (by omega) (by omega) dT_make_35 (fun H locs hP hD hS => ?_)
    have hP : va_P D vwA (sW a kI kL kZ (u.1, va_up u.2.1 0 (upd (u.2.1 0) (u.2.2 0) (nI 2)), va_up u.2.2 0 ((u.2.2 0) + 1))) H := hP
    have hD : va_D (sA a) (sW a kI kL kZ (u.1, va_up u.2.1 0 (upd (u.2.1 0) (u.2.2 0) (nI 2)), va_up u.2.2 0 ((u.2.2 0) + 1))) := hD
    refine lv_aload_n hx hb dT_make_36 rfl (lv_at hl 1 rfl) ?_
    refine gf_T_15 (v := .ref (a 6)) hx hb hA hown hK hP 1 rfl rfl dT_make_37 ?_
    refine lv_iload hx hb dT_make_40 (lv_at hl 0 rfl) ?_
    refine lv_iload_n hx hb dT_make_42 rfl (lv_at hl 3 rfl) ?_
    refine tq_iast hx hb hK hP hD hS 6 0 rfl rfl (by omega) (by omega) dT_make_43 (fun H locs hP hD hS => ?_)
    have hP : va_P D vwA (sW a kI kL kZ (u.1, va_up (va_up u.2.1 0 (upd (u.2.1 0) (u.2.2 0) (nI 2))) 1 (upd (u.2.1 1) (u.2.2 0) (nI d)), va_up u.2.2 0 ((u.2.2 0) + 1))) H := hP
    have hD : va_D (sA a) (sW a kI kL kZ (u.1, va_up (va_up u.2.1 0 (upd (u.2.1 0) (u.2.2 0) (nI 2))) 1 (upd (u.2.1 1) (u.2.2 0) (nI d)), va_up u.2.2 0 ((u.2.2 0) + 1))) := hD
    refine lv_aload_n hx hb dT_make_44 rfl (lv_at hl 1 rfl) ?_
    refine gf_T_18 (v := .ref (a 7)) hx hb hA hown hK hP 1 rfl rfl dT_make_45 ?_
    refine lv_iload hx hb dT_make_48 (lv_at hl 0 rfl) ?_
    refine lv_iload_n hx hb dT_make_50 rfl (lv_at hl 4 rfl) ?_
    refine tq_iast hx hb hK hP hD hS 7 0 rfl rfl (by omega) (by omega) dT_make_51 (fun H locs hP hD hS => ?_)
    have hP : va_P D vwA (sW a kI kL kZ (u.1, va_up (va_up (va_up u.2.1 0 (upd (u.2.1 0) (u.2.2 0) (nI 2))) 1 (upd (u.2.1 1) (u.2.2 0) (nI d))) 2 (upd (u.2.1 2) (u.2.2 0) (nI d2)), va_up u.2.2 0 ((u.2.2 0) + 1))) H := hP
    have hD : va_D (sA a) (sW a kI kL kZ (u.1, va_up (va_up (va_up u.2.1 0 (upd (u.2.1 0) (u.2.2 0) (nI 2))) 1 (upd (u.2.1 1) (u.2.2 0) (nI d))) 2 (upd (u.2.1 2) (u.2.2 0) (nI d2)), va_up u.2.2 0 ((u.2.2 0) + 1))) := hD
    refine lv_iload_n hx hb dT_make_52 rfl (lv_at hl 2 rfl) ?_
    refine lv_iconst (v := nI 1) hx hb dT_make_53 (by decide +kernel) ?_
    refine tq_ne hx hb dT_make_54 (tgt := 70) (by decide) (by omega) (by omega) (fun h54 => ?_) (fun h54 => ?_)
    · refine lv_iload_n hx hb dT_make_70 rfl (lv_at hl 2 rfl) ?_
      refine lv_iconst (v := nI 2) hx hb dT_make_71 (by decide +kernel) ?_
      refine tq_ne hx hb dT_make_72 (tgt := 100) (by decide) (by omega) (by omega) (fun h72 => ?_) (fun h72 => ?_)
      · exact absurd rfl h72
      · refine lv_aload_n hx hb dT_make_75 rfl (lv_at hl 1 rfl) ?_
        refine gf_T_29 (v := .ref (a 28)) hx hb hA hown hK hP 1 rfl rfl dT_make_76 ?_
        refine lv_iload_n hx hb dT_make_79 rfl (lv_at hl 3 rfl) ?_
        refine lv_iload hx hb dT_make_80 (lv_at hl 0 rfl) ?_
        refine k_put ⟨hx, hb, hml, hown, hA⟩ (kw_T_53 hA rfl rfl ⟨Nat.le_trans (Nat.le_of_ble_eq_true rfl) hRf, Nat.le_trans (Nat.le_of_ble_eq_true rfl) hRl⟩) hK hP hD hS 28 29 1 rfl rfl (by decide) rfl (by omega) (by omega) (by decide) (by decide) hl.1 (Nat.le_of_ble_eq_true rfl) ⟨by omega, by omega⟩ dT_make_82 (fun H locs hP hD hS => ?_)
        have hP : va_P D vwA (sW a kI kL kZ (va_up u.1 7 (tm_put (u.1 7) d (u.2.2 0)), va_up (va_up (va_up u.2.1 0 (upd (u.2.1 0) (u.2.2 0) (nI 2))) 1 (upd (u.2.1 1) (u.2.2 0) (nI d))) 2 (upd (u.2.1 2) (u.2.2 0) (nI d2)), va_up u.2.2 0 ((u.2.2 0) + 1))) H := hP
        have hD : va_D (sA a) (sW a kI kL kZ (va_up u.1 7 (tm_put (u.1 7) d (u.2.2 0)), va_up (va_up (va_up u.2.1 0 (upd (u.2.1 0) (u.2.2 0) (nI 2))) 1 (upd (u.2.1 1) (u.2.2 0) (nI d))) 2 (upd (u.2.1 2) (u.2.2 0) (nI d2)), va_up u.2.2 0 ((u.2.2 0) + 1))) := hD
        refine lv_pop hx hb dT_make_85 rfl ?_
        refine lv_aload_n hx hb dT_make_86 rfl (lv_at hl 1 rfl) ?_
        refine gf_T_29 (v := .ref (a 28)) hx hb hA hown hK hP 1 rfl rfl dT_make_87 ?_
        refine lv_iload_n hx hb dT_make_90 rfl (lv_at hl 4 rfl) ?_
        refine lv_iload hx hb dT_make_91 (lv_at hl 0 rfl) ?_
        refine k_put ⟨hx, hb, hml, hown, hA⟩ (kw_T_53 hA rfl rfl ⟨Nat.le_trans (Nat.le_of_ble_eq_true rfl) hRf, Nat.le_trans (Nat.le_of_ble_eq_true rfl) hRl⟩) hK hP hD hS 28 29 1 rfl rfl (by decide) rfl (by omega) (by omega) (by decide) (by decide) hl.1 (Nat.le_of_ble_eq_true rfl) ⟨by omega, by omega⟩ dT_make_93 (fun H locs hP hD hS => ?_)
        have hP : va_P D vwA (sW a kI kL kZ (va_up u.1 7 (tm_put (tm_put (u.1 7) d (u.2.2 0)) d2 (u.2.2 0)), va_up (va_up (va_up u.2.1 0 (upd (u.2.1 0) (u.2.2 0) (nI 2))) 1 (upd (u.2.1 1) (u.2.2 0) (nI d))) 2 (upd (u.2.1 2) (u.2.2 0) (nI d2)), va_up u.2.2 0 ((u.2.2 0) + 1))) H := hP
        have hD : va_D (sA a) (sW a kI kL kZ (va_up u.1 7 (tm_put (tm_put (u.1 7) d (u.2.2 0)) d2 (u.2.2 0)), va_up (va_up (va_up u.2.1 0 (upd (u.2.1 0) (u.2.2 0) (nI 2))) 1 (upd (u.2.1 1) (u.2.2 0) (nI d))) 2 (upd (u.2.1 2) (u.2.2 0) (nI d2)), va_up u.2.2 0 ((u.2.2 0) + 1))) := hD
        refine lv_pop hx hb dT_make_96 rfl ?_
        refine lv_goto hx hb dT_make_97 (tgt := 129) (by decide) ?_
        refine lv_iload hx hb dT_make_129 (lv_at hl 0 rfl) ?_
        subst hQe
        exact W.iret (v := nI (u.2.2 0)) hx hb hr (fun t ht hW => ⟨⟨_, (va_up u.1 7 (tm_put (tm_put (u.1 7) d (u.2.2 0)) d2 (u.2.2 0)), va_up (va_up (va_up u.2.1 0 (upd (u.2.1 0) (u.2.2 0) (nI 2))) 1 (upd (u.2.1 1) (u.2.2 0) (nI d))) 2 (upd (u.2.1 2) (u.2.2 0) (nI d2)), va_up u.2.2 0 ((u.2.2 0) + 1)), rfl, ⟨fun _ => ⟨rfl, rfl⟩, fun z => by omega⟩, tq_hp ht hP⟩, hS.F ht⟩) hS.2.2 dT_make_131
    · exact absurd h54 (by decide)
  · refine lv_iconst (v := (-1)) hx hb dT_make_10 (by decide +kernel) ?_
    subst hQe
    exact W.iret (v := (-1)) hx hb hr (fun t ht hW => ⟨⟨_, u, rfl, ⟨fun z => by omega, fun _ => ⟨rfl, rfl⟩⟩, tq_hp ht hP⟩, hS.F ht⟩) hS.2.2 dT_make_11
set_option maxHeartbeats 4000000 in
set_option maxRecDepth 100000 in
/-- c_make3 -/
theorem c_make3 (l : Launch) (D : va_G) (a : Nat → Nat) (kI kL kZ : ClassId) (u : sU) (hN : u.2.2 0 ≤ 160) (i d : Nat) (hi : i < 6) (hd : d < 160) : Met l yT_make (wT_make :: wA) ({ frames := 1, cells := 0, slots := 0, locals := 25 }) (va_Pc [.ref (a 1), .int (nI 3), .int (nI i), .int (nI d)] (tq_wB D vwA (sW a kI kL kZ u) (sT kI kL kZ))) (va_Qi (fun r (u' : sU) => (u.2.2 0 < 160 → r = nI (u.2.2 0) ∧ u' = s_some u i d) ∧ (¬ u.2.2 0 < 160 → r = -1 ∧ u' = u)) (fun u' t => va_P D vwA (sW a kI kL kZ u') t.heap) (sA a)) 0 0 (sA a) := by
  refine Met.ofW (cc := bT_make) (maxL := 5) (ret := (some .int)) (by decide +kernel) rfl ?_
  intro p e s m args below meth c s₁ B1 hml hv
  obtain ⟨rfl, hP, hK, hD0⟩ := hv
  have hx := B1.exec
  have hb := B1.bytes
  have hr := B1.returns
  have hA : ∀ w ∈ wA, w.before ([.ref (a 1), .int (nI 3), .int (nI i), .int (nI d)] : List Value).toArray s = true := fun w h => atoms_spec (ws := wT_make :: wA) B1.pre w (List.mem_cons_of_mem _ h)
  have hown : s.vm.findClass RcT = some m.cls := findClass_of_methodNamed B1.named
  have hlocks := B1.notSynchronized
  have hS : va_S (sA a) s.heap s.heap [] := va_S.rf
  have hl := lv_entry ([.ref (a 1), .int (nI 3), .int (nI i), .int (nI d)]) (n := 5) (Nat.le_of_ble_eq_true rfl)
  rw [lg_entry_eq]
  generalize (lg_sl ([.ref (a 1), .int (nI 3), .int (nI i), .int (nI d)]) ++ List.replicate (5 - (lg_sl ([.ref (a 1), .int (nI 3), .int (nI i), .int (nI d)])).length) Slot.unset).toArray = ls at hl ⊢
  have hl : lv_has ls 5 [(0, .ref (a 1)), (1, .int (nI 3)), (2, .int (nI i)), (3, .int (nI d))] := hl
  refine tq_gen (fun R Q hRe hQe => ?_)
  have hRf : 1 ≤ R.frames := by rw [hRe]; exact Nat.le_of_ble_eq_true rfl
  have hRl : 25 ≤ R.locals := by rw [hRe]; exact Nat.le_of_ble_eq_true rfl
  have hRc : 0 ≤ R.cells := by rw [hRe]; exact Nat.le_of_ble_eq_true rfl
  have hRs : 0 ≤ R.slots := by rw [hRe]; exact Nat.le_of_ble_eq_true rfl
  have hD := sA_D hD0
  refine lv_aload_n hx hb dT_make_0 rfl (lv_at hl 0 rfl) ?_
  refine gf_T_42 (v := .int (nI (u.2.2 0))) hx hb hA hown hK hP 1 rfl rfl dT_make_1 ?_
  refine lv_sipush (v := nI 160) hx hb dT_make_4 (by decide +kernel) ?_
  refine tq_lt hx hb dT_make_7 (tgt := 12) (by decide) (by omega) (by omega) (fun h7 => ?_) (fun h7 => ?_)
  · refine lv_aload_n hx hb dT_make_12 rfl (lv_at hl 0 rfl) ?_
    refine gf_T_42 (v := .int (nI (u.2.2 0))) hx hb hA hown hK hP 1 rfl rfl dT_make_13 ?_
    refine lv_istore (lv' := [(4, .int (nI (u.2.2 0))), (0, .ref (a 1)), (1, .int (nI 3)), (2, .int (nI i)), (3, .int (nI d))]) hx hb dT_make_16 hl (by decide) rfl (fun ls hl => ?_)
    refine lv_aload_n hx hb dT_make_18 rfl (lv_at hl 1 rfl) ?_
    refine lv_dup hx hb dT_make_19 rfl ?_
    refine gf_T_42 (v := .int (nI (u.2.2 0))) hx hb hA hown hK hP 1 rfl rfl dT_make_20 ?_
    refine lv_iconst (v := nI 1) hx hb dT_make_23 (by decide +kernel) ?_
    refine tq_iadd hx hb dT_make_24 ?_
    refine pf_T_42 (v := .int (nI ((u.2.2 0) + 1))) hx hb hA hown hK hP hD hS 1 rfl rfl rfl (Nat.le_of_ble_eq_true rfl) dT_make_25 (fun H locs hP hD hS => ?_)
    have hP : va_P D vwA (sW a kI kL kZ (u.1, u.2.1, va_up u.2.2 0 ((u.2.2 0) + 1))) H := hP
    have hD : va_D (sA a) (sW a kI kL kZ (u.1, u.2.1, va_up u.2.2 0 ((u.2.2 0) + 1))) := hD
    refine lv_aload_n hx hb dT_make_28 rfl (lv_at hl 1 rfl) ?_
    refine gf_T_9 (v := .ref (a 5)) hx hb hA hown hK hP 1 rfl rfl dT_make_29 ?_
    refine lv_iload hx hb dT_make_32 (lv_at hl 0 rfl) ?_
    refine lv_iload_n hx hb dT_make_34 rfl (lv_at hl 2 rfl) ?_
    refine tq_iast hx hb hK hP hD hS 5 0 rfl rfl (by omega) (by omega) dT_make_35 (fun H locs hP hD hS => ?_)
    have hP : va_P D vwA (sW a kI kL kZ (u.1, va_up u.2.1 0 (upd (u.2.1 0) (u.2.2 0) (nI 3)), va_up u.2.2 0 ((u.2.2 0) + 1))) H := hP
    have hD : va_D (sA a) (sW a kI kL kZ (u.1, va_up u.2.1 0 (upd (u.2.1 0) (u.2.2 0) (nI 3)), va_up u.2.2 0 ((u.2.2 0) + 1))) := hD
    refine lv_aload_n hx hb dT_make_36 rfl (lv_at hl 1 rfl) ?_
    refine gf_T_15 (v := .ref (a 6)) hx hb hA hown hK hP 1 rfl rfl dT_make_37 ?_
    refine lv_iload hx hb dT_make_40 (lv_at hl 0 rfl) ?_
    refine lv_iload_n hx hb dT_make_42 rfl (lv_at hl 3 rfl) ?_
    refine tq_iast hx hb hK hP hD hS 6 0 rfl rfl (by omega) (by omega) dT_make_43 (fun H locs hP hD hS => ?_)
    have hP : va_P D vwA (sW a kI kL kZ (u.1, va_up (va_up u.2.1 0 (upd (u.2.1 0) (u.2.2 0) (nI 3))) 1 (upd (u.2.1 1) (u.2.2 0) (nI i)), va_up u.2.2 0 ((u.2.2 0) + 1))) H := hP
    have hD : va_D (sA a) (sW a kI kL kZ (u.1, va_up (va_up u.2.1 0 (upd (u.2.1 0) (u.2.2 0) (nI 3))) 1 (upd (u.2.1 1) (u.2.2 0) (nI i)), va_up u.2.2 0 ((u.2.2 0) + 1))) := hD
    refine lv_aload_n hx hb dT_make_44 rfl (lv_at hl 1 rfl) ?_
    refine gf_T_18 (v := .ref (a 7)) hx hb hA hown hK hP 1 rfl rfl dT_make_45 ?_
    refine lv_iload hx hb dT_make_48 (lv_at hl 0 rfl) ?_
    refine lv_iload_n hx hb dT_make_50 rfl (lv_at hl 4 rfl) ?_
    refine tq_iast hx hb hK hP hD hS 7 0 rfl rfl (by omega) (by omega) dT_make_51 (fun H locs hP hD hS => ?_)
    have hP : va_P D vwA (sW a kI kL kZ (u.1, va_up (va_up (va_up u.2.1 0 (upd (u.2.1 0) (u.2.2 0) (nI 3))) 1 (upd (u.2.1 1) (u.2.2 0) (nI i))) 2 (upd (u.2.1 2) (u.2.2 0) (nI d)), va_up u.2.2 0 ((u.2.2 0) + 1))) H := hP
    have hD : va_D (sA a) (sW a kI kL kZ (u.1, va_up (va_up (va_up u.2.1 0 (upd (u.2.1 0) (u.2.2 0) (nI 3))) 1 (upd (u.2.1 1) (u.2.2 0) (nI i))) 2 (upd (u.2.1 2) (u.2.2 0) (nI d)), va_up u.2.2 0 ((u.2.2 0) + 1))) := hD
    refine lv_iload_n hx hb dT_make_52 rfl (lv_at hl 2 rfl) ?_
    refine lv_iconst (v := nI 1) hx hb dT_make_53 (by decide +kernel) ?_
    refine tq_ne hx hb dT_make_54 (tgt := 70) (by decide) (by omega) (by omega) (fun h54 => ?_) (fun h54 => ?_)
    · refine lv_iload_n hx hb dT_make_70 rfl (lv_at hl 2 rfl) ?_
      refine lv_iconst (v := nI 2) hx hb dT_make_71 (by decide +kernel) ?_
      refine tq_ne hx hb dT_make_72 (tgt := 100) (by decide) (by omega) (by omega) (fun h72 => ?_) (fun h72 => ?_)
      · refine lv_iload_n hx hb dT_make_100 rfl (lv_at hl 2 rfl) ?_
        refine lv_iconst (v := nI 3) hx hb dT_make_101 (by decide +kernel) ?_
        refine tq_ne hx hb dT_make_102 (tgt := 129) (by decide) (by omega) (by omega) (fun h102 => ?_) (fun h102 => ?_)
        · exact absurd rfl h102
        · refine lv_aload_n hx hb dT_make_105 rfl (lv_at hl 1 rfl) ?_
          refine gf_T_21 (v := .ref (a 8)) hx hb hA hown hK hP 1 rfl rfl dT_make_106 ?_
          refine lv_iload_n hx hb dT_make_109 rfl (lv_at hl 3 rfl) ?_
          refine lv_sipush (v := nI 160) hx hb dT_make_110 (by decide +kernel) ?_
          refine tq_imul hx hb dT_make_113 ?_
          refine lv_iload_n hx hb dT_make_114 rfl (lv_at hl 4 rfl) ?_
          refine tq_iadd hx hb dT_make_115 ?_
          refine lv_iload hx hb dT_make_116 (lv_at hl 0 rfl) ?_
          refine tq_iast hx hb hK hP hD hS 8 0 rfl rfl (by omega) (by omega) dT_make_118 (fun H locs hP hD hS => ?_)
          have hP : va_P D vwA (sW a kI kL kZ (u.1, va_up (va_up (va_up (va_up u.2.1 0 (upd (u.2.1 0) (u.2.2 0) (nI 3))) 1 (upd (u.2.1 1) (u.2.2 0) (nI i))) 2 (upd (u.2.1 2) (u.2.2 0) (nI d))) 3 (upd (u.2.1 3) ((i * 160) + d) (nI (u.2.2 0))), va_up u.2.2 0 ((u.2.2 0) + 1))) H := hP
          have hD : va_D (sA a) (sW a kI kL kZ (u.1, va_up (va_up (va_up (va_up u.2.1 0 (upd (u.2.1 0) (u.2.2 0) (nI 3))) 1 (upd (u.2.1 1) (u.2.2 0) (nI i))) 2 (upd (u.2.1 2) (u.2.2 0) (nI d))) 3 (upd (u.2.1 3) ((i * 160) + d) (nI (u.2.2 0))), va_up u.2.2 0 ((u.2.2 0) + 1))) := hD
          refine lv_aload_n hx hb dT_make_119 rfl (lv_at hl 1 rfl) ?_
          refine gf_T_33 (v := .ref (a 30)) hx hb hA hown hK hP 1 rfl rfl dT_make_120 ?_
          refine lv_iload_n hx hb dT_make_123 rfl (lv_at hl 3 rfl) ?_
          refine lv_iload_n hx hb dT_make_124 rfl (lv_at hl 4 rfl) ?_
          refine k_put ⟨hx, hb, hml, hown, hA⟩ (kw_T_53 hA rfl rfl ⟨Nat.le_trans (Nat.le_of_ble_eq_true rfl) hRf, Nat.le_trans (Nat.le_of_ble_eq_true rfl) hRl⟩) hK hP hD hS 30 31 1 rfl rfl (by decide) rfl (by omega) (by omega) (by decide) (by decide) hl.1 (Nat.le_of_ble_eq_true rfl) ⟨by omega, by omega⟩ dT_make_125 (fun H locs hP hD hS => ?_)
          have hP : va_P D vwA (sW a kI kL kZ (va_up u.1 8 (tm_put (u.1 8) i d), va_up (va_up (va_up (va_up u.2.1 0 (upd (u.2.1 0) (u.2.2 0) (nI 3))) 1 (upd (u.2.1 1) (u.2.2 0) (nI i))) 2 (upd (u.2.1 2) (u.2.2 0) (nI d))) 3 (upd (u.2.1 3) ((i * 160) + d) (nI (u.2.2 0))), va_up u.2.2 0 ((u.2.2 0) + 1))) H := hP
          have hD : va_D (sA a) (sW a kI kL kZ (va_up u.1 8 (tm_put (u.1 8) i d), va_up (va_up (va_up (va_up u.2.1 0 (upd (u.2.1 0) (u.2.2 0) (nI 3))) 1 (upd (u.2.1 1) (u.2.2 0) (nI i))) 2 (upd (u.2.1 2) (u.2.2 0) (nI d))) 3 (upd (u.2.1 3) ((i * 160) + d) (nI (u.2.2 0))), va_up u.2.2 0 ((u.2.2 0) + 1))) := hD
          refine lv_pop hx hb dT_make_128 rfl ?_
          refine lv_iload hx hb dT_make_129 (lv_at hl 0 rfl) ?_
          subst hQe
          exact W.iret (v := nI (u.2.2 0)) hx hb hr (fun t ht hW => ⟨⟨_, (va_up u.1 8 (tm_put (u.1 8) i d), va_up (va_up (va_up (va_up u.2.1 0 (upd (u.2.1 0) (u.2.2 0) (nI 3))) 1 (upd (u.2.1 1) (u.2.2 0) (nI i))) 2 (upd (u.2.1 2) (u.2.2 0) (nI d))) 3 (upd (u.2.1 3) ((i * 160) + d) (nI (u.2.2 0))), va_up u.2.2 0 ((u.2.2 0) + 1)), rfl, ⟨fun _ => ⟨rfl, rfl⟩, fun z => by omega⟩, tq_hp ht hP⟩, hS.F ht⟩) hS.2.2 dT_make_131
      · exact absurd h72 (by decide)
    · exact absurd h54 (by decide)
  · refine lv_iconst (v := (-1)) hx hb dT_make_10 (by decide +kernel) ?_
    subst hQe
    exact W.iret (v := (-1)) hx hb hr (fun t ht hW => ⟨⟨_, u, rfl, ⟨fun z => by omega, fun _ => ⟨rfl, rfl⟩⟩, tq_hp ht hP⟩, hS.F ht⟩) hS.2.2 dT_make_11
