/-! The model's world and its small methods. Written by wip/whole/gen/genM1.py. -/
def mW (a : Nat → Nat) (kI kL kZ : ClassId) (u : sU) : va_W := [(a 0, .inr (5, [.int (nI (u.2.2 0)), .int (nI (u.2.2 1)), .ref (a 1), .ref (a 2), .ref (a 3), .int (nI (u.2.2 2)), .ref (a 4), .ref (a 5), .ref (a 6), .ref (a 7), .ref (a 8), .ref (a 9), .int (nI (u.2.2 3)), .int (nI (u.2.2 4)), .ref (a 10), .ref (a 11), .ref (a 12), .int (nI (u.2.2 5)), .ref (a 13)])), (a 1, .inl (kI, 160, .inl (u.2.1 0))), (a 2, .inl (kI, 160, .inl (u.2.1 1))), (a 3, .inl (kI, 160, .inl (u.2.1 2))), (a 4, .inl (kI, 101, .inl (u.2.1 3))), (a 5, .inl (kI, 101, .inl (u.2.1 4))), (a 6, .inl (kI, 101, .inl (u.2.1 5))), (a 7, .inl (kI, 101, .inl (u.2.1 6))), (a 8, .inl (kZ, 101, .inl (u.2.1 7))), (a 9, .inl (kZ, 101, .inl (u.2.1 8))), (a 10, .inl (kL, 480, .inr (.inl (bw 3 (u.1 0))))), (a 11, .inl (kL, 480, .inr (.inl (bw 3 (u.1 1))))), (a 12, .inl (kL, 2880, .inr (.inl (bw 3 (u.1 2))))), (a 13, .inl (kI, 100, .inl (u.2.1 9)))]
/-- with words of any kind -/
def mX (a : Nat → Nat) (kI kL kZ : ClassId) (u : sU) (f g h : Nat → Int64) : va_W := [(a 0, .inr (5, [.int (nI (u.2.2 0)), .int (nI (u.2.2 1)), .ref (a 1), .ref (a 2), .ref (a 3), .int (nI (u.2.2 2)), .ref (a 4), .ref (a 5), .ref (a 6), .ref (a 7), .ref (a 8), .ref (a 9), .int (nI (u.2.2 3)), .int (nI (u.2.2 4)), .ref (a 10), .ref (a 11), .ref (a 12), .int (nI (u.2.2 5)), .ref (a 13)])), (a 1, .inl (kI, 160, .inl (u.2.1 0))), (a 2, .inl (kI, 160, .inl (u.2.1 1))), (a 3, .inl (kI, 160, .inl (u.2.1 2))), (a 4, .inl (kI, 101, .inl (u.2.1 3))), (a 5, .inl (kI, 101, .inl (u.2.1 4))), (a 6, .inl (kI, 101, .inl (u.2.1 5))), (a 7, .inl (kI, 101, .inl (u.2.1 6))), (a 8, .inl (kZ, 101, .inl (u.2.1 7))), (a 9, .inl (kZ, 101, .inl (u.2.1 8))), (a 10, .inl (kL, 480, .inr (.inl f))), (a 11, .inl (kL, 480, .inr (.inl g))), (a 12, .inl (kL, 2880, .inr (.inl h))), (a 13, .inl (kI, 100, .inl (u.2.1 9)))]
def mA (a : Nat → Nat) (q : Nat) : Prop := q ∈ [a 0, a 1, a 2, a 3, a 4, a 5, a 6, a 7, a 8, a 9, a 10, a 11, a 12, a 13]
theorem mA_D {a : Nat → Nat} {kI kL kZ : ClassId} {u : sU} {A : Nat → Prop} (h : va_D A (mW a kI kL kZ u)) : va_D (mA a) (mW a kI kL kZ u) := tq_D_self h
theorem mW_adr0 {a : Nat → Nat} {kI kL kZ : ClassId} (u : sU) : (mW a kI kL kZ u).map (fun x => x.1) = [a 0, a 1, a 2, a 3, a 4, a 5, a 6, a 7, a 8, a 9, a 10, a 11, a 12, a 13] := rfl
theorem mW_adr {a : Nat → Nat} {kI kL kZ : ClassId} {u : sU} (u' : sU) : (mW a kI kL kZ u').map (fun x => x.1) = (mW a kI kL kZ u).map (fun x => x.1) := (mW_adr0 u').trans (mW_adr0 u).symm
theorem tm_inb {B : Nat → Nat → Bool} {row bit : Nat} (h : bit < 192) : ((bw 3 B (3 * row + bit / 64) >>> ((nI (bit % 64)).toInt64 &&& 63)) &&& 1 = 1) ↔ B row bit = true := by
  rw [tm_sget _ (Nat.mod_lt _ (by decide)), Nat.mul_comm 3 row, bw_bit B (by omega)]
  cases B row bit <;> decide
theorem tm_setb {B : Nat → Nat → Bool} {row bit : Nat} (h : bit < 192) : vp_updL (bw 3 B) (3 * row + bit / 64) (bw 3 B (3 * row + bit / 64) ||| (1 : Int64) <<< ((nI (bit % 64)).toInt64 &&& 63)) = bw 3 (tm_put B row bit) := by
  rw [Nat.mul_comm 3 row]
  exact bw_put (by omega) (tm_shl1 _ (Nat.mod_lt _ (by decide)))
theorem tq_P1 {D : va_G} {cl : List vw_C} {ws : va_W} {H : Heap} {i : Nat} {x : Nat × va_E} (hP : va_P D cl ws H) (hi : ws[i]? = some x) : va_P D cl [x] H := by
  intro k q hk
  rw [List.mem_singleton.mp (List.mem_of_getElem? hk)]
  exact hP i x hi
theorem tq_DD1 {x : Nat × va_E} : va_D (fun _ => True) [x] := by
  refine ⟨fun a b p q ha hb hpq => ?_, fun _ _ _ => trivial⟩
  match a, b, ha, hb with
  | 0, 0, _, _ => rfl
  | a + 1, _, ha, _ => simp at ha
  | 0, b + 1, _, hb => simp at hb
set_option maxHeartbeats 4000000 in
set_option maxRecDepth 100000 in
/-- in -/
theorem m_in (l : Launch) (D : va_G) (wq n : Nat) (cL : ClassId) (B : Nat → Nat → Bool) (row bit : Nat) (h1 : bit < 192) (h2 : 3 * row + bit / 64 < n) (hn : n < 2 ^ 31) : Met l yM_in (wM_in :: wA) ({ frames := 0, cells := 0, slots := 0, locals := 0 }) (va_Pc [.ref wq, .int (nI row), .int (nI bit)] (tq_rB D vwA [(wq, .inl (cL, n, .inr (.inl (bw 3 B))))] [(cL, .long)])) (va_Qi (fun r (_ : Unit) => r = bI (B row bit)) (fun _ _ => True) (fun _ => False)) 0 0 (fun _ => False) := by
  refine Met.ofW (cc := bM_in) (maxL := 3) (ret := (some .boolean)) (by decide +kernel) rfl ?_
  intro p e s m args below meth c s₁ B1 hml hv
  obtain ⟨rfl, hP, hK⟩ := hv
  have hx := B1.exec
  have hb := B1.bytes
  have hr := B1.returns
  have hA : ∀ w ∈ wA, w.before ([.ref wq, .int (nI row), .int (nI bit)] : List Value).toArray s = true := fun w h => atoms_spec (ws := wM_in :: wA) B1.pre w (List.mem_cons_of_mem _ h)
  have hown : s.vm.findClass RcM = some m.cls := findClass_of_methodNamed B1.named
  have hlocks := B1.notSynchronized
  have hS : va_S (fun _ => False) s.heap s.heap [] := va_S.rf
  have hl := lv_entry ([.ref wq, .int (nI row), .int (nI bit)]) (n := 3) (Nat.le_of_ble_eq_true rfl)
  rw [lg_entry_eq]
  generalize (lg_sl ([.ref wq, .int (nI row), .int (nI bit)]) ++ List.replicate (3 - (lg_sl ([.ref wq, .int (nI row), .int (nI bit)])).length) Slot.unset).toArray = ls at hl ⊢
  have hl : lv_has ls 3 [(0, .ref wq), (1, .int (nI row)), (2, .int (nI bit))] := hl
  refine tq_gen (fun R Q hRe hQe => ?_)
  have hRf : 0 ≤ R.frames := by rw [hRe]; exact Nat.le_of_ble_eq_true rfl
  have hRl : 0 ≤ R.locals := by rw [hRe]; exact Nat.le_of_ble_eq_true rfl
  have hRc : 0 ≤ R.cells := by rw [hRe]; exact Nat.le_of_ble_eq_true rfl
  have hRs : 0 ≤ R.slots := by rw [hRe]; exact Nat.le_of_ble_eq_true rfl
  refine lv_aload_n hx hb dM_in_0 rfl (lv_at hl 0 rfl) ?_
  refine lv_iconst (v := nI 3) hx hb dM_in_1 (by decide +kernel) ?_
  refine lv_iload_n hx hb dM_in_2 rfl (lv_at hl 1 rfl) ?_
  refine tq_imul hx hb dM_in_3 ?_
  refine lv_iload_n hx hb dM_in_4 rfl (lv_at hl 2 rfl) ?_
  refine lv_bipush (v := nI 6) hx hb dM_in_5 (by decide +kernel) ?_
  refine tq_ishr6 hx hb dM_in_7 (by omega) ?_
  refine tq_iadd hx hb dM_in_8 ?_
  refine tq_lald hx hb hK hP 0 0 rfl rfl (by omega) (by omega) dM_in_9 ?_
  refine lv_iload_n hx hb dM_in_10 rfl (lv_at hl 2 rfl) ?_
  refine lv_bipush (v := nI 63) hx hb dM_in_11 (by decide +kernel) ?_
  refine tq_iand63 hx hb dM_in_13 (by omega) ?_
  refine lv_lshr hx hb dM_in_14 rfl ?_
  refine lv_lconst (v := 1) hx hb dM_in_15 (by decide +kernel) ?_
  refine lv_land hx hb dM_in_16 ?_
  refine lv_lconst (v := 1) hx hb dM_in_17 (by decide +kernel) ?_
  refine tq_lne hx hb dM_in_18 dM_in_19 (tgt := 26) (by decide) (fun h18 => ?_) (fun h18 => ?_)
  · have hB : B row bit = false := ts_nt (fun z => h18 ((tm_inb h1).mpr z))
    refine lv_iconst (v := nI 0) hx hb dM_in_26 (by decide +kernel) ?_
    subst hQe
    exact W.zret (v := nI 0) (ty := .boolean) hx hb hr rfl (fun t ht hW => ⟨⟨_, (), rfl, by rw [hB]; rfl, trivial⟩, hS.F ht⟩) hS.2.2 dM_in_27
  · have hB : B row bit = true := (tm_inb h1).mp h18
    refine lv_iconst (v := nI 1) hx hb dM_in_22 (by decide +kernel) ?_
    refine lv_goto hx hb dM_in_23 (tgt := 27) (by decide) ?_
    subst hQe
    exact W.zret (v := nI 1) (ty := .boolean) hx hb hr rfl (fun t ht hW => ⟨⟨_, (), rfl, by rw [hB]; rfl, trivial⟩, hS.F ht⟩) hS.2.2 dM_in_27
set_option maxHeartbeats 4000000 in
set_option maxRecDepth 100000 in
/-- set -/
theorem m_set (l : Launch) (D : va_G) (wq n : Nat) (cL : ClassId) (B : Nat → Nat → Bool) (row bit : Nat) (h1 : bit < 192) (h2 : 3 * row + bit / 64 < n) (hn : n < 2 ^ 31) : Met l yM_set (wM_set :: wA) ({ frames := 0, cells := 0, slots := 0, locals := 0 }) (va_Pc [.ref wq, .int (nI row), .int (nI bit)] (tq_wB D vwA [(wq, .inl (cL, n, .inr (.inl (bw 3 B))))] [(cL, .long)])) (va_Qv (fun (_ : Unit) => True) (fun _ t => va_P D vwA [(wq, .inl (cL, n, .inr (.inl (bw 3 (tm_put B row bit)))))] t.heap) (fun q => q = wq)) 0 0 (fun q => q = wq) := by
  refine Met.ofW (cc := bM_set) (maxL := 3) (ret := none) (by decide +kernel) rfl ?_
  intro p e s m args below meth c s₁ B1 hml hv
  obtain ⟨rfl, hP, hK, hD0⟩ := hv
  have hx := B1.exec
  have hb := B1.bytes
  have hr := B1.returns
  have hA : ∀ w ∈ wA, w.before ([.ref wq, .int (nI row), .int (nI bit)] : List Value).toArray s = true := fun w h => atoms_spec (ws := wM_set :: wA) B1.pre w (List.mem_cons_of_mem _ h)
  have hown : s.vm.findClass RcM = some m.cls := findClass_of_methodNamed B1.named
  have hlocks := B1.notSynchronized
  have hS : va_S (fun q => q = wq) s.heap s.heap [] := va_S.rf
  have hl := lv_entry ([.ref wq, .int (nI row), .int (nI bit)]) (n := 3) (Nat.le_of_ble_eq_true rfl)
  rw [lg_entry_eq]
  generalize (lg_sl ([.ref wq, .int (nI row), .int (nI bit)]) ++ List.replicate (3 - (lg_sl ([.ref wq, .int (nI row), .int (nI bit)])).length) Slot.unset).toArray = ls at hl ⊢
  have hl : lv_has ls 3 [(0, .ref wq), (1, .int (nI row)), (2, .int (nI bit))] := hl
  refine tq_gen (fun R Q hRe hQe => ?_)
  have hRf : 0 ≤ R.frames := by rw [hRe]; exact Nat.le_of_ble_eq_true rfl
  have hRl : 0 ≤ R.locals := by rw [hRe]; exact Nat.le_of_ble_eq_true rfl
  have hRc : 0 ≤ R.cells := by rw [hRe]; exact Nat.le_of_ble_eq_true rfl
  have hRs : 0 ≤ R.slots := by rw [hRe]; exact Nat.le_of_ble_eq_true rfl
  have hD : va_D (fun q => q = wq) [(wq, .inl (cL, n, .inr (.inl (bw 3 B))))] := ⟨hD0.1, fun k q hk => by rw [List.mem_singleton.mp (List.mem_of_getElem? hk)]⟩
  refine lv_aload_n hx hb dM_set_0 rfl (lv_at hl 0 rfl) ?_
  refine lv_iconst (v := nI 3) hx hb dM_set_1 (by decide +kernel) ?_
  refine lv_iload_n hx hb dM_set_2 rfl (lv_at hl 1 rfl) ?_
  refine tq_imul hx hb dM_set_3 ?_
  refine lv_iload_n hx hb dM_set_4 rfl (lv_at hl 2 rfl) ?_
  refine lv_bipush (v := nI 6) hx hb dM_set_5 (by decide +kernel) ?_
  refine tq_ishr6 hx hb dM_set_7 (by omega) ?_
  refine tq_iadd hx hb dM_set_8 ?_
  refine lv_dup2_11 hx hb dM_set_9 rfl rfl ?_
  refine tq_lald hx hb hK hP 0 0 rfl rfl (by omega) (by omega) dM_set_10 ?_
  refine lv_lconst (v := 1) hx hb dM_set_11 (by decide +kernel) ?_
  refine lv_iload_n hx hb dM_set_12 rfl (lv_at hl 2 rfl) ?_
  refine lv_bipush (v := nI 63) hx hb dM_set_13 (by decide +kernel) ?_
  refine tq_iand63 hx hb dM_set_15 (by omega) ?_
  refine lv_lshl hx hb dM_set_16 rfl ?_
  refine lv_lor hx hb dM_set_17 ?_
  refine tq_last hx hb hK hP hD hS 0 0 rfl rfl (by omega) (by omega) dM_set_18 (fun H locs hP hD hS => ?_)
  have hP : va_P D vwA [(wq, .inl (cL, n, .inr (.inl (vp_updL (bw 3 B) ((3 * row) + (bit / 64)) (((bw 3 B) ((3 * row) + (bit / 64))) ||| ((1 : Int64) <<< ((nI (bit % 64)).toInt64 &&& 63)))))))] H := hP
  have hD : va_D (fun q => q = wq) [(wq, .inl (cL, n, .inr (.inl (vp_updL (bw 3 B) ((3 * row) + (bit / 64)) (((bw 3 B) ((3 * row) + (bit / 64))) ||| ((1 : Int64) <<< ((nI (bit % 64)).toInt64 &&& 63)))))))] := hD
  subst hQe
  rw [tm_setb h1] at hP
  exact W.vret hx hb hr (fun t ht hW => ⟨⟨(), rfl, trivial, tq_hp ht hP⟩, hS.F ht⟩) hS.2.2 dM_set_19
section KM
variable {p : Program} {l : Launch} {e : Env} {R : Room} {s : State} {m : MethodId} {args : Array Value} {below : List Frame} {meth : Method} {c : Code} {H : Heap} {locs : List Loc} {cells slots : Nat} {Q : State → Prop}
variable {cc bytes : ByteArray} {pc nL index maxL k : Nat} {ret : Option FieldType} {wy : List Cond} {rm : Room} {y : MethodName} {ls : Array Slot} {rest st0 As : List Value} {D : va_G} {A : Nat → Prop} {tys : List (ClassId × FieldType)} {ws : va_W} {H0 : Heap} {own : String}
variable {w n : Nat} {cL : ClassId} {B : Nat → Nat → Bool}
theorem k_in {row bit : Nat} (S : CallFix p m c cc nL s args wA own) (cw : CallB R s args own index yM_in bM_in 3 (some .boolean) (wM_in :: wA) { frames := 0, cells := 0, slots := 0, locals := 0 } 0 0 3 ∧ (Cond.static yM_in).before args s = true) (hK : va_K D vwA tys s) (hP : va_P D vwA ws H) (hS : va_S A H0 H locs)
    (j t0 : Nat) (hj : ws[j]? = some (w, .inl (cL, n, .inr (.inl (bw 3 B))))) (ht : tys[t0]? = some (cL, .long)) (h1 : bit < 192) (h2 : 3 * row + bit / 64 < n) (hn : n < 2 ^ 31)
    (hls : ls.size = nL) (hroom : (rest.map fun v => v.category).sum ≤ 8) (hcs : cells + 0 ≤ R.cells ∧ slots + 0 ≤ R.slots) (hdg : decode cc pc = .ok (.invokestatic index, 3))
    (kk : ∀ (H1 : Heap) (locs1 : List Loc), va_P D vwA ws H1 → va_S A H0 H1 locs1 → W p l e R s m args below meth c H1 locs1 cells slots Q (F0 m (pc + 3) ls (.int (bI (B row bit)) :: rest))) : W p l e R s m args below meth c H locs cells slots Q (F0 m pc ls (.int (nI bit) :: .int (nI row) :: .ref w :: rest)) :=
  tq_rdv (va_runS (As := [.ref w, .int (nI row), .int (nI bit)]) (rest := rest) S (m_in l D w n cL B row bit h1 h2 hn) cw ⟨tq_rB_blind, fun U hU hW => ⟨rfl, by rw [hU]; exact tq_P1 hP hj, va_K.moved hW.alike (tq_K1 hK ht)⟩⟩ rfl rfl hls rfl (lv_room hroom) hdg hcs) hS hP kk
theorem k_set {row bit : Nat} (S : CallFix p m c cc nL s args wA own) (cw : CallB R s args own index yM_set bM_set 3 none (wM_set :: wA) { frames := 0, cells := 0, slots := 0, locals := 0 } 0 0 3 ∧ (Cond.static yM_set).before args s = true) (hK : va_K D vwA tys s) (hP : va_P D vwA ws H) (hD : va_D A ws) (hS : va_S A H0 H locs)
    (j t0 : Nat) (hj : ws[j]? = some (w, .inl (cL, n, .inr (.inl (bw 3 B))))) (ht : tys[t0]? = some (cL, .long)) (h1 : bit < 192) (h2 : 3 * row + bit / 64 < n) (hn : n < 2 ^ 31)
    (hls : ls.size = nL) (hroom : (rest.map fun v => v.category).sum ≤ 8) (hcs : cells + 0 ≤ R.cells ∧ slots + 0 ≤ R.slots) (hdg : decode cc pc = .ok (.invokestatic index, 3))
    (kk : ∀ (H1 : Heap) (locs1 : List Loc), va_P D vwA (ws.set j (w, .inl (cL, n, .inr (.inl (bw 3 (tm_put B row bit)))))) H1 → va_D A (ws.set j (w, .inl (cL, n, .inr (.inl (bw 3 (tm_put B row bit)))))) → va_S A H0 H1 locs1 → W p l e R s m args below meth c H1 locs1 cells slots Q (F0 m (pc + 3) ls rest)) : W p l e R s m args below meth c H locs cells slots Q (F0 m pc ls (.int (nI bit) :: .int (nI row) :: .ref w :: rest)) :=
  tq_wrv (va_runS (As := [.ref w, .int (nI row), .int (nI bit)]) (rest := rest) S (m_set l D w n cL B row bit h1 h2 hn) cw ⟨tq_wB_blind, fun U hU hW => ⟨rfl, by rw [hU]; exact tq_P1 hP hj, va_K.moved hW.alike (tq_K1 hK ht), tq_DD1⟩⟩ rfl rfl hls rfl (lv_room hroom) hdg hcs) hS (fun q z => by rw [z]; exact hD.2 j _ hj)
    (fun u t H1 locs1 ht1 _ hb hk hS1 => by
      rw [ht1] at hb
      exact kk H1 locs1 (tq_P_set hP hD hj (hb 0 _ rfl) (fun q hq hn => hk q hq hn)) (hD.set hj) hS1)
end KM
set_option maxHeartbeats 4000000 in
set_option maxRecDepth 100000 in
/-- row -/
theorem m_row (l : Launch) (i x : Nat) : Met l yM_row (wM_row :: wA) ({ frames := 0, cells := 0, slots := 0, locals := 0 }) (va_Pc [.int (nI i), .int (nI x)] (fun _ => True)) (va_Qi (fun r (_ : Unit) => r = nI (160 * i + x)) (fun _ _ => True) (fun _ => False)) 0 0 (fun _ => False) := by
  refine Met.ofW (cc := bM_row) (maxL := 2) (ret := (some .int)) (by decide +kernel) rfl ?_
  intro p e s m args below meth c s₁ B1 hml hv
  obtain ⟨rfl, -⟩ := hv
  have hx := B1.exec
  have hb := B1.bytes
  have hr := B1.returns
  have hA : ∀ w ∈ wA, w.before ([.int (nI i), .int (nI x)] : List Value).toArray s = true := fun w h => atoms_spec (ws := wM_row :: wA) B1.pre w (List.mem_cons_of_mem _ h)
  have hown : s.vm.findClass RcM = some m.cls := findClass_of_methodNamed B1.named
  have hlocks := B1.notSynchronized
  have hS : va_S (fun _ => False) s.heap s.heap [] := va_S.rf
  have hl := lv_entry ([.int (nI i), .int (nI x)]) (n := 2) (Nat.le_of_ble_eq_true rfl)
  rw [lg_entry_eq]
  generalize (lg_sl ([.int (nI i), .int (nI x)]) ++ List.replicate (2 - (lg_sl ([.int (nI i), .int (nI x)])).length) Slot.unset).toArray = ls at hl ⊢
  have hl : lv_has ls 2 [(0, .int (nI i)), (1, .int (nI x))] := hl
  refine tq_gen (fun R Q hRe hQe => ?_)
  have hRf : 0 ≤ R.frames := by rw [hRe]; exact Nat.le_of_ble_eq_true rfl
  have hRl : 0 ≤ R.locals := by rw [hRe]; exact Nat.le_of_ble_eq_true rfl
  have hRc : 0 ≤ R.cells := by rw [hRe]; exact Nat.le_of_ble_eq_true rfl
  have hRs : 0 ≤ R.slots := by rw [hRe]; exact Nat.le_of_ble_eq_true rfl
  refine lv_sipush (v := nI 160) hx hb dM_row_0 (by decide +kernel) ?_
  refine lv_iload_n hx hb dM_row_3 rfl (lv_at hl 0 rfl) ?_
  refine tq_imul hx hb dM_row_4 ?_
  refine lv_iload_n hx hb dM_row_5 rfl (lv_at hl 1 rfl) ?_
  refine tq_iadd hx hb dM_row_6 ?_
  subst hQe
  exact W.iret (v := nI ((160 * i) + x)) hx hb hr (fun t ht hW => ⟨⟨_, (), rfl, rfl, trivial⟩, hS.F ht⟩) hS.2.2 dM_row_7
noncomputable def m_th (N : Nat) (x : Int32) : Bool := dB (∃ k, k < N ∧ x = nI k)
theorem th_t {N d : Nat} (h : d < N) : m_th N (nI d) = true := dB_iff.mpr ⟨d, h, rfl⟩
theorem th_f {N : Nat} {x : Int32} (h : ∀ k, k < N → ¬ x = nI k) : m_th N x = false := dB_f.mpr (fun ⟨k, h1, h2⟩ => h k h1 h2)
def m_thr (u : sU) (t : Nat) : sU := (u.1, u.2.1, va_up u.2.2 0 t)
set_option maxHeartbeats 4000000 in
set_option maxRecDepth 100000 in
/-- isRole -/
theorem m_isRole (l : Launch) (x : Int32) : Met l yM_isRole (wM_isRole :: wA) ({ frames := 0, cells := 0, slots := 0, locals := 0 }) (va_Pc [.int x] (fun _ => True)) (va_Qi (fun r (_ : Unit) => r = bI (m_th 6 x)) (fun _ _ => True) (fun _ => False)) 0 0 (fun _ => False) := by
  refine Met.ofW (cc := bM_isRole) (maxL := 1) (ret := (some .boolean)) (by decide +kernel) rfl ?_
  intro p e s m args below meth c s₁ B1 hml hv
  obtain ⟨rfl, -⟩ := hv
  have hx := B1.exec
  have hb := B1.bytes
  have hr := B1.returns
  have hA : ∀ w ∈ wA, w.before ([.int x] : List Value).toArray s = true := fun w h => atoms_spec (ws := wM_isRole :: wA) B1.pre w (List.mem_cons_of_mem _ h)
  have hown : s.vm.findClass RcM = some m.cls := findClass_of_methodNamed B1.named
  have hlocks := B1.notSynchronized
  have hS : va_S (fun _ => False) s.heap s.heap [] := va_S.rf
  have hl := lv_entry ([.int x]) (n := 1) (Nat.le_of_ble_eq_true rfl)
  rw [lg_entry_eq]
  generalize (lg_sl ([.int x]) ++ List.replicate (1 - (lg_sl ([.int x])).length) Slot.unset).toArray = ls at hl ⊢
  have hl : lv_has ls 1 [(0, .int x)] := hl
  refine tq_gen (fun R Q hRe hQe => ?_)
  have hRf : 0 ≤ R.frames := by rw [hRe]; exact Nat.le_of_ble_eq_true rfl
  have hRl : 0 ≤ R.locals := by rw [hRe]; exact Nat.le_of_ble_eq_true rfl
  have hRc : 0 ≤ R.cells := by rw [hRe]; exact Nat.le_of_ble_eq_true rfl
  have hRs : 0 ≤ R.slots := by rw [hRe]; exact Nat.le_of_ble_eq_true rfl
  refine lv_iload_n hx hb dM_isRole_0 rfl (lv_at hl 0 rfl) ?_
  refine lv_if_lt hx hb dM_isRole_1 (tgt := 14) (by decide) (fun h1 => ?_) (fun h1 => ?_)
  · have hB : m_th 6 x = false := th_f (tq_out (Or.inl h1) (by omega))
    refine lv_iconst (v := nI 0) hx hb dM_isRole_14 (by decide +kernel) ?_
    subst hQe
    exact W.zret (v := nI 0) (ty := .boolean) hx hb hr rfl (fun t ht hW => ⟨⟨_, (), rfl, by rw [hB]; rfl, trivial⟩, hS.F ht⟩) hS.2.2 dM_isRole_15
  · refine lv_iload_n hx hb dM_isRole_4 rfl (lv_at hl 0 rfl) ?_
    refine lv_bipush (v := nI 6) hx hb dM_isRole_5 (by decide +kernel) ?_
    refine lv_icmp_ge hx hb dM_isRole_7 (tgt := 14) (by decide) (fun h7 => ?_) (fun h7 => ?_)
    · have hB : m_th 6 x = false := th_f (tq_out (Or.inr h7) (by omega))
      refine lv_iconst (v := nI 0) hx hb dM_isRole_14 (by decide +kernel) ?_
      subst hQe
      exact W.zret (v := nI 0) (ty := .boolean) hx hb hr rfl (fun t ht hW => ⟨⟨_, (), rfl, by rw [hB]; rfl, trivial⟩, hS.F ht⟩) hS.2.2 dM_isRole_15
    · have hB : m_th 6 x = true := dB_iff.mpr (tq_in h1 h7 (by omega))
      refine lv_iconst (v := nI 1) hx hb dM_isRole_10 (by decide +kernel) ?_
      refine lv_goto hx hb dM_isRole_11 (tgt := 15) (by decide) ?_
      subst hQe
      exact W.zret (v := nI 1) (ty := .boolean) hx hb hr rfl (fun t ht hW => ⟨⟨_, (), rfl, by rw [hB]; rfl, trivial⟩, hS.F ht⟩) hS.2.2 dM_isRole_15
set_option maxHeartbeats 4000000 in
set_option maxRecDepth 100000 in
/-- m_isThere -/
theorem m_isThere (l : Launch) (D : va_G) (a : Nat → Nat) (kI kL kZ : ClassId) (u : sU) (x : Int32) (hN : u.2.2 1 ≤ 160) : Met l yM_isThere (wM_isThere :: wA) ({ frames := 0, cells := 0, slots := 0, locals := 0 }) (va_Pc [.ref (a 0), .int x] (tq_rB D vwA (mW a kI kL kZ u) (sT kI kL kZ))) (va_Qi (fun r (_ : Unit) => r = bI (m_th (u.2.2 1) x)) (fun _ _ => True) (fun _ => False)) 0 0 (fun _ => False) := by
  refine Met.ofW (cc := bM_isThere) (maxL := 2) (ret := (some .boolean)) (by decide +kernel) rfl ?_
  intro p e s m args below meth c s₁ B1 hml hv
  obtain ⟨rfl, hP, hK⟩ := hv
  have hx := B1.exec
  have hb := B1.bytes
  have hr := B1.returns
  have hA : ∀ w ∈ wA, w.before ([.ref (a 0), .int x] : List Value).toArray s = true := fun w h => atoms_spec (ws := wM_isThere :: wA) B1.pre w (List.mem_cons_of_mem _ h)
  have hown : s.vm.findClass RcM = some m.cls := findClass_of_methodNamed B1.named
  have hlocks := B1.notSynchronized
  have hS : va_S (fun _ => False) s.heap s.heap [] := va_S.rf
  have hl := lv_entry ([.ref (a 0), .int x]) (n := 2) (Nat.le_of_ble_eq_true rfl)
  rw [lg_entry_eq]
  generalize (lg_sl ([.ref (a 0), .int x]) ++ List.replicate (2 - (lg_sl ([.ref (a 0), .int x])).length) Slot.unset).toArray = ls at hl ⊢
  have hl : lv_has ls 2 [(0, .ref (a 0)), (1, .int x)] := hl
  refine tq_gen (fun R Q hRe hQe => ?_)
  have hRf : 0 ≤ R.frames := by rw [hRe]; exact Nat.le_of_ble_eq_true rfl
  have hRl : 0 ≤ R.locals := by rw [hRe]; exact Nat.le_of_ble_eq_true rfl
  have hRc : 0 ≤ R.cells := by rw [hRe]; exact Nat.le_of_ble_eq_true rfl
  have hRs : 0 ≤ R.slots := by rw [hRe]; exact Nat.le_of_ble_eq_true rfl
  refine lv_iload_n hx hb dM_isThere_0 rfl (lv_at hl 1 rfl) ?_
  refine lv_if_lt hx hb dM_isThere_1 (tgt := 16) (by decide) (fun h1 => ?_) (fun h1 => ?_)
  · have hB : m_th (u.2.2 1) x = false := th_f (tq_out (Or.inl h1) (by omega))
    refine lv_iconst (v := nI 0) hx hb dM_isThere_16 (by decide +kernel) ?_
    subst hQe
    exact W.zret (v := nI 0) (ty := .boolean) hx hb hr rfl (fun t ht hW => ⟨⟨_, (), rfl, by rw [hB]; rfl, trivial⟩, hS.F ht⟩) hS.2.2 dM_isThere_17
  · refine lv_iload_n hx hb dM_isThere_4 rfl (lv_at hl 1 rfl) ?_
    refine lv_aload_n hx hb dM_isThere_5 rfl (lv_at hl 0 rfl) ?_
    refine gf_M_7 (v := .int (nI (u.2.2 1))) hx hb hA hown hK hP 0 rfl rfl dM_isThere_6 ?_
    refine lv_icmp_ge hx hb dM_isThere_9 (tgt := 16) (by decide) (fun h9 => ?_) (fun h9 => ?_)
    · have hB : m_th (u.2.2 1) x = false := th_f (tq_out (Or.inr h9) (by omega))
      refine lv_iconst (v := nI 0) hx hb dM_isThere_16 (by decide +kernel) ?_
      subst hQe
      exact W.zret (v := nI 0) (ty := .boolean) hx hb hr rfl (fun t ht hW => ⟨⟨_, (), rfl, by rw [hB]; rfl, trivial⟩, hS.F ht⟩) hS.2.2 dM_isThere_17
    · have hB : m_th (u.2.2 1) x = true := dB_iff.mpr (tq_in h1 h9 (by omega))
      refine lv_iconst (v := nI 1) hx hb dM_isThere_12 (by decide +kernel) ?_
      refine lv_goto hx hb dM_isThere_13 (tgt := 17) (by decide) ?_
      subst hQe
      exact W.zret (v := nI 1) (ty := .boolean) hx hb hr rfl (fun t ht hW => ⟨⟨_, (), rfl, by rw [hB]; rfl, trivial⟩, hS.F ht⟩) hS.2.2 dM_isThere_17
set_option maxHeartbeats 4000000 in
set_option maxRecDepth 100000 in
/-- m_thrown -/
theorem m_thrown (l : Launch) (D : va_G) (a : Nat → Nat) (kI kL kZ : ClassId) (u : sU)  : Met l yM_thrown (wM_thrown :: wA) ({ frames := 0, cells := 0, slots := 0, locals := 0 }) (va_Pc [.ref (a 0)] (tq_rB D vwA (mW a kI kL kZ u) (sT kI kL kZ))) (va_Qi (fun r (_ : Unit) => r = nI (u.2.2 0)) (fun _ _ => True) (fun _ => False)) 0 0 (fun _ => False) := by
  refine Met.ofW (cc := bM_thrown) (maxL := 1) (ret := (some .int)) (by decide +kernel) rfl ?_
  intro p e s m args below meth c s₁ B1 hml hv
  obtain ⟨rfl, hP, hK⟩ := hv
  have hx := B1.exec
  have hb := B1.bytes
  have hr := B1.returns
  have hA : ∀ w ∈ wA, w.before ([.ref (a 0)] : List Value).toArray s = true := fun w h => atoms_spec (ws := wM_thrown :: wA) B1.pre w (List.mem_cons_of_mem _ h)
  have hown : s.vm.findClass RcM = some m.cls := findClass_of_methodNamed B1.named
  have hlocks := B1.notSynchronized
  have hS : va_S (fun _ => False) s.heap s.heap [] := va_S.rf
  have hl := lv_entry ([.ref (a 0)]) (n := 1) (Nat.le_of_ble_eq_true rfl)
  rw [lg_entry_eq]
  generalize (lg_sl ([.ref (a 0)]) ++ List.replicate (1 - (lg_sl ([.ref (a 0)])).length) Slot.unset).toArray = ls at hl ⊢
  have hl : lv_has ls 1 [(0, .ref (a 0))] := hl
  refine tq_gen (fun R Q hRe hQe => ?_)
  have hRf : 0 ≤ R.frames := by rw [hRe]; exact Nat.le_of_ble_eq_true rfl
  have hRl : 0 ≤ R.locals := by rw [hRe]; exact Nat.le_of_ble_eq_true rfl
  have hRc : 0 ≤ R.cells := by rw [hRe]; exact Nat.le_of_ble_eq_true rfl
  have hRs : 0 ≤ R.slots := by rw [hRe]; exact Nat.le_of_ble_eq_true rfl
  refine lv_aload_n hx hb dM_thrown_0 rfl (lv_at hl 0 rfl) ?_
  refine gf_M_55 (v := .int (nI (u.2.2 0))) hx hb hA hown hK hP 0 rfl rfl dM_thrown_1 ?_
  subst hQe
  exact W.iret (v := nI (u.2.2 0)) hx hb hr (fun t ht hW => ⟨⟨_, (), rfl, rfl, trivial⟩, hS.F ht⟩) hS.2.2 dM_thrown_4
set_option maxHeartbeats 4000000 in
set_option maxRecDepth 100000 in
/-- m_fails0 -/
theorem m_fails0 (l : Launch) (D : va_G) (a : Nat → Nat) (kI kL kZ : ClassId) (u : sU)  : Met l yM_fails (wM_fails :: wA) ({ frames := 0, cells := 0, slots := 0, locals := 0 }) (va_Pc [.ref (a 0), .int (nI 0)] (tq_wB D vwA (mW a kI kL kZ u) (sT kI kL kZ))) (va_Qi (fun r (u' : sU) => r = nI 0 ∧ u' = m_thr u 0) (fun u' t => va_P D vwA (mW a kI kL kZ u') t.heap) (mA a)) 0 0 (mA a) := by
  refine Met.ofW (cc := bM_fails) (maxL := 2) (ret := (some .boolean)) (by decide +kernel) rfl ?_
  intro p e s m args below meth c s₁ B1 hml hv
  obtain ⟨rfl, hP, hK, hD0⟩ := hv
  have hx := B1.exec
  have hb := B1.bytes
  have hr := B1.returns
  have hA : ∀ w ∈ wA, w.before ([.ref (a 0), .int (nI 0)] : List Value).toArray s = true := fun w h => atoms_spec (ws := wM_fails :: wA) B1.pre w (List.mem_cons_of_mem _ h)
  have hown : s.vm.findClass RcM = some m.cls := findClass_of_methodNamed B1.named
  have hlocks := B1.notSynchronized
  have hS : va_S (mA a) s.heap s.heap [] := va_S.rf
  have hl := lv_entry ([.ref (a 0), .int (nI 0)]) (n := 2) (Nat.le_of_ble_eq_true rfl)
  rw [lg_entry_eq]
  generalize (lg_sl ([.ref (a 0), .int (nI 0)]) ++ List.replicate (2 - (lg_sl ([.ref (a 0), .int (nI 0)])).length) Slot.unset).toArray = ls at hl ⊢
  have hl : lv_has ls 2 [(0, .ref (a 0)), (1, .int (nI 0))] := hl
  refine tq_gen (fun R Q hRe hQe => ?_)
  have hRf : 0 ≤ R.frames := by rw [hRe]; exact Nat.le_of_ble_eq_true rfl
  have hRl : 0 ≤ R.locals := by rw [hRe]; exact Nat.le_of_ble_eq_true rfl
  have hRc : 0 ≤ R.cells := by rw [hRe]; exact Nat.le_of_ble_eq_true rfl
  have hRs : 0 ≤ R.slots := by rw [hRe]; exact Nat.le_of_ble_eq_true rfl
  have hD := mA_D hD0
  refine lv_aload_n hx hb dM_fails_0 rfl (lv_at hl 0 rfl) ?_
  refine lv_iload_n hx hb dM_fails_1 rfl (lv_at hl 1 rfl) ?_
  refine tq_zeq hx hb dM_fails_2 (tgt := 9) (by decide) (by omega) (fun h2 => ?_) (fun h2 => ?_)
  · refine lv_iconst (v := nI 0) hx hb dM_fails_9 (by decide +kernel) ?_
    refine pf_M_55 (v := .int (nI 0)) hx hb hA hown hK hP hD hS 0 rfl rfl rfl (Nat.le_of_ble_eq_true rfl) dM_fails_10 (fun H locs hP hD hS => ?_)
    have hP : va_P D vwA (mW a kI kL kZ (u.1, u.2.1, va_up u.2.2 0 0)) H := hP
    have hD : va_D (mA a) (mW a kI kL kZ (u.1, u.2.1, va_up u.2.2 0 0)) := hD
    refine lv_iload_n hx hb dM_fails_13 rfl (lv_at hl 1 rfl) ?_
    subst hQe
    exact W.zret (v := nI 0) (ty := .boolean) hx hb hr rfl (fun t ht hW => ⟨⟨_, (u.1, u.2.1, va_up u.2.2 0 0), rfl, ⟨rfl, rfl⟩, tq_hp ht hP⟩, hS.F ht⟩) hS.2.2 dM_fails_14
  · omega
set_option maxHeartbeats 4000000 in
set_option maxRecDepth 100000 in
/-- m_fails1 -/
theorem m_fails1 (l : Launch) (D : va_G) (a : Nat → Nat) (kI kL kZ : ClassId) (u : sU)  : Met l yM_fails (wM_fails :: wA) ({ frames := 0, cells := 0, slots := 0, locals := 0 }) (va_Pc [.ref (a 0), .int (nI 1)] (tq_wB D vwA (mW a kI kL kZ u) (sT kI kL kZ))) (va_Qi (fun r (u' : sU) => r = nI 1 ∧ u' = m_thr u 1) (fun u' t => va_P D vwA (mW a kI kL kZ u') t.heap) (mA a)) 0 0 (mA a) := by
  refine Met.ofW (cc := bM_fails) (maxL := 2) (ret := (some .boolean)) (by decide +kernel) rfl ?_
  intro p e s m args below meth c s₁ B1 hml hv
  obtain ⟨rfl, hP, hK, hD0⟩ := hv
  have hx := B1.exec
  have hb := B1.bytes
  have hr := B1.returns
  have hA : ∀ w ∈ wA, w.before ([.ref (a 0), .int (nI 1)] : List Value).toArray s = true := fun w h => atoms_spec (ws := wM_fails :: wA) B1.pre w (List.mem_cons_of_mem _ h)
  have hown : s.vm.findClass RcM = some m.cls := findClass_of_methodNamed B1.named
  have hlocks := B1.notSynchronized
  have hS : va_S (mA a) s.heap s.heap [] := va_S.rf
  have hl := lv_entry ([.ref (a 0), .int (nI 1)]) (n := 2) (Nat.le_of_ble_eq_true rfl)
  rw [lg_entry_eq]
  generalize (lg_sl ([.ref (a 0), .int (nI 1)]) ++ List.replicate (2 - (lg_sl ([.ref (a 0), .int (nI 1)])).length) Slot.unset).toArray = ls at hl ⊢
  have hl : lv_has ls 2 [(0, .ref (a 0)), (1, .int (nI 1))] := hl
  refine tq_gen (fun R Q hRe hQe => ?_)
  have hRf : 0 ≤ R.frames := by rw [hRe]; exact Nat.le_of_ble_eq_true rfl
  have hRl : 0 ≤ R.locals := by rw [hRe]; exact Nat.le_of_ble_eq_true rfl
  have hRc : 0 ≤ R.cells := by rw [hRe]; exact Nat.le_of_ble_eq_true rfl
  have hRs : 0 ≤ R.slots := by rw [hRe]; exact Nat.le_of_ble_eq_true rfl
  have hD := mA_D hD0
  refine lv_aload_n hx hb dM_fails_0 rfl (lv_at hl 0 rfl) ?_
  refine lv_iload_n hx hb dM_fails_1 rfl (lv_at hl 1 rfl) ?_
  refine tq_zeq hx hb dM_fails_2 (tgt := 9) (by decide) (by omega) (fun h2 => ?_) (fun h2 => ?_)
  · omega
  · refine lv_iconst (v := nI 1) hx hb dM_fails_5 (by decide +kernel) ?_
    refine lv_goto hx hb dM_fails_6 (tgt := 10) (by decide) ?_
    refine pf_M_55 (v := .int (nI 1)) hx hb hA hown hK hP hD hS 0 rfl rfl rfl (Nat.le_of_ble_eq_true rfl) dM_fails_10 (fun H locs hP hD hS => ?_)
    have hP : va_P D vwA (mW a kI kL kZ (u.1, u.2.1, va_up u.2.2 0 1)) H := hP
    have hD : va_D (mA a) (mW a kI kL kZ (u.1, u.2.1, va_up u.2.2 0 1)) := hD
    refine lv_iload_n hx hb dM_fails_13 rfl (lv_at hl 1 rfl) ?_
    subst hQe
    exact W.zret (v := nI 1) (ty := .boolean) hx hb hr rfl (fun t ht hW => ⟨⟨_, (u.1, u.2.1, va_up u.2.2 0 1), rfl, ⟨rfl, rfl⟩, tq_hp ht hP⟩, hS.F ht⟩) hS.2.2 dM_fails_14
set_option maxHeartbeats 4000000 in
set_option maxRecDepth 100000 in
/-- m_add0 -/
theorem m_add0 (l : Launch) (D : va_G) (a : Nat → Nat) (kI kL kZ : ClassId) (u : sU) (x y : Nat) (hx0 : x < 160) (hy0 : y < 160) : Met l yM_add (wM_add :: wA) ({ frames := 1, cells := 0, slots := 0, locals := 22 }) (va_Pc [.ref (a 0), .int (nI x), .int (nI y)] (tq_wB D vwA (mW a kI kL kZ u) (sT kI kL kZ))) (va_Qv (fun (u' : sU) => m_add u u' x y) (fun u' t => va_P D vwA (mW a kI kL kZ u') t.heap) (mA a)) 0 0 (mA a) := by
  refine Met.ofW (cc := bM_add) (maxL := 3) (ret := none) (by decide +kernel) rfl ?_
  intro p e s m args below meth c s₁ B1 hml hv
  obtain ⟨rfl, hP, hK, hD0⟩ := hv
  have hx := B1.exec
  have hb := B1.bytes
  have hr := B1.returns
  have hA : ∀ w ∈ wA, w.before ([.ref (a 0), .int (nI x), .int (nI y)] : List Value).toArray s = true := fun w h => atoms_spec (ws := wM_add :: wA) B1.pre w (List.mem_cons_of_mem _ h)
  have hown : s.vm.findClass RcM = some m.cls := findClass_of_methodNamed B1.named
  have hlocks := B1.notSynchronized
  have hS : va_S (mA a) s.heap s.heap [] := va_S.rf
  have hl := lv_entry ([.ref (a 0), .int (nI x), .int (nI y)]) (n := 3) (Nat.le_of_ble_eq_true rfl)
  rw [lg_entry_eq]
  generalize (lg_sl ([.ref (a 0), .int (nI x), .int (nI y)]) ++ List.replicate (3 - (lg_sl ([.ref (a 0), .int (nI x), .int (nI y)])).length) Slot.unset).toArray = ls at hl ⊢
  have hl : lv_has ls 3 [(0, .ref (a 0)), (1, .int (nI x)), (2, .int (nI y))] := hl
  refine tq_gen (fun R Q hRe hQe => ?_)
  have hRf : 1 ≤ R.frames := by rw [hRe]; exact Nat.le_of_ble_eq_true rfl
  have hRl : 22 ≤ R.locals := by rw [hRe]; exact Nat.le_of_ble_eq_true rfl
  have hRc : 0 ≤ R.cells := by rw [hRe]; exact Nat.le_of_ble_eq_true rfl
  have hRs : 0 ≤ R.slots := by rw [hRe]; exact Nat.le_of_ble_eq_true rfl
  have hD := mA_D hD0
  refine lv_aload_n hx hb dM_add_0 rfl (lv_at hl 0 rfl) ?_
  refine gf_M_42 (v := .ref (a 10)) hx hb hA hown hK hP 0 rfl rfl dM_add_1 ?_
  refine lv_iload_n hx hb dM_add_4 rfl (lv_at hl 1 rfl) ?_
  refine lv_iload_n hx hb dM_add_5 rfl (lv_at hl 2 rfl) ?_
  refine k_in ⟨hx, hb, hml, hown, hA⟩ (kw_M_84 hA rfl rfl ⟨Nat.le_trans (Nat.le_of_ble_eq_true rfl) hRf, Nat.le_trans (Nat.le_of_ble_eq_true rfl) hRl⟩) hK hP hS 10 1 rfl rfl (by omega) (by omega) (by decide) hl.1 (Nat.le_of_ble_eq_true rfl) ⟨by omega, by omega⟩ dM_add_6 (fun H locs hP hS => ?_)
  refine tq_bf hx hb dM_add_9 (tgt := 13) (by decide) (fun h9 => ?_) (fun h9 => ?_)
  · refine lv_aload_n hx hb dM_add_13 rfl (lv_at hl 0 rfl) ?_
    refine gf_M_42 (v := .ref (a 10)) hx hb hA hown hK hP 0 rfl rfl dM_add_14 ?_
    refine lv_iload_n hx hb dM_add_17 rfl (lv_at hl 1 rfl) ?_
    refine lv_iload_n hx hb dM_add_18 rfl (lv_at hl 2 rfl) ?_
    refine k_set ⟨hx, hb, hml, hown, hA⟩ (kw_M_88 hA rfl rfl ⟨Nat.le_trans (Nat.le_of_ble_eq_true rfl) hRf, Nat.le_trans (Nat.le_of_ble_eq_true rfl) hRl⟩) hK hP hD hS 10 1 rfl rfl (by omega) (by omega) (by decide) hl.1 (Nat.le_of_ble_eq_true rfl) ⟨by omega, by omega⟩ dM_add_19 (fun H locs hP hD hS => ?_)
    have hP : va_P D vwA (mW a kI kL kZ (va_up u.1 0 (tm_put (u.1 0) x y), u.2.1, u.2.2)) H := hP
    have hD : va_D (mA a) (mW a kI kL kZ (va_up u.1 0 (tm_put (u.1 0) x y), u.2.1, u.2.2)) := hD
    refine lv_aload_n hx hb dM_add_22 rfl (lv_at hl 0 rfl) ?_
    refine gf_M_46 (v := .ref (a 11)) hx hb hA hown hK hP 0 rfl rfl dM_add_23 ?_
    refine lv_iload_n hx hb dM_add_26 rfl (lv_at hl 2 rfl) ?_
    refine lv_iload_n hx hb dM_add_27 rfl (lv_at hl 1 rfl) ?_
    refine k_set ⟨hx, hb, hml, hown, hA⟩ (kw_M_88 hA rfl rfl ⟨Nat.le_trans (Nat.le_of_ble_eq_true rfl) hRf, Nat.le_trans (Nat.le_of_ble_eq_true rfl) hRl⟩) hK hP hD hS 11 1 rfl rfl (by omega) (by omega) (by decide) hl.1 (Nat.le_of_ble_eq_true rfl) ⟨by omega, by omega⟩ dM_add_28 (fun H locs hP hD hS => ?_)
    have hP : va_P D vwA (mW a kI kL kZ (va_up (va_up u.1 0 (tm_put (u.1 0) x y)) 1 (tm_put (u.1 1) y x), u.2.1, u.2.2)) H := hP
    have hD : va_D (mA a) (mW a kI kL kZ (va_up (va_up u.1 0 (tm_put (u.1 0) x y)) 1 (tm_put (u.1 1) y x), u.2.1, u.2.2)) := hD
    refine lv_aload_n hx hb dM_add_31 rfl (lv_at hl 0 rfl) ?_
    refine lv_iconst (v := nI 1) hx hb dM_add_32 (by decide +kernel) ?_
    refine pf_M_92 (v := .int (nI 1)) hx hb hA hown hK hP hD hS 0 rfl rfl rfl (Nat.le_of_ble_eq_true rfl) dM_add_33 (fun H locs hP hD hS => ?_)
    have hP : va_P D vwA (mW a kI kL kZ (va_up (va_up u.1 0 (tm_put (u.1 0) x y)) 1 (tm_put (u.1 1) y x), u.2.1, va_up u.2.2 4 1)) H := hP
    have hD : va_D (mA a) (mW a kI kL kZ (va_up (va_up u.1 0 (tm_put (u.1 0) x y)) 1 (tm_put (u.1 1) y x), u.2.1, va_up u.2.2 4 1)) := hD
    subst hQe
    exact W.vret hx hb hr (fun t ht hW => ⟨⟨(va_up (va_up u.1 0 (tm_put (u.1 0) x y)) 1 (tm_put (u.1 1) y x), u.2.1, va_up u.2.2 4 1), rfl, Or.inr ⟨h9, rfl⟩, tq_hp ht hP⟩, hS.F ht⟩) hS.2.2 dM_add_36
  · subst hQe
    exact W.vret hx hb hr (fun t ht hW => ⟨⟨u, rfl, Or.inl ⟨h9, rfl⟩, tq_hp ht hP⟩, hS.F ht⟩) hS.2.2 dM_add_12
set_option maxHeartbeats 4000000 in
set_option maxRecDepth 100000 in
/-- m_join0 -/
theorem m_join0 (l : Launch) (D : va_G) (a : Nat → Nat) (kI kL kZ : ClassId) (u : sU) (z f : Nat) (hz : z < 960) (hf : f < 960) (hm4 : u.2.2 4 ≤ 1) : Met l yM_join (wM_join :: wA) ({ frames := 0, cells := 0, slots := 0, locals := 0 }) (va_Pc [.ref (a 0), .int (nI z), .int (nI f)] (tq_wB D vwA (mW a kI kL kZ u) (sT kI kL kZ))) (va_Qv (fun (u' : sU) => m_join u u' z f) (fun u' t => va_P D vwA (mW a kI kL kZ u') t.heap) (mA a)) 0 0 (mA a) := by
  refine Met.ofW (cc := bM_join) (maxL := 6) (ret := none) (by decide +kernel) rfl ?_
  intro p e s m args below meth c s₁ B1 hml hv
  obtain ⟨rfl, hP, hK, hD0⟩ := hv
  have hx := B1.exec
  have hb := B1.bytes
  have hr := B1.returns
  have hA : ∀ w ∈ wA, w.before ([.ref (a 0), .int (nI z), .int (nI f)] : List Value).toArray s = true := fun w h => atoms_spec (ws := wM_join :: wA) B1.pre w (List.mem_cons_of_mem _ h)
  have hown : s.vm.findClass RcM = some m.cls := findClass_of_methodNamed B1.named
  have hlocks := B1.notSynchronized
  have hS : va_S (mA a) s.heap s.heap [] := va_S.rf
  have hl := lv_entry ([.ref (a 0), .int (nI z), .int (nI f)]) (n := 6) (Nat.le_of_ble_eq_true rfl)
  rw [lg_entry_eq]
  generalize (lg_sl ([.ref (a 0), .int (nI z), .int (nI f)]) ++ List.replicate (6 - (lg_sl ([.ref (a 0), .int (nI z), .int (nI f)])).length) Slot.unset).toArray = ls at hl ⊢
  have hl : lv_has ls 6 [(0, .ref (a 0)), (1, .int (nI z)), (2, .int (nI f))] := hl
  refine tq_gen (fun R Q hRe hQe => ?_)
  have hRf : 0 ≤ R.frames := by rw [hRe]; exact Nat.le_of_ble_eq_true rfl
  have hRl : 0 ≤ R.locals := by rw [hRe]; exact Nat.le_of_ble_eq_true rfl
  have hRc : 0 ≤ R.cells := by rw [hRe]; exact Nat.le_of_ble_eq_true rfl
  have hRs : 0 ≤ R.slots := by rw [hRe]; exact Nat.le_of_ble_eq_true rfl
  have hD := mA_D hD0
  have hP : va_P D vwA (mW a kI kL kZ (va_up u.1 2 (m_jk (u.1 2) z f 0), u.2.1, va_up u.2.2 4 (u.2.2 4))) s.heap := by rw [jk_0, up_self, up_self]; exact hP
  have hD : va_D (mA a) (mW a kI kL kZ (va_up u.1 2 (m_jk (u.1 2) z f 0), u.2.1, va_up u.2.2 4 (u.2.2 4))) := by rw [jk_0, up_self, up_self]; exact hD
  refine lv_iconst (v := nI 0) hx hb dM_join_0 (by decide +kernel) ?_
  refine lv_istore_n (lv' := [(3, .int (nI 0)), (0, .ref (a 0)), (1, .int (nI z)), (2, .int (nI f))]) hx hb dM_join_1 rfl hl (by decide) rfl (fun ls hl => ?_)
  have lp : ∀ (fu : Nat) (n q : Nat) (ls : Array Slot) (H : Heap) (locs : List Loc), m_jm (u.1 2) z f n (u.2.2 4) q → n ≤ 3 → va_P D vwA (mW a kI kL kZ (va_up u.1 2 (m_jk (u.1 2) z f n), u.2.1, va_up u.2.2 4 q)) H → va_D (mA a) (mW a kI kL kZ (va_up u.1 2 (m_jk (u.1 2) z f n), u.2.1, va_up u.2.2 4 q)) → va_S (mA a) s.heap H locs → 3 - n < fu → lv_has ls 6 [(3, .int (nI n)), (0, .ref (a 0)), (1, .int (nI z)), (2, .int (nI f))] → W p l e R s m ([.ref (a 0), .int (nI z), .int (nI f)] : List Value).toArray below meth c H locs 0 0 Q (F0 m 2 ls []) := by
    intro fu
    induction fu with
    | zero => intros; omega
    | succ fu ih2 =>
      intro n q  ls H locs g1 g2 hP hD hS hfu hl
      have hq := g1.1
      refine lv_iload_n hx hb dM_join_2 rfl (lv_at hl 0 rfl) ?_
      refine lv_iconst (v := nI 3) hx hb dM_join_3 (by decide +kernel) ?_
      refine tq_ge hx hb dM_join_4 (tgt := 80) (by decide) (by omega) (by omega) (fun h4 => ?_) (fun h4 => ?_)
      · subst hQe
        exact W.vret hx hb hr (fun t ht hW => ⟨⟨(va_up u.1 2 (m_jk (u.1 2) z f n), u.2.1, va_up u.2.2 4 q), rfl, ⟨q, by rw [show n = 3 by omega], by rw [show n = 3 by omega] at g1; exact g1⟩, tq_hp ht hP⟩, hS.F ht⟩) hS.2.2 dM_join_80
      · refine lv_aload_n hx hb dM_join_7 rfl (lv_at hl 1 rfl) ?_
        refine gf_M_49 (v := .ref (a 12)) hx hb hA hown hK hP 0 rfl rfl dM_join_8 ?_
        refine lv_iconst (v := nI 3) hx hb dM_join_11 (by decide +kernel) ?_
        refine lv_iload_n hx hb dM_join_12 rfl (lv_at hl 2 rfl) ?_
        refine tq_imul hx hb dM_join_13 ?_
        refine lv_iload_n hx hb dM_join_14 rfl (lv_at hl 0 rfl) ?_
        refine tq_iadd hx hb dM_join_15 ?_
        refine tq_lald hx hb hK hP 12 1 rfl rfl (by omega) (by omega) dM_join_16 ?_
        refine lv_aload_n hx hb dM_join_17 rfl (lv_at hl 1 rfl) ?_
        refine gf_M_49 (v := .ref (a 12)) hx hb hA hown hK hP 0 rfl rfl dM_join_18 ?_
        refine lv_iconst (v := nI 3) hx hb dM_join_21 (by decide +kernel) ?_
        refine lv_iload_n hx hb dM_join_22 rfl (lv_at hl 3 rfl) ?_
        refine tq_imul hx hb dM_join_23 ?_
        refine lv_iload_n hx hb dM_join_24 rfl (lv_at hl 0 rfl) ?_
        refine tq_iadd hx hb dM_join_25 ?_
        refine tq_lald hx hb hK hP 12 1 rfl rfl (by omega) (by omega) dM_join_26 ?_
        refine lv_lor hx hb dM_join_27 ?_
        refine lv_lstore (lv' := [(4, .long (((bw 3 (m_jk (u.1 2) z f n)) ((3 * z) + n)) ||| ((bw 3 (m_jk (u.1 2) z f n)) ((3 * f) + n)))), (3, .int (nI n)), (0, .ref (a 0)), (1, .int (nI z)), (2, .int (nI f))]) hx hb dM_join_28 hl (by decide) rfl (fun ls hl => ?_)
        refine lv_aload_n hx hb dM_join_30 rfl (lv_at hl 2 rfl) ?_
        refine lv_aload_n hx hb dM_join_31 rfl (lv_at hl 2 rfl) ?_
        refine gf_M_92 (v := .int (nI q)) hx hb hA hown hK hP 0 rfl rfl dM_join_32 ?_
        refine tq_zne hx hb dM_join_35 (tgt := 54) (by decide) (by omega) (fun h35 => ?_) (fun h35 => ?_)
        · have hj := jm_1 g1 h35
          refine lv_iconst (v := nI 1) hx hb dM_join_54 (by decide +kernel) ?_
          refine lv_goto hx hb dM_join_55 (tgt := 59) (by decide) ?_
          refine pf_M_92 (v := .int (nI 1)) hx hb hA hown hK hP hD hS 0 rfl rfl rfl (Nat.le_of_ble_eq_true rfl) dM_join_59 (fun H locs hP hD hS => ?_)
          have hP : va_P D vwA (mW a kI kL kZ (va_up u.1 2 (m_jk (u.1 2) z f n), u.2.1, va_up u.2.2 4 1)) H := hP
          have hD : va_D (mA a) (mW a kI kL kZ (va_up u.1 2 (m_jk (u.1 2) z f n), u.2.1, va_up u.2.2 4 1)) := hD
          refine lv_aload_n hx hb dM_join_62 rfl (lv_at hl 2 rfl) ?_
          refine gf_M_49 (v := .ref (a 12)) hx hb hA hown hK hP 0 rfl rfl dM_join_63 ?_
          refine lv_iconst (v := nI 3) hx hb dM_join_66 (by decide +kernel) ?_
          refine lv_iload_n hx hb dM_join_67 rfl (lv_at hl 3 rfl) ?_
          refine tq_imul hx hb dM_join_68 ?_
          refine lv_iload_n hx hb dM_join_69 rfl (lv_at hl 1 rfl) ?_
          refine tq_iadd hx hb dM_join_70 ?_
          refine lv_lload hx hb dM_join_71 (lv_at hl 0 rfl) ?_
          refine tq_last hx hb hK hP hD hS 12 1 rfl rfl (by omega) (by omega) dM_join_73 (fun H locs hP hD hS => ?_)
          have hP : va_P D vwA (mX a kI kL kZ (va_up u.1 2 (m_jk (u.1 2) z f n), u.2.1, va_up u.2.2 4 1) (bw 3 (u.1 0)) (bw 3 (u.1 1)) (vp_updL (bw 3 (m_jk (u.1 2) z f n)) ((3 * z) + n) (((bw 3 (m_jk (u.1 2) z f n)) ((3 * z) + n)) ||| ((bw 3 (m_jk (u.1 2) z f n)) ((3 * f) + n))))) H := hP
          have hD : va_D (mA a) (mX a kI kL kZ (va_up u.1 2 (m_jk (u.1 2) z f n), u.2.1, va_up u.2.2 4 1) (bw 3 (u.1 0)) (bw 3 (u.1 1)) (vp_updL (bw 3 (m_jk (u.1 2) z f n)) ((3 * z) + n) (((bw 3 (m_jk (u.1 2) z f n)) ((3 * z) + n)) ||| ((bw 3 (m_jk (u.1 2) z f n)) ((3 * f) + n))))) := hD
          rw [jk_s (B := u.1 2) (z := z) (f := f) (k := n) (by omega)] at hP hD
          have hP : va_P D vwA (mW a kI kL kZ (va_up u.1 2 (m_jk (u.1 2) z f (n + 1)), u.2.1, va_up u.2.2 4 1)) H := hP
          have hD : va_D (mA a) (mW a kI kL kZ (va_up u.1 2 (m_jk (u.1 2) z f (n + 1)), u.2.1, va_up u.2.2 4 1)) := hD
          refine lv_iinc (k := 1) (lv' := [(3, .int (nI (n + 1))), (4, .long (((bw 3 (m_jk (u.1 2) z f n)) ((3 * z) + n)) ||| ((bw 3 (m_jk (u.1 2) z f n)) ((3 * f) + n)))), (0, .ref (a 0)), (1, .int (nI z)), (2, .int (nI f))]) hx hb dM_join_74 hl rfl (nI_1 _) (by decide) rfl (fun ls hl => ?_)
          refine lv_goto hx hb dM_join_77 (tgt := 2) (by decide) ?_
          exact ih2 (n + 1) 1 ls H locs hj (by omega) hP hD hS (by omega) (lv_sub hl [0, 2, 3, 4] rfl)
        · refine lv_lload hx hb dM_join_38 (lv_at hl 0 rfl) ?_
          refine lv_aload_n hx hb dM_join_40 rfl (lv_at hl 2 rfl) ?_
          refine gf_M_49 (v := .ref (a 12)) hx hb hA hown hK hP 0 rfl rfl dM_join_41 ?_
          refine lv_iconst (v := nI 3) hx hb dM_join_44 (by decide +kernel) ?_
          refine lv_iload_n hx hb dM_join_45 rfl (lv_at hl 3 rfl) ?_
          refine tq_imul hx hb dM_join_46 ?_
          refine lv_iload_n hx hb dM_join_47 rfl (lv_at hl 1 rfl) ?_
          refine tq_iadd hx hb dM_join_48 ?_
          refine tq_lald hx hb hK hP 12 1 rfl rfl (by omega) (by omega) dM_join_49 ?_
          refine tq_leq hx hb dM_join_50 dM_join_51 (tgt := 58) (by decide) (fun h50 => ?_) (fun h50 => ?_)
          · have hj := jm_2 g1 h35 (jk_eq (by omega) h50)
            refine lv_iconst (v := nI 0) hx hb dM_join_58 (by decide +kernel) ?_
            refine pf_M_92 (v := .int (nI 0)) hx hb hA hown hK hP hD hS 0 rfl rfl rfl (Nat.le_of_ble_eq_true rfl) dM_join_59 (fun H locs hP hD hS => ?_)
            have hP : va_P D vwA (mW a kI kL kZ (va_up u.1 2 (m_jk (u.1 2) z f n), u.2.1, va_up u.2.2 4 0)) H := hP
            have hD : va_D (mA a) (mW a kI kL kZ (va_up u.1 2 (m_jk (u.1 2) z f n), u.2.1, va_up u.2.2 4 0)) := hD
            refine lv_aload_n hx hb dM_join_62 rfl (lv_at hl 2 rfl) ?_
            refine gf_M_49 (v := .ref (a 12)) hx hb hA hown hK hP 0 rfl rfl dM_join_63 ?_
            refine lv_iconst (v := nI 3) hx hb dM_join_66 (by decide +kernel) ?_
            refine lv_iload_n hx hb dM_join_67 rfl (lv_at hl 3 rfl) ?_
            refine tq_imul hx hb dM_join_68 ?_
            refine lv_iload_n hx hb dM_join_69 rfl (lv_at hl 1 rfl) ?_
            refine tq_iadd hx hb dM_join_70 ?_
            refine lv_lload hx hb dM_join_71 (lv_at hl 0 rfl) ?_
            refine tq_last hx hb hK hP hD hS 12 1 rfl rfl (by omega) (by omega) dM_join_73 (fun H locs hP hD hS => ?_)
            have hP : va_P D vwA (mX a kI kL kZ (va_up u.1 2 (m_jk (u.1 2) z f n), u.2.1, va_up u.2.2 4 0) (bw 3 (u.1 0)) (bw 3 (u.1 1)) (vp_updL (bw 3 (m_jk (u.1 2) z f n)) ((3 * z) + n) (((bw 3 (m_jk (u.1 2) z f n)) ((3 * z) + n)) ||| ((bw 3 (m_jk (u.1 2) z f n)) ((3 * f) + n))))) H := hP
            have hD : va_D (mA a) (mX a kI kL kZ (va_up u.1 2 (m_jk (u.1 2) z f n), u.2.1, va_up u.2.2 4 0) (bw 3 (u.1 0)) (bw 3 (u.1 1)) (vp_updL (bw 3 (m_jk (u.1 2) z f n)) ((3 * z) + n) (((bw 3 (m_jk (u.1 2) z f n)) ((3 * z) + n)) ||| ((bw 3 (m_jk (u.1 2) z f n)) ((3 * f) + n))))) := hD
            rw [jk_s (B := u.1 2) (z := z) (f := f) (k := n) (by omega)] at hP hD
            have hP : va_P D vwA (mW a kI kL kZ (va_up u.1 2 (m_jk (u.1 2) z f (n + 1)), u.2.1, va_up u.2.2 4 0)) H := hP
            have hD : va_D (mA a) (mW a kI kL kZ (va_up u.1 2 (m_jk (u.1 2) z f (n + 1)), u.2.1, va_up u.2.2 4 0)) := hD
            refine lv_iinc (k := 1) (lv' := [(3, .int (nI (n + 1))), (4, .long (((bw 3 (m_jk (u.1 2) z f n)) ((3 * z) + n)) ||| ((bw 3 (m_jk (u.1 2) z f n)) ((3 * f) + n)))), (0, .ref (a 0)), (1, .int (nI z)), (2, .int (nI f))]) hx hb dM_join_74 hl rfl (nI_1 _) (by decide) rfl (fun ls hl => ?_)
            refine lv_goto hx hb dM_join_77 (tgt := 2) (by decide) ?_
            exact ih2 (n + 1) 0 ls H locs hj (by omega) hP hD hS (by omega) (lv_sub hl [0, 2, 3, 4] rfl)
          · have hj := jm_3 g1 h35 (jk_ne (by omega) h50)
            refine lv_iconst (v := nI 1) hx hb dM_join_54 (by decide +kernel) ?_
            refine lv_goto hx hb dM_join_55 (tgt := 59) (by decide) ?_
            refine pf_M_92 (v := .int (nI 1)) hx hb hA hown hK hP hD hS 0 rfl rfl rfl (Nat.le_of_ble_eq_true rfl) dM_join_59 (fun H locs hP hD hS => ?_)
            have hP : va_P D vwA (mW a kI kL kZ (va_up u.1 2 (m_jk (u.1 2) z f n), u.2.1, va_up u.2.2 4 1)) H := hP
            have hD : va_D (mA a) (mW a kI kL kZ (va_up u.1 2 (m_jk (u.1 2) z f n), u.2.1, va_up u.2.2 4 1)) := hD
            refine lv_aload_n hx hb dM_join_62 rfl (lv_at hl 2 rfl) ?_
            refine gf_M_49 (v := .ref (a 12)) hx hb hA hown hK hP 0 rfl rfl dM_join_63 ?_
            refine lv_iconst (v := nI 3) hx hb dM_join_66 (by decide +kernel) ?_
            refine lv_iload_n hx hb dM_join_67 rfl (lv_at hl 3 rfl) ?_
            refine tq_imul hx hb dM_join_68 ?_
            refine lv_iload_n hx hb dM_join_69 rfl (lv_at hl 1 rfl) ?_
            refine tq_iadd hx hb dM_join_70 ?_
            refine lv_lload hx hb dM_join_71 (lv_at hl 0 rfl) ?_
            refine tq_last hx hb hK hP hD hS 12 1 rfl rfl (by omega) (by omega) dM_join_73 (fun H locs hP hD hS => ?_)
            have hP : va_P D vwA (mX a kI kL kZ (va_up u.1 2 (m_jk (u.1 2) z f n), u.2.1, va_up u.2.2 4 1) (bw 3 (u.1 0)) (bw 3 (u.1 1)) (vp_updL (bw 3 (m_jk (u.1 2) z f n)) ((3 * z) + n) (((bw 3 (m_jk (u.1 2) z f n)) ((3 * z) + n)) ||| ((bw 3 (m_jk (u.1 2) z f n)) ((3 * f) + n))))) H := hP
            have hD : va_D (mA a) (mX a kI kL kZ (va_up u.1 2 (m_jk (u.1 2) z f n), u.2.1, va_up u.2.2 4 1) (bw 3 (u.1 0)) (bw 3 (u.1 1)) (vp_updL (bw 3 (m_jk (u.1 2) z f n)) ((3 * z) + n) (((bw 3 (m_jk (u.1 2) z f n)) ((3 * z) + n)) ||| ((bw 3 (m_jk (u.1 2) z f n)) ((3 * f) + n))))) := hD
            rw [jk_s (B := u.1 2) (z := z) (f := f) (k := n) (by omega)] at hP hD
            have hP : va_P D vwA (mW a kI kL kZ (va_up u.1 2 (m_jk (u.1 2) z f (n + 1)), u.2.1, va_up u.2.2 4 1)) H := hP
            have hD : va_D (mA a) (mW a kI kL kZ (va_up u.1 2 (m_jk (u.1 2) z f (n + 1)), u.2.1, va_up u.2.2 4 1)) := hD
            refine lv_iinc (k := 1) (lv' := [(3, .int (nI (n + 1))), (4, .long (((bw 3 (m_jk (u.1 2) z f n)) ((3 * z) + n)) ||| ((bw 3 (m_jk (u.1 2) z f n)) ((3 * f) + n)))), (0, .ref (a 0)), (1, .int (nI z)), (2, .int (nI f))]) hx hb dM_join_74 hl rfl (nI_1 _) (by decide) rfl (fun ls hl => ?_)
            refine lv_goto hx hb dM_join_77 (tgt := 2) (by decide) ?_
            exact ih2 (n + 1) 1 ls H locs hj (by omega) hP hD hS (by omega) (lv_sub hl [0, 2, 3, 4] rfl)
  exact lp _ 0 (u.2.2 4) ls _ _ (jm_0 hm4) (by omega) hP hD hS (Nat.lt_succ_self _) (lv_sub hl [0, 1, 2, 3] rfl)
theorem w0_iff {x : Int64} : x = 0 ↔ ∀ i, i < 64 → x.toBitVec.getLsbD i = false := by
  constructor
  · intro h i _
    rw [h]
    show (0#64).getLsbD i = false
    simp
  · intro h
    rw [← tm_w_0]
    exact tm_w_ext h
theorem meet_s {B C : Nat → Nat → Bool} {z d k : Nat} {x : Int64} (hk : k < 3) (h : x = 0 ↔ ∀ b, b < 64 * k → ¬ (B z b = true ∧ C d b = true)) : (x ||| (bw 3 B (3 * z + k) &&& bw 3 C (3 * d + k))) = 0 ↔ ∀ b, b < 64 * (k + 1) → ¬ (B z b = true ∧ C d b = true) := by
  have e : ∀ i, i < 64 → (x ||| (bw 3 B (3 * z + k) &&& bw 3 C (3 * d + k))).toBitVec.getLsbD i = (x.toBitVec.getLsbD i || (B z (k * 64 + i) && C d (k * 64 + i))) := fun i hi => by
    rw [Int64.toBitVec_or, BitVec.getLsbD_or, Int64.toBitVec_and, BitVec.getLsbD_and, Nat.mul_comm 3 z, Nat.mul_comm 3 d, bw_q _ hk, bw_q _ hk, tm_w_get _ hi, tm_w_get _ hi]
  rw [w0_iff]
  constructor
  · intro q b hb hz
    by_cases c : b < 64 * k
    · refine (h.mp (w0_iff.mpr (fun i hi => ?_))) b c hz
      have := q i hi
      rw [e i hi, Bool.or_eq_false_iff] at this
      exact this.1
    · have := q (b - k * 64) (by omega)
      rw [e _ (by omega), show k * 64 + (b - k * 64) = b by omega, hz.1, hz.2, Bool.or_eq_false_iff] at this
      exact absurd this.2 (by decide)
  · intro q i hi
    rw [e i hi, w0_iff.mp (h.mpr (fun b hb => q b (by omega))) i hi, Bool.false_or]
    refine ts_nt (fun z => q (k * 64 + i) (by omega) ?_)
    rw [Bool.and_eq_true] at z
    exact z
set_option maxHeartbeats 4000000 in
set_option maxRecDepth 100000 in
/-- m_meets -/
theorem m_meets (l : Launch) (D : va_G) (a : Nat → Nat) (kI kL kZ : ClassId) (u : sU) (i x d : Nat) (hi : i < 6) (hx0 : x < 160) (hd : d < 160) : Met l yM_meets (wM_meets :: wA) ({ frames := 1, cells := 0, slots := 0, locals := 21 }) (va_Pc [.ref (a 0), .int (nI i), .int (nI x), .int (nI d)] (tq_rB D vwA (mW a kI kL kZ u) (sT kI kL kZ))) (va_Qi (fun r (_ : Unit) => r = bI (m_mt u (160 * i + x) d)) (fun _ _ => True) (fun _ => False)) 0 0 (fun _ => False) := by
  refine Met.ofW (cc := bM_meets) (maxL := 7) (ret := (some .boolean)) (by decide +kernel) rfl ?_
  intro p e s m args below meth c s₁ B1 hml hv
  obtain ⟨rfl, hP, hK⟩ := hv
  have hx := B1.exec
  have hb := B1.bytes
  have hr := B1.returns
  have hA : ∀ w ∈ wA, w.before ([.ref (a 0), .int (nI i), .int (nI x), .int (nI d)] : List Value).toArray s = true := fun w h => atoms_spec (ws := wM_meets :: wA) B1.pre w (List.mem_cons_of_mem _ h)
  have hown : s.vm.findClass RcM = some m.cls := findClass_of_methodNamed B1.named
  have hlocks := B1.notSynchronized
  have hS : va_S (fun _ => False) s.heap s.heap [] := va_S.rf
  have hl := lv_entry ([.ref (a 0), .int (nI i), .int (nI x), .int (nI d)]) (n := 7) (Nat.le_of_ble_eq_true rfl)
  rw [lg_entry_eq]
  generalize (lg_sl ([.ref (a 0), .int (nI i), .int (nI x), .int (nI d)]) ++ List.replicate (7 - (lg_sl ([.ref (a 0), .int (nI i), .int (nI x), .int (nI d)])).length) Slot.unset).toArray = ls at hl ⊢
  have hl : lv_has ls 7 [(0, .ref (a 0)), (1, .int (nI i)), (2, .int (nI x)), (3, .int (nI d))] := hl
  refine tq_gen (fun R Q hRe hQe => ?_)
  have hRf : 1 ≤ R.frames := by rw [hRe]; exact Nat.le_of_ble_eq_true rfl
  have hRl : 21 ≤ R.locals := by rw [hRe]; exact Nat.le_of_ble_eq_true rfl
  have hRc : 0 ≤ R.cells := by rw [hRe]; exact Nat.le_of_ble_eq_true rfl
  have hRs : 0 ≤ R.slots := by rw [hRe]; exact Nat.le_of_ble_eq_true rfl
  refine lv_lconst (v := 0) hx hb dM_meets_0 (by decide +kernel) ?_
  refine lv_lstore (lv' := [(4, .long 0), (0, .ref (a 0)), (1, .int (nI i)), (2, .int (nI x)), (3, .int (nI d))]) hx hb dM_meets_1 hl (by decide) rfl (fun ls hl => ?_)
  refine lv_iconst (v := nI 0) hx hb dM_meets_3 (by decide +kernel) ?_
  refine lv_istore (lv' := [(6, .int (nI 0)), (4, .long 0), (0, .ref (a 0)), (1, .int (nI i)), (2, .int (nI x)), (3, .int (nI d))]) hx hb dM_meets_4 hl (by decide) rfl (fun ls hl => ?_)
  have lp : ∀ (fu : Nat) (x9 : Int64) (n : Nat) (ls : Array Slot) (H : Heap) (locs : List Loc), (x9 = 0 ↔ ∀ b, b < 64 * n → ¬ (u.1 2 (160 * i + x) b = true ∧ u.1 1 d b = true)) → n ≤ 3 → va_P D vwA (mW a kI kL kZ u) H → va_S (fun _ => False) s.heap H locs → 3 - n < fu → lv_has ls 7 [(6, .int (nI n)), (4, .long x9), (0, .ref (a 0)), (1, .int (nI i)), (2, .int (nI x)), (3, .int (nI d))] → W p l e R s m ([.ref (a 0), .int (nI i), .int (nI x), .int (nI d)] : List Value).toArray below meth c H locs 0 0 Q (F0 m 6 ls []) := by
    intro fu
    induction fu with
    | zero => intros; omega
    | succ fu ih6 =>
      intro x9 n ls H locs g1 g2 hP hS hfu hl
      refine lv_iload hx hb dM_meets_6 (lv_at hl 0 rfl) ?_
      refine lv_iconst (v := nI 3) hx hb dM_meets_8 (by decide +kernel) ?_
      refine tq_ge hx hb dM_meets_9 (tgt := 50) (by decide) (by omega) (by omega) (fun h9 => ?_) (fun h9 => ?_)
      · refine lv_lload hx hb dM_meets_50 (lv_at hl 1 rfl) ?_
        refine lv_lconst (v := 0) hx hb dM_meets_52 (by decide +kernel) ?_
        refine tq_leq hx hb dM_meets_53 dM_meets_54 (tgt := 61) (by decide) (fun h53 => ?_) (fun h53 => ?_)
        · have hB : m_mt u (160 * i + x) d = false := dB_f.mpr (fun ⟨b, c1, c2⟩ => g1.mp h53 b (by omega) c2)
          refine lv_iconst (v := nI 0) hx hb dM_meets_61 (by decide +kernel) ?_
          subst hQe
          exact W.zret (v := nI 0) (ty := .boolean) hx hb hr rfl (fun t ht hW => ⟨⟨_, (), rfl, by rw [hB]; rfl, trivial⟩, hS.F ht⟩) hS.2.2 dM_meets_62
        · have hB : m_mt u (160 * i + x) d = true := Classical.byContradiction (fun z => h53 (g1.mpr (fun b c1 c2 => z (dB_iff.mpr ⟨b, by omega, c2⟩))))
          refine lv_iconst (v := nI 1) hx hb dM_meets_57 (by decide +kernel) ?_
          refine lv_goto hx hb dM_meets_58 (tgt := 62) (by decide) ?_
          subst hQe
          exact W.zret (v := nI 1) (ty := .boolean) hx hb hr rfl (fun t ht hW => ⟨⟨_, (), rfl, by rw [hB]; rfl, trivial⟩, hS.F ht⟩) hS.2.2 dM_meets_62
      · refine lv_lload hx hb dM_meets_12 (lv_at hl 1 rfl) ?_
        refine lv_aload_n hx hb dM_meets_14 rfl (lv_at hl 2 rfl) ?_
        refine gf_M_49 (v := .ref (a 12)) hx hb hA hown hK hP 0 rfl rfl dM_meets_15 ?_
        refine lv_iconst (v := nI 3) hx hb dM_meets_18 (by decide +kernel) ?_
        refine lv_iload_n hx hb dM_meets_19 rfl (lv_at hl 3 rfl) ?_
        refine lv_iload_n hx hb dM_meets_20 rfl (lv_at hl 4 rfl) ?_
        refine ks_s ⟨hx, hb, hml, hown, hA⟩ (m_row l i x) (kw_M_95 hA rfl rfl ⟨Nat.le_trans (Nat.le_of_ble_eq_true rfl) hRf, Nat.le_trans (Nat.le_of_ble_eq_true rfl) hRl⟩) hP hS rfl hl.1 (Nat.le_of_ble_eq_true rfl) ⟨by omega, by omega⟩ dM_meets_21 rfl (fun H locs hP hS => ?_)
        refine tq_imul hx hb dM_meets_24 ?_
        refine lv_iload hx hb dM_meets_25 (lv_at hl 0 rfl) ?_
        refine tq_iadd hx hb dM_meets_27 ?_
        refine tq_lald hx hb hK hP 12 1 rfl rfl (by omega) (by omega) dM_meets_28 ?_
        refine lv_aload_n hx hb dM_meets_29 rfl (lv_at hl 2 rfl) ?_
        refine gf_M_46 (v := .ref (a 11)) hx hb hA hown hK hP 0 rfl rfl dM_meets_30 ?_
        refine lv_iconst (v := nI 3) hx hb dM_meets_33 (by decide +kernel) ?_
        refine lv_iload_n hx hb dM_meets_34 rfl (lv_at hl 5 rfl) ?_
        refine tq_imul hx hb dM_meets_35 ?_
        refine lv_iload hx hb dM_meets_36 (lv_at hl 0 rfl) ?_
        refine tq_iadd hx hb dM_meets_38 ?_
        refine tq_lald hx hb hK hP 11 1 rfl rfl (by omega) (by omega) dM_meets_39 ?_
        refine lv_land hx hb dM_meets_40 ?_
        refine lv_lor hx hb dM_meets_41 ?_
        refine lv_lstore (lv' := [(4, .long (x9 ||| (((bw 3 (u.1 2)) ((3 * (160 * i + x)) + n)) &&& ((bw 3 (u.1 1)) ((3 * d) + n))))), (6, .int (nI n)), (0, .ref (a 0)), (1, .int (nI i)), (2, .int (nI x)), (3, .int (nI d))]) hx hb dM_meets_42 hl (by decide) rfl (fun ls hl => ?_)
        refine lv_iinc (k := 1) (lv' := [(6, .int (nI (n + 1))), (4, .long (x9 ||| (((bw 3 (u.1 2)) ((3 * (160 * i + x)) + n)) &&& ((bw 3 (u.1 1)) ((3 * d) + n))))), (0, .ref (a 0)), (1, .int (nI i)), (2, .int (nI x)), (3, .int (nI d))]) hx hb dM_meets_44 hl rfl (nI_1 _) (by decide) rfl (fun ls hl => ?_)
        refine lv_goto hx hb dM_meets_47 (tgt := 6) (by decide) ?_
        exact ih6 _ (n + 1) ls H locs (meet_s (by omega) g1) (by omega) hP hS (by omega) (lv_sub hl [0, 1, 2, 3, 4, 5] rfl)
  exact lp _ 0 0 ls _ _ (by simp) (by omega) hP hS (Nat.lt_succ_self _) (lv_sub hl [0, 1, 2, 3, 4, 5] rfl)
