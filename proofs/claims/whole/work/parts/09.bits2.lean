/-! The contracts of Bits, of Long.bitCount and Arrays.fill. Written by wip/whole/gen/genbits.py. -/
abbrev bW (h w n Wd wp : Nat) (cL : ClassId) (B : Nat → Nat → Bool) : va_W := [(h, .inr (0, [.int (nI Wd), .int (nI wp), .ref w])), (w, .inl (cL, n, .inr (.inl (bw wp B))))]
def bc_f (x : Int64) : Int32 :=
  let i1 := x - ((x.toUInt64 >>> ((nI 1).toInt64.toUInt64 &&& Int64.toUInt64 63)).toInt64 &&& 6148914691236517205)
  let i2 := (i1 &&& 3689348814741910323) + ((i1.toUInt64 >>> ((nI 2).toInt64.toUInt64 &&& Int64.toUInt64 63)).toInt64 &&& 3689348814741910323)
  let i3 := (i2 + (i2.toUInt64 >>> ((nI 4).toInt64.toUInt64 &&& Int64.toUInt64 63)).toInt64) &&& 1085102592571150095
  let i4 := i3 + (i3.toUInt64 >>> ((nI 8).toInt64.toUInt64 &&& Int64.toUInt64 63)).toInt64
  let i5 := i4 + (i4.toUInt64 >>> ((nI 16).toInt64.toUInt64 &&& Int64.toUInt64 63)).toInt64
  let i6 := i5 + (i5.toUInt64 >>> ((nI 32).toInt64.toUInt64 &&& Int64.toUInt64 63)).toInt64
  i6.toInt32 &&& nI 127
theorem bc_ok : ∀ j, j < 64 → bc_f (lN (2 ^ j - 1)) = nI j := by decide +kernel
set_option maxHeartbeats 4000000 in
set_option maxRecDepth 100000 in
/-- Long.bitCount of a word whose low bits are 1 -/
theorem c_bitCount (l : Launch) (j : Nat) (hj : j < 64) : Met l yJl_bitCount (wJl_bitCount :: wA) ({ frames := 0, cells := 0, slots := 0, locals := 0 }) (va_Pc [.long (lN (2 ^ j - 1))] (fun _ => True)) (va_Qi (fun r (_ : Unit) => r = nI j) (fun _ _ => True) (fun _ => False)) 0 0 (fun _ => False) := by
  refine va_MetF (cc := bJl_bitCount) (maxL := 2) (ret := (some .int)) (by decide +kernel) rfl ?_
  intro p e s m args below meth c s₁ B1 hml hv
  obtain ⟨rfl, -⟩ := hv
  have hx := B1.exec
  have hb := B1.bytes
  have hr := B1.returns
  have hA : ∀ w ∈ wA, w.before ([.long (lN (2 ^ j - 1))] : List Value).toArray s = true := fun w h => atoms_spec (ws := wJl_bitCount :: wA) B1.pre w (List.mem_cons_of_mem _ h)
  have hown : s.vm.findClass RcJl = some m.cls := findClass_of_methodNamed B1.named
  have hlocks := B1.notSynchronized
  have hS : va_S (fun _ => False) s.heap s.heap [] := va_S.rf
  have hl := lv_entry ([.long (lN (2 ^ j - 1))]) (n := 2) (Nat.le_of_ble_eq_true rfl)
  rw [lg_entry_eq]
  generalize (lg_sl ([.long (lN (2 ^ j - 1))]) ++ List.replicate (2 - (lg_sl ([.long (lN (2 ^ j - 1))])).length) Slot.unset).toArray = ls at hl ⊢
  have hl : lv_has ls 2 [(0, .long (lN (2 ^ j - 1)))] := hl
  refine tq_gen (fun R Q hRe hQe => ?_)
  have hRf : 0 ≤ R.frames := by rw [hRe]; exact Nat.le_of_ble_eq_true rfl
  have hRl : 0 ≤ R.locals := by rw [hRe]; exact Nat.le_of_ble_eq_true rfl
  have hRc : 0 ≤ R.cells := by rw [hRe]; exact Nat.le_of_ble_eq_true rfl
  have hRs : 0 ≤ R.slots := by rw [hRe]; exact Nat.le_of_ble_eq_true rfl
  refine lv_lload_n hx hb dJl_bitCount_0 rfl (lv_at hl 0 rfl) ?_
  refine lv_lload_n hx hb dJl_bitCount_1 rfl (lv_at hl 0 rfl) ?_
  refine lv_iconst (v := nI 1) hx hb dJl_bitCount_2 (by decide +kernel) ?_
  refine lv_lushr hx hb dJl_bitCount_3 rfl ?_
  refine lv_ldc2 hx hb hown (hA _ mct_Jl_314) dJl_bitCount_4 ?_
  refine lv_land hx hb dJl_bitCount_7 ?_
  refine lv_lsub hx hb dJl_bitCount_8 ?_
  refine lv_topl (fun i1 ei1 => ?_)
  refine lv_lstore_n (lv' := [(0, .long i1)]) hx hb dJl_bitCount_9 rfl hl (by decide) rfl (fun ls hl => ?_)
  refine lv_lload_n hx hb dJl_bitCount_10 rfl (lv_at hl 0 rfl) ?_
  refine lv_ldc2 hx hb hown (hA _ mct_Jl_316) dJl_bitCount_11 ?_
  refine lv_land hx hb dJl_bitCount_14 ?_
  refine lv_lload_n hx hb dJl_bitCount_15 rfl (lv_at hl 0 rfl) ?_
  refine lv_iconst (v := nI 2) hx hb dJl_bitCount_16 (by decide +kernel) ?_
  refine lv_lushr hx hb dJl_bitCount_17 rfl ?_
  refine lv_ldc2 hx hb hown (hA _ mct_Jl_316) dJl_bitCount_18 ?_
  refine lv_land hx hb dJl_bitCount_21 ?_
  refine lv_ladd hx hb dJl_bitCount_22 ?_
  refine lv_topl (fun i2 ei2 => ?_)
  refine lv_lstore_n (lv' := [(0, .long i2)]) hx hb dJl_bitCount_23 rfl hl (by decide) rfl (fun ls hl => ?_)
  refine lv_lload_n hx hb dJl_bitCount_24 rfl (lv_at hl 0 rfl) ?_
  refine lv_lload_n hx hb dJl_bitCount_25 rfl (lv_at hl 0 rfl) ?_
  refine lv_iconst (v := nI 4) hx hb dJl_bitCount_26 (by decide +kernel) ?_
  refine lv_lushr hx hb dJl_bitCount_27 rfl ?_
  refine lv_ladd hx hb dJl_bitCount_28 ?_
  refine lv_ldc2 hx hb hown (hA _ mct_Jl_318) dJl_bitCount_29 ?_
  refine lv_land hx hb dJl_bitCount_32 ?_
  refine lv_topl (fun i3 ei3 => ?_)
  refine lv_lstore_n (lv' := [(0, .long i3)]) hx hb dJl_bitCount_33 rfl hl (by decide) rfl (fun ls hl => ?_)
  refine lv_lload_n hx hb dJl_bitCount_34 rfl (lv_at hl 0 rfl) ?_
  refine lv_lload_n hx hb dJl_bitCount_35 rfl (lv_at hl 0 rfl) ?_
  refine lv_bipush (v := nI 8) hx hb dJl_bitCount_36 (by decide +kernel) ?_
  refine lv_lushr hx hb dJl_bitCount_38 rfl ?_
  refine lv_ladd hx hb dJl_bitCount_39 ?_
  refine lv_topl (fun i4 ei4 => ?_)
  refine lv_lstore_n (lv' := [(0, .long i4)]) hx hb dJl_bitCount_40 rfl hl (by decide) rfl (fun ls hl => ?_)
  refine lv_lload_n hx hb dJl_bitCount_41 rfl (lv_at hl 0 rfl) ?_
  refine lv_lload_n hx hb dJl_bitCount_42 rfl (lv_at hl 0 rfl) ?_
  refine lv_bipush (v := nI 16) hx hb dJl_bitCount_43 (by decide +kernel) ?_
  refine lv_lushr hx hb dJl_bitCount_45 rfl ?_
  refine lv_ladd hx hb dJl_bitCount_46 ?_
  refine lv_topl (fun i5 ei5 => ?_)
  refine lv_lstore_n (lv' := [(0, .long i5)]) hx hb dJl_bitCount_47 rfl hl (by decide) rfl (fun ls hl => ?_)
  refine lv_lload_n hx hb dJl_bitCount_48 rfl (lv_at hl 0 rfl) ?_
  refine lv_lload_n hx hb dJl_bitCount_49 rfl (lv_at hl 0 rfl) ?_
  refine lv_bipush (v := nI 32) hx hb dJl_bitCount_50 (by decide +kernel) ?_
  refine lv_lushr hx hb dJl_bitCount_52 rfl ?_
  refine lv_ladd hx hb dJl_bitCount_53 ?_
  refine lv_topl (fun i6 ei6 => ?_)
  refine lv_lstore_n (lv' := [(0, .long i6)]) hx hb dJl_bitCount_54 rfl hl (by decide) rfl (fun ls hl => ?_)
  refine lv_lload_n hx hb dJl_bitCount_55 rfl (lv_at hl 0 rfl) ?_
  refine lv_l2i hx hb dJl_bitCount_56 rfl ?_
  refine lv_bipush (v := nI 127) hx hb dJl_bitCount_57 (by decide +kernel) ?_
  refine lv_iand hx hb dJl_bitCount_59 ?_
  subst hQe
  exact W.iret (v := i6.toInt32 &&& (nI 127)) hx hb hr (fun t ht hW => ⟨⟨_, (), rfl, by rw [ei6, ei5, ei4, ei3, ei2, ei1]; exact bc_ok j hj, trivial⟩, hS.F ht⟩) hS.2.2 dJl_bitCount_60
set_option maxHeartbeats 4000000 in
set_option maxRecDepth 100000 in
/-- Bits.holds -/
theorem c_holds (l : Launch) (D : va_G) (h w n Wd wp : Nat) (cL : ClassId) (B : Nat → Nat → Bool) (row bit : Nat) (h1 : bit < wp * 64) (h2 : row * wp + bit / 64 < n) (hn : n < 2 ^ 31) (hw : wp < 100) : Met l yB_holds (wB_holds :: wA) ({ frames := 0, cells := 0, slots := 0, locals := 0 }) (va_Pc [.ref h, .int (nI row), .int (nI bit)] (tq_rB D vwA [(h, .inr (0, [.int (nI Wd), .int (nI wp), .ref w])), (w, .inl (cL, n, .inr (.inl (bw wp B))))] [(cL, .long)])) (va_Qi (fun r (_ : Unit) => r = bI (B row bit)) (fun _ _ => True) (fun _ => False)) 0 0 (fun _ => False) := by
  refine Met.ofW (cc := bB_holds) (maxL := 3) (ret := (some .boolean)) (by decide +kernel) rfl ?_
  intro p e s m args below meth c s₁ B1 hml hv
  obtain ⟨rfl, hP, hK⟩ := hv
  have hx := B1.exec
  have hb := B1.bytes
  have hr := B1.returns
  have hA : ∀ w ∈ wA, w.before ([.ref h, .int (nI row), .int (nI bit)] : List Value).toArray s = true := fun w h => atoms_spec (ws := wB_holds :: wA) B1.pre w (List.mem_cons_of_mem _ h)
  have hown : s.vm.findClass RcB = some m.cls := findClass_of_methodNamed B1.named
  have hlocks := B1.notSynchronized
  have hS : va_S (fun _ => False) s.heap s.heap [] := va_S.rf
  have hl := lv_entry ([.ref h, .int (nI row), .int (nI bit)]) (n := 3) (Nat.le_of_ble_eq_true rfl)
  rw [lg_entry_eq]
  generalize (lg_sl ([.ref h, .int (nI row), .int (nI bit)]) ++ List.replicate (3 - (lg_sl ([.ref h, .int (nI row), .int (nI bit)])).length) Slot.unset).toArray = ls at hl ⊢
  have hl : lv_has ls 3 [(0, .ref h), (1, .int (nI row)), (2, .int (nI bit))] := hl
  refine tq_gen (fun R Q hRe hQe => ?_)
  have hRf : 0 ≤ R.frames := by rw [hRe]; exact Nat.le_of_ble_eq_true rfl
  have hRl : 0 ≤ R.locals := by rw [hRe]; exact Nat.le_of_ble_eq_true rfl
  have hRc : 0 ≤ R.cells := by rw [hRe]; exact Nat.le_of_ble_eq_true rfl
  have hRs : 0 ≤ R.slots := by rw [hRe]; exact Nat.le_of_ble_eq_true rfl
  refine lv_aload_n hx hb dB_holds_0 rfl (lv_at hl 0 rfl) ?_
  refine gf_B_16 (v := .ref w) hx hb hA hown hK hP 0 rfl rfl dB_holds_1 ?_
  refine lv_iload_n hx hb dB_holds_4 rfl (lv_at hl 1 rfl) ?_
  refine lv_aload_n hx hb dB_holds_5 rfl (lv_at hl 0 rfl) ?_
  refine gf_B_13 (v := .int (nI wp)) hx hb hA hown hK hP 0 rfl rfl dB_holds_6 ?_
  refine tq_imul hx hb dB_holds_9 ?_
  refine lv_iload_n hx hb dB_holds_10 rfl (lv_at hl 2 rfl) ?_
  refine lv_bipush (v := nI 6) hx hb dB_holds_11 (by decide +kernel) ?_
  refine tq_ishr6 hx hb dB_holds_13 (by omega) ?_
  refine tq_iadd hx hb dB_holds_14 ?_
  refine tq_lald hx hb hK hP 1 0 rfl rfl (by omega) (by omega) dB_holds_15 ?_
  refine lv_iload_n hx hb dB_holds_16 rfl (lv_at hl 2 rfl) ?_
  refine lv_bipush (v := nI 63) hx hb dB_holds_17 (by decide +kernel) ?_
  refine tq_iand63 hx hb dB_holds_19 (by omega) ?_
  refine lv_lushr hx hb dB_holds_20 rfl ?_
  refine lv_lconst (v := 1) hx hb dB_holds_21 (by decide +kernel) ?_
  refine lv_land hx hb dB_holds_22 ?_
  refine lv_lconst (v := 0) hx hb dB_holds_23 (by decide +kernel) ?_
  refine tq_leq hx hb dB_holds_24 dB_holds_25 (tgt := 32) (by decide) (fun h24 => ?_) (fun h24 => ?_)
  · rw [tm_uget _ (Nat.mod_lt _ (by decide)), bw_bit B h1] at h24
    have hB : B row bit = false := by cases hq : B row bit <;> simp [hq] at h24 ⊢
    refine lv_iconst (v := nI 0) hx hb dB_holds_32 (by decide +kernel) ?_
    subst hQe
    exact W.zret (v := nI 0) (ty := .boolean) hx hb hr rfl (fun t ht hW => ⟨⟨_, (), rfl, by rw [hB]; rfl, trivial⟩, hS.F ht⟩) hS.2.2 dB_holds_33
  · rw [tm_uget _ (Nat.mod_lt _ (by decide)), bw_bit B h1] at h24
    have hB : B row bit = true := by cases hq : B row bit <;> simp [hq] at h24 ⊢
    refine lv_iconst (v := nI 1) hx hb dB_holds_28 (by decide +kernel) ?_
    refine lv_goto hx hb dB_holds_29 (tgt := 33) (by decide) ?_
    subst hQe
    exact W.zret (v := nI 1) (ty := .boolean) hx hb hr rfl (fun t ht hW => ⟨⟨_, (), rfl, by rw [hB]; rfl, trivial⟩, hS.F ht⟩) hS.2.2 dB_holds_33
theorem bw_bit2 {wp : Nat} (B : Nat → Nat → Bool) {r b : Nat} (h : b < wp * 64) : bw wp (tm_put B r b) (r * wp + b / 64) = bw wp B (r * wp + b / 64) ↔ B r b = true := by
  constructor
  · intro e
    have := bw_bit (tm_put B r b) (r := r) h
    rw [e, bw_bit B h] at this
    rw [this]
    exact tm_put_iff.mpr (Or.inr ⟨rfl, rfl⟩)
  · intro e
    have : tm_put B r b = B := by
      funext r' b'
      by_cases q : r' = r ∧ b' = b
      · rw [q.1, q.2, e]
        exact tm_put_iff.mpr (Or.inr ⟨rfl, rfl⟩)
      · cases hx : B r' b' with
        | true => exact tm_put_iff.mpr (Or.inl hx)
        | false => exact ts_nt (fun z => (tm_put_iff.mp z).elim (fun z => by rw [hx] at z; cases z) q)
    rw [this]
set_option maxHeartbeats 4000000 in
set_option maxRecDepth 100000 in
/-- Bits.put -/
theorem c_put (l : Launch) (D : va_G) (h w n Wd wp : Nat) (cL : ClassId) (B : Nat → Nat → Bool) (row bit : Nat) (h1 : bit < wp * 64) (h2 : row * wp + bit / 64 < n) (hn : n < 2 ^ 31) (hw : wp < 100) : Met l yB_put (wB_put :: wA) ({ frames := 0, cells := 0, slots := 0, locals := 0 }) (va_Pc [.ref h, .int (nI row), .int (nI bit)] (tq_wB D vwA [(h, .inr (0, [.int (nI Wd), .int (nI wp), .ref w])), (w, .inl (cL, n, .inr (.inl (bw wp B))))] [(cL, .long)])) (va_Qi (fun r (_ : Unit) => r = bI (!B row bit)) (fun _ t => va_P D vwA (bW h w n Wd wp cL (tm_put B row bit)) t.heap) (fun q => q = h ∨ q = w)) 0 0 (fun q => q = h ∨ q = w) := by
  refine Met.ofW (cc := bB_put) (maxL := 6) (ret := (some .boolean)) (by decide +kernel) rfl ?_
  intro p e s m args below meth c s₁ B1 hml hv
  obtain ⟨rfl, hP, hK, hD0⟩ := hv
  have hx := B1.exec
  have hb := B1.bytes
  have hr := B1.returns
  have hA : ∀ w ∈ wA, w.before ([.ref h, .int (nI row), .int (nI bit)] : List Value).toArray s = true := fun w h => atoms_spec (ws := wB_put :: wA) B1.pre w (List.mem_cons_of_mem _ h)
  have hown : s.vm.findClass RcB = some m.cls := findClass_of_methodNamed B1.named
  have hlocks := B1.notSynchronized
  have hS : va_S (fun q => q = h ∨ q = w) s.heap s.heap [] := va_S.rf
  have hl := lv_entry ([.ref h, .int (nI row), .int (nI bit)]) (n := 6) (Nat.le_of_ble_eq_true rfl)
  rw [lg_entry_eq]
  generalize (lg_sl ([.ref h, .int (nI row), .int (nI bit)]) ++ List.replicate (6 - (lg_sl ([.ref h, .int (nI row), .int (nI bit)])).length) Slot.unset).toArray = ls at hl ⊢
  have hl : lv_has ls 6 [(0, .ref h), (1, .int (nI row)), (2, .int (nI bit))] := hl
  refine tq_gen (fun R Q hRe hQe => ?_)
  have hRf : 0 ≤ R.frames := by rw [hRe]; exact Nat.le_of_ble_eq_true rfl
  have hRl : 0 ≤ R.locals := by rw [hRe]; exact Nat.le_of_ble_eq_true rfl
  have hRc : 0 ≤ R.cells := by rw [hRe]; exact Nat.le_of_ble_eq_true rfl
  have hRs : 0 ≤ R.slots := by rw [hRe]; exact Nat.le_of_ble_eq_true rfl
  have hD := tq_D2 hD0
  refine lv_iload_n hx hb dB_put_0 rfl (lv_at hl 1 rfl) ?_
  refine lv_aload_n hx hb dB_put_1 rfl (lv_at hl 0 rfl) ?_
  refine gf_B_13 (v := .int (nI wp)) hx hb hA hown hK hP 0 rfl rfl dB_put_2 ?_
  refine tq_imul hx hb dB_put_5 ?_
  refine lv_iload_n hx hb dB_put_6 rfl (lv_at hl 2 rfl) ?_
  refine lv_bipush (v := nI 6) hx hb dB_put_7 (by decide +kernel) ?_
  refine tq_ishr6 hx hb dB_put_9 (by omega) ?_
  refine tq_iadd hx hb dB_put_10 ?_
  refine lv_istore_n (lv' := [(3, .int (nI ((row * wp) + (bit / 64)))), (0, .ref h), (1, .int (nI row)), (2, .int (nI bit))]) hx hb dB_put_11 rfl hl (by decide) rfl (fun ls hl => ?_)
  refine lv_aload_n hx hb dB_put_12 rfl (lv_at hl 1 rfl) ?_
  refine gf_B_16 (v := .ref w) hx hb hA hown hK hP 0 rfl rfl dB_put_13 ?_
  refine lv_iload_n hx hb dB_put_16 rfl (lv_at hl 0 rfl) ?_
  refine tq_lald hx hb hK hP 1 0 rfl rfl (by omega) (by omega) dB_put_17 ?_
  refine lv_lstore (lv' := [(4, .long ((bw wp B) ((row * wp) + (bit / 64)))), (3, .int (nI ((row * wp) + (bit / 64)))), (0, .ref h), (1, .int (nI row)), (2, .int (nI bit))]) hx hb dB_put_18 hl (by decide) rfl (fun ls hl => ?_)
  refine lv_aload_n hx hb dB_put_20 rfl (lv_at hl 2 rfl) ?_
  refine gf_B_16 (v := .ref w) hx hb hA hown hK hP 0 rfl rfl dB_put_21 ?_
  refine lv_iload_n hx hb dB_put_24 rfl (lv_at hl 1 rfl) ?_
  refine lv_lload hx hb dB_put_25 (lv_at hl 0 rfl) ?_
  refine lv_lconst (v := 1) hx hb dB_put_27 (by decide +kernel) ?_
  refine lv_iload_n hx hb dB_put_28 rfl (lv_at hl 4 rfl) ?_
  refine lv_bipush (v := nI 63) hx hb dB_put_29 (by decide +kernel) ?_
  refine tq_iand63 hx hb dB_put_31 (by omega) ?_
  refine lv_lshl hx hb dB_put_32 rfl ?_
  refine lv_lor hx hb dB_put_33 ?_
  refine tq_last hx hb hK hP hD hS 1 0 rfl rfl (by omega) (by omega) dB_put_34 (fun H locs hP hD hS => ?_)
  have hP : va_P D vwA [(h, .inr (0, [.int (nI Wd), .int (nI wp), .ref w])), (w, .inl (cL, n, .inr (.inl (vp_updL (bw wp B) ((row * wp) + (bit / 64)) (((bw wp B) ((row * wp) + (bit / 64))) ||| ((1 : Int64) <<< ((nI (bit % 64)).toInt64 &&& 63)))))))] H := hP
  have hD : va_D (fun q => q = h ∨ q = w) [(h, .inr (0, [.int (nI Wd), .int (nI wp), .ref w])), (w, .inl (cL, n, .inr (.inl (vp_updL (bw wp B) ((row * wp) + (bit / 64)) (((bw wp B) ((row * wp) + (bit / 64))) ||| ((1 : Int64) <<< ((nI (bit % 64)).toInt64 &&& 63)))))))] := hD
  rw [bw_put h1 (tm_shl1 (bit % 64) (Nat.mod_lt _ (by decide)))] at hP hD
  refine lv_aload_n hx hb dB_put_35 rfl (lv_at hl 2 rfl) ?_
  refine gf_B_16 (v := .ref w) hx hb hA hown hK hP 0 rfl rfl dB_put_36 ?_
  refine lv_iload_n hx hb dB_put_39 rfl (lv_at hl 1 rfl) ?_
  refine tq_lald hx hb hK hP 1 0 rfl rfl (by omega) (by omega) dB_put_40 ?_
  refine lv_lload hx hb dB_put_41 (lv_at hl 0 rfl) ?_
  refine tq_leq hx hb dB_put_43 dB_put_44 (tgt := 51) (by decide) (fun h43 => ?_) (fun h43 => ?_)
  · rw [bw_bit2 B h1] at h43
    have hB : B row bit = true := h43
    refine lv_iconst (v := nI 0) hx hb dB_put_51 (by decide +kernel) ?_
    subst hQe
    exact W.zret (v := nI 0) (ty := .boolean) hx hb hr rfl (fun t ht hW => ⟨⟨_, (), rfl, by rw [hB]; rfl, tq_hp ht hP⟩, hS.F ht⟩) hS.2.2 dB_put_52
  · rw [bw_bit2 B h1] at h43
    have hB : B row bit = false := ts_nt h43
    refine lv_iconst (v := nI 1) hx hb dB_put_47 (by decide +kernel) ?_
    refine lv_goto hx hb dB_put_48 (tgt := 52) (by decide) ?_
    subst hQe
    exact W.zret (v := nI 1) (ty := .boolean) hx hb hr rfl (fun t ht hW => ⟨⟨_, (), rfl, by rw [hB]; rfl, tq_hp ht hP⟩, hS.F ht⟩) hS.2.2 dB_put_52
set_option maxHeartbeats 4000000 in
set_option maxRecDepth 100000 in
/-- Bits.drop -/
theorem c_drop (l : Launch) (D : va_G) (h w n Wd wp : Nat) (cL : ClassId) (B : Nat → Nat → Bool) (row bit : Nat) (h1 : bit < wp * 64) (h2 : row * wp + bit / 64 < n) (hn : n < 2 ^ 31) (hw : wp < 100) : Met l yB_drop (wB_drop :: wA) ({ frames := 0, cells := 0, slots := 0, locals := 0 }) (va_Pc [.ref h, .int (nI row), .int (nI bit)] (tq_wB D vwA [(h, .inr (0, [.int (nI Wd), .int (nI wp), .ref w])), (w, .inl (cL, n, .inr (.inl (bw wp B))))] [(cL, .long)])) (va_Qv (fun (_ : Unit) => True) (fun _ t => va_P D vwA (bW h w n Wd wp cL (tm_drop B row bit)) t.heap) (fun q => q = h ∨ q = w)) 0 0 (fun q => q = h ∨ q = w) := by
  refine Met.ofW (cc := bB_drop) (maxL := 3) (ret := none) (by decide +kernel) rfl ?_
  intro p e s m args below meth c s₁ B1 hml hv
  obtain ⟨rfl, hP, hK, hD0⟩ := hv
  have hx := B1.exec
  have hb := B1.bytes
  have hr := B1.returns
  have hA : ∀ w ∈ wA, w.before ([.ref h, .int (nI row), .int (nI bit)] : List Value).toArray s = true := fun w h => atoms_spec (ws := wB_drop :: wA) B1.pre w (List.mem_cons_of_mem _ h)
  have hown : s.vm.findClass RcB = some m.cls := findClass_of_methodNamed B1.named
  have hlocks := B1.notSynchronized
  have hS : va_S (fun q => q = h ∨ q = w) s.heap s.heap [] := va_S.rf
  have hl := lv_entry ([.ref h, .int (nI row), .int (nI bit)]) (n := 3) (Nat.le_of_ble_eq_true rfl)
  rw [lg_entry_eq]
  generalize (lg_sl ([.ref h, .int (nI row), .int (nI bit)]) ++ List.replicate (3 - (lg_sl ([.ref h, .int (nI row), .int (nI bit)])).length) Slot.unset).toArray = ls at hl ⊢
  have hl : lv_has ls 3 [(0, .ref h), (1, .int (nI row)), (2, .int (nI bit))] := hl
  refine tq_gen (fun R Q hRe hQe => ?_)
  have hRf : 0 ≤ R.frames := by rw [hRe]; exact Nat.le_of_ble_eq_true rfl
  have hRl : 0 ≤ R.locals := by rw [hRe]; exact Nat.le_of_ble_eq_true rfl
  have hRc : 0 ≤ R.cells := by rw [hRe]; exact Nat.le_of_ble_eq_true rfl
  have hRs : 0 ≤ R.slots := by rw [hRe]; exact Nat.le_of_ble_eq_true rfl
  have hD := tq_D2 hD0
  refine lv_aload_n hx hb dB_drop_0 rfl (lv_at hl 0 rfl) ?_
  refine gf_B_16 (v := .ref w) hx hb hA hown hK hP 0 rfl rfl dB_drop_1 ?_
  refine lv_iload_n hx hb dB_drop_4 rfl (lv_at hl 1 rfl) ?_
  refine lv_aload_n hx hb dB_drop_5 rfl (lv_at hl 0 rfl) ?_
  refine gf_B_13 (v := .int (nI wp)) hx hb hA hown hK hP 0 rfl rfl dB_drop_6 ?_
  refine tq_imul hx hb dB_drop_9 ?_
  refine lv_iload_n hx hb dB_drop_10 rfl (lv_at hl 2 rfl) ?_
  refine lv_bipush (v := nI 6) hx hb dB_drop_11 (by decide +kernel) ?_
  refine tq_ishr6 hx hb dB_drop_13 (by omega) ?_
  refine tq_iadd hx hb dB_drop_14 ?_
  refine lv_dup2_11 hx hb dB_drop_15 rfl rfl ?_
  refine tq_lald hx hb hK hP 1 0 rfl rfl (by omega) (by omega) dB_drop_16 ?_
  refine lv_lconst (v := 1) hx hb dB_drop_17 (by decide +kernel) ?_
  refine lv_iload_n hx hb dB_drop_18 rfl (lv_at hl 2 rfl) ?_
  refine lv_bipush (v := nI 63) hx hb dB_drop_19 (by decide +kernel) ?_
  refine tq_iand63 hx hb dB_drop_21 (by omega) ?_
  refine lv_lshl hx hb dB_drop_22 rfl ?_
  refine lv_ldc2 hx hb hown (hA _ mct_B_20) dB_drop_23 ?_
  refine lv_lxor hx hb dB_drop_26 ?_
  refine lv_land hx hb dB_drop_27 ?_
  refine tq_last hx hb hK hP hD hS 1 0 rfl rfl (by omega) (by omega) dB_drop_28 (fun H locs hP hD hS => ?_)
  have hP : va_P D vwA [(h, .inr (0, [.int (nI Wd), .int (nI wp), .ref w])), (w, .inl (cL, n, .inr (.inl (vp_updL (bw wp B) ((row * wp) + (bit / 64)) (((bw wp B) ((row * wp) + (bit / 64))) &&& (((1 : Int64) <<< ((nI (bit % 64)).toInt64 &&& 63)) ^^^ (-1)))))))] H := hP
  have hD : va_D (fun q => q = h ∨ q = w) [(h, .inr (0, [.int (nI Wd), .int (nI wp), .ref w])), (w, .inl (cL, n, .inr (.inl (vp_updL (bw wp B) ((row * wp) + (bit / 64)) (((bw wp B) ((row * wp) + (bit / 64))) &&& (((1 : Int64) <<< ((nI (bit % 64)).toInt64 &&& 63)) ^^^ (-1)))))))] := hD
  rw [bw_drop h1 (tm_shl1 (bit % 64) (Nat.mod_lt _ (by decide)))] at hP hD
  subst hQe
  exact W.vret hx hb hr (fun t ht hW => ⟨⟨(), rfl, trivial, tq_hp ht hP⟩, hS.F ht⟩) hS.2.2 dB_drop_29
set_option maxHeartbeats 4000000 in
set_option maxRecDepth 100000 in
/-- c_next -/
theorem c_next (l : Launch) (D : va_G) (h w n Wd wp : Nat) (cL : ClassId) (B : Nat → Nat → Bool) (row fr : Nat) (h1 : Wd ≤ wp * 64) (h2 : row * wp + wp ≤ n) (hn : n < 2 ^ 31) (hw : Wd < 1200) (hf : fr ≤ Wd) (hr0 : row < 100000) : Met l yB_next (wB_next :: wA) ({ frames := 1, cells := 0, slots := 0, locals := 21 }) (va_Pc [.ref h, .int (nI row), .int (nI fr)] (tq_rB D vwA [(h, .inr (0, [.int (nI Wd), .int (nI wp), .ref w])), (w, .inl (cL, n, .inr (.inl (bw wp B))))] [(cL, .long)])) (va_Qi (fun r (_ : Unit) => ∃ r0 : Nat, r = nI r0 ∧ tm_nx (B row) Wd fr r0) (fun _ _ => True) (fun _ => False)) 0 0 (fun _ => False) := by
  refine Met.ofW (cc := bB_next) (maxL := 6) (ret := (some .int)) (by decide +kernel) rfl ?_
  intro p e s m args below meth c s₁ B1 hml hv
  obtain ⟨rfl, hP, hK⟩ := hv
  have hx := B1.exec
  have hb := B1.bytes
  have hr := B1.returns
  have hA : ∀ w ∈ wA, w.before ([.ref h, .int (nI row), .int (nI fr)] : List Value).toArray s = true := fun w h => atoms_spec (ws := wB_next :: wA) B1.pre w (List.mem_cons_of_mem _ h)
  have hown : s.vm.findClass RcB = some m.cls := findClass_of_methodNamed B1.named
  have hlocks := B1.notSynchronized
  have hS : va_S (fun _ => False) s.heap s.heap [] := va_S.rf
  have hl := lv_entry ([.ref h, .int (nI row), .int (nI fr)]) (n := 6) (Nat.le_of_ble_eq_true rfl)
  rw [lg_entry_eq]
  generalize (lg_sl ([.ref h, .int (nI row), .int (nI fr)]) ++ List.replicate (6 - (lg_sl ([.ref h, .int (nI row), .int (nI fr)])).length) Slot.unset).toArray = ls at hl ⊢
  have hl : lv_has ls 6 [(0, .ref h), (1, .int (nI row)), (2, .int (nI fr))] := hl
  refine tq_gen (fun R Q hRe hQe => ?_)
  have hRf : 1 ≤ R.frames := by rw [hRe]; exact Nat.le_of_ble_eq_true rfl
  have hRl : 21 ≤ R.locals := by rw [hRe]; exact Nat.le_of_ble_eq_true rfl
  have hRc : 0 ≤ R.cells := by rw [hRe]; exact Nat.le_of_ble_eq_true rfl
  have hRs : 0 ≤ R.slots := by rw [hRe]; exact Nat.le_of_ble_eq_true rfl
  refine lv_iload_n hx hb dB_next_0 rfl (lv_at hl 2 rfl) ?_
  refine lv_istore_n (lv' := [(3, .int (nI fr)), (0, .ref h), (1, .int (nI row)), (2, .int (nI fr))]) hx hb dB_next_1 rfl hl (by decide) rfl (fun ls hl => ?_)
  have lp : ∀ (fu : Nat) (at1 : Nat) (ls : Array Slot) (H : Heap) (locs : List Loc), fr ≤ at1 → at1 < Wd + 64 → (∀ y, fr ≤ y → y < at1 → y < Wd → (B row) y = false) → va_P D vwA [(h, .inr (0, [.int (nI Wd), .int (nI wp), .ref w])), (w, .inl (cL, n, .inr (.inl (bw wp B))))] H → va_S (fun _ => False) s.heap H locs → Wd + 64 - at1 < fu → lv_has ls 6 [(3, .int (nI at1)), (0, .ref h), (1, .int (nI row)), (2, .int (nI fr))] → W p l e R s m ([.ref h, .int (nI row), .int (nI fr)] : List Value).toArray below meth c H locs 0 0 Q (F0 m 2 ls []) := by
    intro fu
    induction fu with
    | zero => intros; omega
    | succ fu ih2 =>
      intro at1 ls H locs ha1 ha2 hinv hP hS hnn hl
      refine lv_iload_n hx hb dB_next_2 rfl (lv_at hl 0 rfl) ?_
      refine lv_aload_n hx hb dB_next_3 rfl (lv_at hl 1 rfl) ?_
      refine gf_B_7 (v := .int (nI Wd)) hx hb hA hown hK hP 0 rfl rfl dB_next_4 ?_
      refine tq_ge hx hb dB_next_7 (tgt := 64) (by decide) (by omega) (by omega) (fun h7 => ?_) (fun h7 => ?_)
      · refine lv_aload_n hx hb dB_next_64 rfl (lv_at hl 1 rfl) ?_
        refine gf_B_7 (v := .int (nI Wd)) hx hb hA hown hK hP 0 rfl rfl dB_next_65 ?_
        subst hQe
        exact W.iret (v := nI Wd) hx hb hr (fun t ht hW => ⟨⟨_, (), rfl, ⟨_, rfl, ⟨by omega, by omega, fun y a b c => hinv y a (by omega) c, fun z => by omega⟩⟩, trivial⟩, hS.F ht⟩) hS.2.2 dB_next_68
      · refine lv_aload_n hx hb dB_next_10 rfl (lv_at hl 1 rfl) ?_
        refine gf_B_16 (v := .ref w) hx hb hA hown hK hP 0 rfl rfl dB_next_11 ?_
        refine lv_iload_n hx hb dB_next_14 rfl (lv_at hl 2 rfl) ?_
        refine lv_aload_n hx hb dB_next_15 rfl (lv_at hl 1 rfl) ?_
        refine gf_B_13 (v := .int (nI wp)) hx hb hA hown hK hP 0 rfl rfl dB_next_16 ?_
        refine tq_imul hx hb dB_next_19 ?_
        refine lv_iload_n hx hb dB_next_20 rfl (lv_at hl 0 rfl) ?_
        refine lv_bipush (v := nI 6) hx hb dB_next_21 (by decide +kernel) ?_
        refine tq_ishr6 hx hb dB_next_23 (by omega) ?_
        refine tq_iadd hx hb dB_next_24 ?_
        refine tq_lald hx hb hK hP 1 0 rfl rfl (by omega) (by omega) dB_next_25 ?_
        refine lv_iload_n hx hb dB_next_26 rfl (lv_at hl 0 rfl) ?_
        refine lv_bipush (v := nI 63) hx hb dB_next_27 (by decide +kernel) ?_
        refine tq_iand63 hx hb dB_next_29 (by omega) ?_
        refine lv_lushr hx hb dB_next_30 rfl ?_
        refine lv_topl (fun rst erst => ?_)
        refine lv_lstore (lv' := [(4, .long rst), (3, .int (nI at1)), (0, .ref h), (1, .int (nI row)), (2, .int (nI fr))]) hx hb dB_next_31 hl (by decide) rfl (fun ls hl => ?_)
        refine lv_lload hx hb dB_next_33 (lv_at hl 0 rfl) ?_
        refine lv_lconst (v := 0) hx hb dB_next_35 (by decide +kernel) ?_
        refine tq_leq hx hb dB_next_36 dB_next_37 (tgt := 54) (by decide) (fun h36 => ?_) (fun h36 => ?_)
        · have h0 : (_ : Int64) = 0 := erst.symm.trans h36
          refine lv_iload_n hx hb dB_next_54 rfl (lv_at hl 1 rfl) ?_
          refine lv_bipush (v := nI 63) hx hb dB_next_55 (by decide +kernel) ?_
          refine tq_ior63 hx hb dB_next_57 (by omega) ?_
          refine lv_iconst (v := nI 1) hx hb dB_next_58 (by decide +kernel) ?_
          refine tq_iadd hx hb dB_next_59 ?_
          refine lv_istore_n (lv' := [(3, .int (nI ((at1 / 64 * 64 + 63) + 1))), (4, .long rst), (0, .ref h), (1, .int (nI row)), (2, .int (nI fr))]) hx hb dB_next_60 rfl hl (by decide) rfl (fun ls hl => ?_)
          refine lv_goto hx hb dB_next_61 (tgt := 2) (by decide) ?_
          exact ih2 ((at1 / 64 * 64 + 63) + 1) ls H locs (by omega) (by omega) (tm_miss (bw_word B (r := row) (at' := at1) (by omega)) hinv (Classical.byContradiction (fun z => z h0))) hP hS (by omega) (lv_sub hl [0, 2, 3, 4] rfl)
        · have hne := h36
          subst erst
          refine lv_iload_n hx hb dB_next_40 rfl (lv_at hl 1 rfl) ?_
          refine lv_lload hx hb dB_next_41 (lv_at hl 0 rfl) ?_
          refine lv_lload hx hb dB_next_43 (lv_at hl 0 rfl) ?_
          refine lv_lneg hx hb dB_next_45 ?_
          refine lv_land hx hb dB_next_46 ?_
          refine lv_lconst (v := 1) hx hb dB_next_47 (by decide +kernel) ?_
          refine lv_lsub hx hb dB_next_48 ?_
          obtain ⟨j, hj1, hj2, hj3⟩ := tm_low hne
          refine tq_l (tm_lowmask hj1 hj2 hj3) ?_
          refine tq_rdv (D := D) (cl := vwA) (va_runS (As := [.long (lN (2 ^ j - 1))]) (rest := [.int (nI at1)]) ⟨hx, hb, hml, hown, hA⟩ (c_bitCount l j hj1) (kw_B_22 hA rfl rfl ⟨by omega, by omega⟩) ⟨fun _ _ _ _ q => q, fun U hU hW => ⟨rfl, trivial⟩⟩ rfl rfl hl.1 rfl (lv_room (Nat.le_of_ble_eq_true rfl)) dB_next_49 ⟨by omega, by omega⟩) hS hP (fun H locs hP hS => ?_)
          refine tq_iadd hx hb dB_next_52 ?_
          subst hQe
          exact W.iret (v := nI (at1 + j)) hx hb hr (fun t ht hW => ⟨⟨_, (), rfl, ⟨_, rfl, tm_hit (bw_word B (r := row) (at' := at1) (by omega)) ha1 hinv h7 hj2 hj3⟩, trivial⟩, hS.F ht⟩) hS.2.2 dB_next_53
  exact lp (Wd + 65 - fr) fr ls s.heap [] (by omega) (by omega) (fun y a b => by omega) hP hS (by omega) (lv_sub hl [0, 1, 2, 3] rfl)
set_option maxHeartbeats 4000000 in
set_option maxRecDepth 100000 in
/-- c_nextBeyond -/
theorem c_nextBeyond (l : Launch) (D : va_G) (h w n Wd wp : Nat) (cL : ClassId) (B : Nat → Nat → Bool) (h2 w2 n2 Wd2 wp2 : Nat) (C : Nat → Nat → Bool) (row fr orow : Nat) (h1 : Wd ≤ wp * 64) (hr1 : row * wp + wp ≤ n) (hr2 : orow * wp + wp ≤ n2) (hn : n < 2 ^ 31) (hn2 : n2 < 2 ^ 31) (hw : Wd < 1200) (hf : fr ≤ Wd) : Met l yB_nextBeyond (wB_nextBeyond :: wA) ({ frames := 1, cells := 0, slots := 0, locals := 21 }) (va_Pc [.ref h, .int (nI row), .int (nI fr), .ref h2, .int (nI orow)] (tq_rB D vwA [(h, .inr (0, [.int (nI Wd), .int (nI wp), .ref w])), (w, .inl (cL, n, .inr (.inl (bw wp B)))), (h2, .inr (0, [.int (nI Wd2), .int (nI wp2), .ref w2])), (w2, .inl (cL, n2, .inr (.inl (bw wp C))))] [(cL, .long)])) (va_Qi (fun r (_ : Unit) => ∃ r0 : Nat, r = nI r0 ∧ tm_nx (fun y => B row y && !C orow y) Wd fr r0) (fun _ _ => True) (fun _ => False)) 0 0 (fun _ => False) := by
  refine Met.ofW (cc := bB_nextBeyond) (maxL := 9) (ret := (some .int)) (by decide +kernel) rfl ?_
  intro p e s m args below meth c s₁ B1 hml hv
  obtain ⟨rfl, hP, hK⟩ := hv
  have hx := B1.exec
  have hb := B1.bytes
  have hr := B1.returns
  have hA : ∀ w ∈ wA, w.before ([.ref h, .int (nI row), .int (nI fr), .ref h2, .int (nI orow)] : List Value).toArray s = true := fun w h => atoms_spec (ws := wB_nextBeyond :: wA) B1.pre w (List.mem_cons_of_mem _ h)
  have hown : s.vm.findClass RcB = some m.cls := findClass_of_methodNamed B1.named
  have hlocks := B1.notSynchronized
  have hS : va_S (fun _ => False) s.heap s.heap [] := va_S.rf
  have hl := lv_entry ([.ref h, .int (nI row), .int (nI fr), .ref h2, .int (nI orow)]) (n := 9) (Nat.le_of_ble_eq_true rfl)
  rw [lg_entry_eq]
  generalize (lg_sl ([.ref h, .int (nI row), .int (nI fr), .ref h2, .int (nI orow)]) ++ List.replicate (9 - (lg_sl ([.ref h, .int (nI row), .int (nI fr), .ref h2, .int (nI orow)])).length) Slot.unset).toArray = ls at hl ⊢
  have hl : lv_has ls 9 [(0, .ref h), (1, .int (nI row)), (2, .int (nI fr)), (3, .ref h2), (4, .int (nI orow))] := hl
  refine tq_gen (fun R Q hRe hQe => ?_)
  have hRf : 1 ≤ R.frames := by rw [hRe]; exact Nat.le_of_ble_eq_true rfl
  have hRl : 21 ≤ R.locals := by rw [hRe]; exact Nat.le_of_ble_eq_true rfl
  have hRc : 0 ≤ R.cells := by rw [hRe]; exact Nat.le_of_ble_eq_true rfl
  have hRs : 0 ≤ R.slots := by rw [hRe]; exact Nat.le_of_ble_eq_true rfl
  refine lv_iload_n hx hb dB_nextBeyond_0 rfl (lv_at hl 2 rfl) ?_
  refine lv_istore (lv' := [(5, .int (nI fr)), (0, .ref h), (1, .int (nI row)), (2, .int (nI fr)), (3, .ref h2), (4, .int (nI orow))]) hx hb dB_nextBeyond_1 hl (by decide) rfl (fun ls hl => ?_)
  have lp : ∀ (fu : Nat) (at1 : Nat) (ls : Array Slot) (H : Heap) (locs : List Loc), fr ≤ at1 → at1 < Wd + 64 → (∀ y, fr ≤ y → y < at1 → y < Wd → (fun y => B row y && !C orow y) y = false) → va_P D vwA [(h, .inr (0, [.int (nI Wd), .int (nI wp), .ref w])), (w, .inl (cL, n, .inr (.inl (bw wp B)))), (h2, .inr (0, [.int (nI Wd2), .int (nI wp2), .ref w2])), (w2, .inl (cL, n2, .inr (.inl (bw wp C))))] H → va_S (fun _ => False) s.heap H locs → Wd + 64 - at1 < fu → lv_has ls 9 [(5, .int (nI at1)), (0, .ref h), (1, .int (nI row)), (2, .int (nI fr)), (3, .ref h2), (4, .int (nI orow))] → W p l e R s m ([.ref h, .int (nI row), .int (nI fr), .ref h2, .int (nI orow)] : List Value).toArray below meth c H locs 0 0 Q (F0 m 3 ls []) := by
    intro fu
    induction fu with
    | zero => intros; omega
    | succ fu ih3 =>
      intro at1 ls H locs ha1 ha2 hinv hP hS hnn hl
      refine lv_iload hx hb dB_nextBeyond_3 (lv_at hl 0 rfl) ?_
      refine lv_aload_n hx hb dB_nextBeyond_5 rfl (lv_at hl 1 rfl) ?_
      refine gf_B_7 (v := .int (nI Wd)) hx hb hA hown hK hP 0 rfl rfl dB_nextBeyond_6 ?_
      refine tq_ge hx hb dB_nextBeyond_9 (tgt := 99) (by decide) (by omega) (by omega) (fun h9 => ?_) (fun h9 => ?_)
      · refine lv_aload_n hx hb dB_nextBeyond_99 rfl (lv_at hl 1 rfl) ?_
        refine gf_B_7 (v := .int (nI Wd)) hx hb hA hown hK hP 0 rfl rfl dB_nextBeyond_100 ?_
        subst hQe
        exact W.iret (v := nI Wd) hx hb hr (fun t ht hW => ⟨⟨_, (), rfl, ⟨_, rfl, ⟨by omega, by omega, fun y a b c => hinv y a (by omega) c, fun z => by omega⟩⟩, trivial⟩, hS.F ht⟩) hS.2.2 dB_nextBeyond_103
      · refine lv_iload hx hb dB_nextBeyond_12 (lv_at hl 0 rfl) ?_
        refine lv_bipush (v := nI 6) hx hb dB_nextBeyond_14 (by decide +kernel) ?_
        refine tq_ishr6 hx hb dB_nextBeyond_16 (by omega) ?_
        refine lv_istore (lv' := [(6, .int (nI (at1 / 64))), (5, .int (nI at1)), (0, .ref h), (1, .int (nI row)), (2, .int (nI fr)), (3, .ref h2), (4, .int (nI orow))]) hx hb dB_nextBeyond_17 hl (by decide) rfl (fun ls hl => ?_)
        refine lv_aload_n hx hb dB_nextBeyond_19 rfl (lv_at hl 2 rfl) ?_
        refine gf_B_16 (v := .ref w) hx hb hA hown hK hP 0 rfl rfl dB_nextBeyond_20 ?_
        refine lv_iload_n hx hb dB_nextBeyond_23 rfl (lv_at hl 3 rfl) ?_
        refine lv_aload_n hx hb dB_nextBeyond_24 rfl (lv_at hl 2 rfl) ?_
        refine gf_B_13 (v := .int (nI wp)) hx hb hA hown hK hP 0 rfl rfl dB_nextBeyond_25 ?_
        refine tq_imul hx hb dB_nextBeyond_28 ?_
        refine lv_iload hx hb dB_nextBeyond_29 (lv_at hl 0 rfl) ?_
        refine tq_iadd hx hb dB_nextBeyond_31 ?_
        refine tq_lald hx hb hK hP 1 0 rfl rfl (by omega) (by omega) dB_nextBeyond_32 ?_
        refine lv_aload_n hx hb dB_nextBeyond_33 rfl (lv_at hl 5 rfl) ?_
        refine gf_B_16 (v := .ref w2) hx hb hA hown hK hP 2 rfl rfl dB_nextBeyond_34 ?_
        refine lv_iload hx hb dB_nextBeyond_37 (lv_at hl 6 rfl) ?_
        refine lv_aload_n hx hb dB_nextBeyond_39 rfl (lv_at hl 2 rfl) ?_
        refine gf_B_13 (v := .int (nI wp)) hx hb hA hown hK hP 0 rfl rfl dB_nextBeyond_40 ?_
        refine tq_imul hx hb dB_nextBeyond_43 ?_
        refine lv_iload hx hb dB_nextBeyond_44 (lv_at hl 0 rfl) ?_
        refine tq_iadd hx hb dB_nextBeyond_46 ?_
        refine tq_lald hx hb hK hP 3 0 rfl rfl (by omega) (by omega) dB_nextBeyond_47 ?_
        refine lv_ldc2 hx hb hown (hA _ mct_B_20) dB_nextBeyond_48 ?_
        refine lv_lxor hx hb dB_nextBeyond_51 ?_
        refine lv_land hx hb dB_nextBeyond_52 ?_
        refine lv_lstore (lv' := [(7, .long (((bw wp B) ((row * wp) + (at1 / 64))) &&& (((bw wp C) ((orow * wp) + (at1 / 64))) ^^^ (-1)))), (6, .int (nI (at1 / 64))), (5, .int (nI at1)), (0, .ref h), (1, .int (nI row)), (2, .int (nI fr)), (3, .ref h2), (4, .int (nI orow))]) hx hb dB_nextBeyond_53 hl (by decide) rfl (fun ls hl => ?_)
        refine lv_lload hx hb dB_nextBeyond_55 (lv_at hl 0 rfl) ?_
        refine lv_iload hx hb dB_nextBeyond_57 (lv_at hl 2 rfl) ?_
        refine lv_bipush (v := nI 63) hx hb dB_nextBeyond_59 (by decide +kernel) ?_
        refine tq_iand63 hx hb dB_nextBeyond_61 (by omega) ?_
        refine lv_lushr hx hb dB_nextBeyond_62 rfl ?_
        refine lv_topl (fun rst erst => ?_)
        refine lv_lstore (lv' := [(7, .long rst), (6, .int (nI (at1 / 64))), (5, .int (nI at1)), (0, .ref h), (1, .int (nI row)), (2, .int (nI fr)), (3, .ref h2), (4, .int (nI orow))]) hx hb dB_nextBeyond_63 hl (by decide) rfl (fun ls hl => ?_)
        refine lv_lload hx hb dB_nextBeyond_65 (lv_at hl 0 rfl) ?_
        refine lv_lconst (v := 0) hx hb dB_nextBeyond_67 (by decide +kernel) ?_
        refine tq_leq hx hb dB_nextBeyond_68 dB_nextBeyond_69 (tgt := 87) (by decide) (fun h68 => ?_) (fun h68 => ?_)
        · have h0 : (_ : Int64) = 0 := erst.symm.trans h68
          refine lv_iload hx hb dB_nextBeyond_87 (lv_at hl 2 rfl) ?_
          refine lv_bipush (v := nI 63) hx hb dB_nextBeyond_89 (by decide +kernel) ?_
          refine tq_ior63 hx hb dB_nextBeyond_91 (by omega) ?_
          refine lv_iconst (v := nI 1) hx hb dB_nextBeyond_92 (by decide +kernel) ?_
          refine tq_iadd hx hb dB_nextBeyond_93 ?_
          refine lv_istore (lv' := [(5, .int (nI ((at1 / 64 * 64 + 63) + 1))), (7, .long rst), (6, .int (nI (at1 / 64))), (0, .ref h), (1, .int (nI row)), (2, .int (nI fr)), (3, .ref h2), (4, .int (nI orow))]) hx hb dB_nextBeyond_94 hl (by decide) rfl (fun ls hl => ?_)
          refine lv_goto hx hb dB_nextBeyond_96 (tgt := 3) (by decide) ?_
          exact ih3 ((at1 / 64 * 64 + 63) + 1) ls H locs (by omega) (by omega) (tm_miss (bw_word2 B C (r := row) (q := orow) (at' := at1) (by omega)) hinv (Classical.byContradiction (fun z => z h0))) hP hS (by omega) (lv_sub hl [0, 3, 4, 5, 6, 7] rfl)
        · have hne := h68
          subst erst
          refine lv_iload hx hb dB_nextBeyond_72 (lv_at hl 2 rfl) ?_
          refine lv_lload hx hb dB_nextBeyond_74 (lv_at hl 0 rfl) ?_
          refine lv_lload hx hb dB_nextBeyond_76 (lv_at hl 0 rfl) ?_
          refine lv_lneg hx hb dB_nextBeyond_78 ?_
          refine lv_land hx hb dB_nextBeyond_79 ?_
          refine lv_lconst (v := 1) hx hb dB_nextBeyond_80 (by decide +kernel) ?_
          refine lv_lsub hx hb dB_nextBeyond_81 ?_
          obtain ⟨j, hj1, hj2, hj3⟩ := tm_low hne
          refine tq_l (tm_lowmask hj1 hj2 hj3) ?_
          refine tq_rdv (D := D) (cl := vwA) (va_runS (As := [.long (lN (2 ^ j - 1))]) (rest := [.int (nI at1)]) ⟨hx, hb, hml, hown, hA⟩ (c_bitCount l j hj1) (kw_B_22 hA rfl rfl ⟨by omega, by omega⟩) ⟨fun _ _ _ _ q => q, fun U hU hW => ⟨rfl, trivial⟩⟩ rfl rfl hl.1 rfl (lv_room (Nat.le_of_ble_eq_true rfl)) dB_nextBeyond_82 ⟨by omega, by omega⟩) hS hP (fun H locs hP hS => ?_)
          refine tq_iadd hx hb dB_nextBeyond_85 ?_
          subst hQe
          exact W.iret (v := nI (at1 + j)) hx hb hr (fun t ht hW => ⟨⟨_, (), rfl, ⟨_, rfl, tm_hit (bw_word2 B C (r := row) (q := orow) (at' := at1) (by omega)) ha1 hinv h9 hj2 hj3⟩, trivial⟩, hS.F ht⟩) hS.2.2 dB_nextBeyond_86
  exact lp (Wd + 65 - fr) fr ls s.heap [] (by omega) (by omega) (fun y a b => by omega) hP hS (by omega) (lv_sub hl [0, 1, 2, 3, 4, 5] rfl)
set_option maxHeartbeats 4000000 in
set_option maxRecDepth 100000 in
/-- Math.min -/
theorem c_min (l : Launch) (a b : Nat) (ha : a < 2 ^ 31) (hb2 : b < 2 ^ 31) : Met l yJm_min (wJm_min :: wA) ({ frames := 0, cells := 0, slots := 0, locals := 0 }) (va_Pc [.int (nI a), .int (nI b)] (fun _ => True)) (va_Qi (fun r (_ : Unit) => r = nI (min a b)) (fun _ _ => True) (fun _ => False)) 0 0 (fun _ => False) := by
  refine va_MetF (cc := bJm_min) (maxL := 2) (ret := (some .int)) (by decide +kernel) rfl ?_
  intro p e s m args below meth c s₁ B1 hml hv
  obtain ⟨rfl, -⟩ := hv
  have hx := B1.exec
  have hb := B1.bytes
  have hr := B1.returns
  have hA : ∀ w ∈ wA, w.before ([.int (nI a), .int (nI b)] : List Value).toArray s = true := fun w h => atoms_spec (ws := wJm_min :: wA) B1.pre w (List.mem_cons_of_mem _ h)
  have hown : s.vm.findClass RcJm = some m.cls := findClass_of_methodNamed B1.named
  have hlocks := B1.notSynchronized
  have hS : va_S (fun _ => False) s.heap s.heap [] := va_S.rf
  have hl := lv_entry ([.int (nI a), .int (nI b)]) (n := 2) (Nat.le_of_ble_eq_true rfl)
  rw [lg_entry_eq]
  generalize (lg_sl ([.int (nI a), .int (nI b)]) ++ List.replicate (2 - (lg_sl ([.int (nI a), .int (nI b)])).length) Slot.unset).toArray = ls at hl ⊢
  have hl : lv_has ls 2 [(0, .int (nI a)), (1, .int (nI b))] := hl
  refine tq_gen (fun R Q hRe hQe => ?_)
  have hRf : 0 ≤ R.frames := by rw [hRe]; exact Nat.le_of_ble_eq_true rfl
  have hRl : 0 ≤ R.locals := by rw [hRe]; exact Nat.le_of_ble_eq_true rfl
  have hRc : 0 ≤ R.cells := by rw [hRe]; exact Nat.le_of_ble_eq_true rfl
  have hRs : 0 ≤ R.slots := by rw [hRe]; exact Nat.le_of_ble_eq_true rfl
  refine lv_iload_n hx hb dJm_min_0 rfl (lv_at hl 0 rfl) ?_
  refine lv_iload_n hx hb dJm_min_1 rfl (lv_at hl 1 rfl) ?_
  refine tq_gt hx hb dJm_min_2 (tgt := 9) (by decide) (by omega) (by omega) (fun h2 => ?_) (fun h2 => ?_)
  · refine lv_iload_n hx hb dJm_min_9 rfl (lv_at hl 1 rfl) ?_
    subst hQe
    exact W.iret (v := nI b) hx hb hr (fun t ht hW => ⟨⟨_, (), rfl, by congr 1; omega, trivial⟩, hS.F ht⟩) hS.2.2 dJm_min_10
  · refine lv_iload_n hx hb dJm_min_5 rfl (lv_at hl 0 rfl) ?_
    refine lv_goto hx hb dJm_min_6 (tgt := 10) (by decide) ?_
    subst hQe
    exact W.iret (v := nI a) hx hb hr (fun t ht hW => ⟨⟨_, (), rfl, by congr 1; omega, trivial⟩, hS.F ht⟩) hS.2.2 dJm_min_10
set_option maxHeartbeats 4000000 in
set_option maxRecDepth 100000 in
/-- Bits.clear -/
theorem c_clear (l : Launch) (D : va_G) (h w n Wd wp : Nat) (cL : ClassId) (B : Nat → Nat → Bool) (rows : Nat) (h1 : rows * wp ≤ n) (hn : n < 2 ^ 31) (hw : 0 < wp) : Met l yB_clear (wB_clear :: wA) ({ frames := 1, cells := 0, slots := 0, locals := 21 }) (va_Pc [.ref h, .int (nI rows)] (tq_wB D vwA [(h, .inr (0, [.int (nI Wd), .int (nI wp), .ref w])), (w, .inl (cL, n, .inr (.inl (bw wp B))))] [(cL, .long)])) (va_Qv (fun (_ : Unit) => True) (fun _ t => va_P D vwA (bW h w n Wd wp cL (tm_clr B rows)) t.heap) (fun q => q = h ∨ q = w)) 0 0 (fun q => q = h ∨ q = w) := by
  refine Met.ofW (cc := bB_clear) (maxL := 4) (ret := none) (by decide +kernel) rfl ?_
  intro p e s m args below meth c s₁ B1 hml hv
  obtain ⟨rfl, hP, hK, hD0⟩ := hv
  have hx := B1.exec
  have hb := B1.bytes
  have hr := B1.returns
  have hA : ∀ w ∈ wA, w.before ([.ref h, .int (nI rows)] : List Value).toArray s = true := fun w h => atoms_spec (ws := wB_clear :: wA) B1.pre w (List.mem_cons_of_mem _ h)
  have hown : s.vm.findClass RcB = some m.cls := findClass_of_methodNamed B1.named
  have hlocks := B1.notSynchronized
  have hS : va_S (fun q => q = h ∨ q = w) s.heap s.heap [] := va_S.rf
  have hl := lv_entry ([.ref h, .int (nI rows)]) (n := 4) (Nat.le_of_ble_eq_true rfl)
  rw [lg_entry_eq]
  generalize (lg_sl ([.ref h, .int (nI rows)]) ++ List.replicate (4 - (lg_sl ([.ref h, .int (nI rows)])).length) Slot.unset).toArray = ls at hl ⊢
  have hl : lv_has ls 4 [(0, .ref h), (1, .int (nI rows))] := hl
  refine tq_gen (fun R Q hRe hQe => ?_)
  have hRf : 1 ≤ R.frames := by rw [hRe]; exact Nat.le_of_ble_eq_true rfl
  have hRl : 21 ≤ R.locals := by rw [hRe]; exact Nat.le_of_ble_eq_true rfl
  have hRc : 0 ≤ R.cells := by rw [hRe]; exact Nat.le_of_ble_eq_true rfl
  have hRs : 0 ≤ R.slots := by rw [hRe]; exact Nat.le_of_ble_eq_true rfl
  have hD := tq_D2 hD0
  refine lv_iload_n hx hb dB_clear_0 rfl (lv_at hl 1 rfl) ?_
  refine lv_aload_n hx hb dB_clear_1 rfl (lv_at hl 0 rfl) ?_
  refine gf_B_13 (v := .int (nI wp)) hx hb hA hown hK hP 0 rfl rfl dB_clear_2 ?_
  refine tq_imul hx hb dB_clear_5 ?_
  refine lv_aload_n hx hb dB_clear_6 rfl (lv_at hl 0 rfl) ?_
  refine gf_B_16 (v := .ref w) hx hb hA hown hK hP 0 rfl rfl dB_clear_7 ?_
  refine va_alen (v := nI n) hx hb hK hP 1 0 rfl rfl rfl dB_clear_10 ?_
  refine tq_rdv (D := D) (cl := vwA) (va_runS (As := [.int (nI (rows * wp)), .int (nI n)]) (rest := []) ⟨hx, hb, hml, hown, hA⟩ (c_min l (rows * wp) n (by omega) (by omega)) (kw_B_28 hA rfl rfl ⟨by omega, by omega⟩) ⟨fun _ _ _ _ q => q, fun U hU hW => ⟨rfl, trivial⟩⟩ rfl rfl hl.1 rfl (lv_room (Nat.le_of_ble_eq_true rfl)) dB_clear_11 ⟨by omega, by omega⟩) hS hP (fun H locs hP hS => ?_)
  refine tq_i (show nI (min (rows * wp) (n)) = nI (rows * wp) by congr 1; omega) ?_
  refine lv_istore_n (lv' := [(2, .int (nI (rows * wp))), (0, .ref h), (1, .int (nI rows))]) hx hb dB_clear_14 rfl hl (by decide) rfl (fun ls hl => ?_)
  refine lv_iconst (v := nI 0) hx hb dB_clear_15 (by decide +kernel) ?_
  refine lv_istore_n (lv' := [(3, .int (nI 0)), (2, .int (nI (rows * wp))), (0, .ref h), (1, .int (nI rows))]) hx hb dB_clear_16 rfl hl (by decide) rfl (fun ls hl => ?_)
  have lp : ∀ (fu : Nat) (at1 : Nat) (ls : Array Slot) (H : Heap) (locs : List Loc), at1 ≤ rows * wp → va_P D vwA [(h, .inr (0, [.int (nI Wd), .int (nI wp), .ref w])), (w, .inl (cL, n, .inr (.inl (bw_z wp B at1))))] H → va_D (fun q => q = h ∨ q = w) [(h, .inr (0, [.int (nI Wd), .int (nI wp), .ref w])), (w, .inl (cL, n, .inr (.inl (bw_z wp B at1))))] → va_S (fun q => q = h ∨ q = w) s.heap H locs → rows * wp - at1 < fu → lv_has ls 4 [(3, .int (nI at1)), (2, .int (nI (rows * wp))), (0, .ref h), (1, .int (nI rows))] → W p l e R s m ([.ref h, .int (nI rows)] : List Value).toArray below meth c H locs 0 0 Q (F0 m 17 ls []) := by
    intro fu
    induction fu with
    | zero => intros; omega
    | succ fu ih17 =>
      intro at1 ls H locs ha1 hP hD hS hnn hl
      refine lv_iload_n hx hb dB_clear_17 rfl (lv_at hl 0 rfl) ?_
      refine lv_iload_n hx hb dB_clear_18 rfl (lv_at hl 1 rfl) ?_
      refine tq_ge hx hb dB_clear_19 (tgt := 35) (by decide) (by omega) (by omega) (fun h19 => ?_) (fun h19 => ?_)
      · have e9 : at1 = rows * wp := by omega
        rw [e9, bw_ze hw] at hP
        subst hQe
        exact W.vret hx hb hr (fun t ht hW => ⟨⟨(), rfl, trivial, tq_hp ht hP⟩, hS.F ht⟩) hS.2.2 dB_clear_35
      · refine lv_aload_n hx hb dB_clear_22 rfl (lv_at hl 2 rfl) ?_
        refine gf_B_16 (v := .ref w) hx hb hA hown hK hP 0 rfl rfl dB_clear_23 ?_
        refine lv_iload_n hx hb dB_clear_26 rfl (lv_at hl 0 rfl) ?_
        refine lv_lconst (v := 0) hx hb dB_clear_27 (by decide +kernel) ?_
        refine tq_last hx hb hK hP hD hS 1 0 rfl rfl (by omega) (by omega) dB_clear_28 (fun H locs hP hD hS => ?_)
        have hP : va_P D vwA [(h, .inr (0, [.int (nI Wd), .int (nI wp), .ref w])), (w, .inl (cL, n, .inr (.inl (vp_updL (bw_z wp B at1) at1 0))))] H := hP
        have hD : va_D (fun q => q = h ∨ q = w) [(h, .inr (0, [.int (nI Wd), .int (nI wp), .ref w])), (w, .inl (cL, n, .inr (.inl (vp_updL (bw_z wp B at1) at1 0))))] := hD
        rw [bw_zs] at hP hD
        refine lv_iinc (k := 0) (lv' := [(3, .int (nI (at1 + 1))), (2, .int (nI (rows * wp))), (0, .ref h), (1, .int (nI rows))]) hx hb dB_clear_29 hl rfl (nI_1 _) (by decide) rfl (fun ls hl => ?_)
        refine lv_goto hx hb dB_clear_32 (tgt := 17) (by decide) ?_
        exact ih17 (at1 + 1) ls H locs (by omega) hP hD hS (by omega) (lv_sub hl [0, 1, 2, 3] rfl)
  exact lp (rows * wp + 1) 0 ls H locs (by omega) (by rw [bw_z0]; exact hP) (by rw [bw_z0]; exact hD) hS (by omega) (lv_sub hl [0, 1, 2, 3] rfl)
