/-! The contracts of Closure: what is drawn from one fact. Written by wip/whole/gen/genclos2.py. -/
set_option maxHeartbeats 4000000 in
set_option maxRecDepth 100000 in
/-- c_emptySources -/
theorem c_emptySources (l : Launch) (D : va_G) (a : Nat → Nat) (kI kL kZ : ClassId) (u : sU) (d : Nat) (htr : s_tr u) (hd : d < 160) : Met l yC_emptySources (wC_emptySources :: wA) ({ frames := 3, cells := 0, slots := 0, locals := 74 }) (va_Pc [.ref (a 3), .int (nI d)] (tq_wB D vwA (sW a kI kL kZ u) (sT kI kL kZ))) (va_Qv (fun (u' : sU) => s_ext u u' ∧ s_empt u u' d 6) (fun u' t => va_P D vwA (sW a kI kL kZ u') t.heap) (sA a)) 0 0 (sA a) := by
  refine Met.ofW (cc := bC_emptySources) (maxL := 3) (ret := none) (by decide +kernel) rfl ?_
  intro p e s m args below meth c s₁ B1 hml hv
  obtain ⟨rfl, hP, hK, hD0⟩ := hv
  have hx := B1.exec
  have hb := B1.bytes
  have hr := B1.returns
  have hA : ∀ w ∈ wA, w.before ([.ref (a 3), .int (nI d)] : List Value).toArray s = true := fun w h => atoms_spec (ws := wC_emptySources :: wA) B1.pre w (List.mem_cons_of_mem _ h)
  have hown : s.vm.findClass RcC = some m.cls := findClass_of_methodNamed B1.named
  have hlocks := B1.notSynchronized
  have hS : va_S (sA a) s.heap s.heap [] := va_S.rf
  have hl := lv_entry ([.ref (a 3), .int (nI d)]) (n := 3) (Nat.le_of_ble_eq_true rfl)
  rw [lg_entry_eq]
  generalize (lg_sl ([.ref (a 3), .int (nI d)]) ++ List.replicate (3 - (lg_sl ([.ref (a 3), .int (nI d)])).length) Slot.unset).toArray = ls at hl ⊢
  have hl : lv_has ls 3 [(0, .ref (a 3)), (1, .int (nI d))] := hl
  refine tq_gen (fun R Q hRe hQe => ?_)
  have hRf : 3 ≤ R.frames := by rw [hRe]; exact Nat.le_of_ble_eq_true rfl
  have hRl : 74 ≤ R.locals := by rw [hRe]; exact Nat.le_of_ble_eq_true rfl
  have hRc : 0 ≤ R.cells := by rw [hRe]; exact Nat.le_of_ble_eq_true rfl
  have hRs : 0 ≤ R.slots := by rw [hRe]; exact Nat.le_of_ble_eq_true rfl
  have hD := sA_D hD0
  refine lv_iconst (v := nI 0) hx hb dC_emptySources_0 (by decide +kernel) ?_
  refine lv_istore_n (lv' := [(2, .int (nI 0)), (0, .ref (a 3)), (1, .int (nI d))]) hx hb dC_emptySources_1 rfl hl (by decide) rfl (fun ls hl => ?_)
  have lp : ∀ (fu : Nat) (n : Nat) (v : sU) (ls : Array Slot) (H : Heap) (locs : List Loc), s_ext u v → s_empt u v d n → n ≤ 6 → va_P D vwA (sW a kI kL kZ v) H → va_D (sA a) (sW a kI kL kZ v) → va_S (sA a) s.heap H locs → 6 - n < fu → lv_has ls 3 [(2, .int (nI n)), (0, .ref (a 3)), (1, .int (nI d))] → W p l e R s m ([.ref (a 3), .int (nI d)] : List Value).toArray below meth c H locs 0 0 Q (F0 m 2 ls []) := by
    intro fu
    induction fu with
    | zero => intros; omega
    | succ fu ih2 =>
      intro n v ls H locs g1 g2 g3 hP hD hS hfu hl
      refine lv_iload_n hx hb dC_emptySources_2 rfl (lv_at hl 0 rfl) ?_
      refine lv_bipush (v := nI 6) hx hb dC_emptySources_3 (by decide +kernel) ?_
      refine tq_ge hx hb dC_emptySources_5 (tgt := 26) (by decide) (by omega) (by omega) (fun h5 => ?_) (fun h5 => ?_)
      · subst hQe
        exact W.vret hx hb hr (fun t ht hW => ⟨⟨v, rfl, by rw [show 6 = n by omega]; exact ⟨g1, g2⟩, tq_hp ht hP⟩, hS.F ht⟩) hS.2.2 dC_emptySources_26
      · refine lv_aload_n hx hb dC_emptySources_8 rfl (lv_at hl 1 rfl) ?_
        refine lv_iload_n hx hb dC_emptySources_9 rfl (lv_at hl 2 rfl) ?_
        refine lv_iload_n hx hb dC_emptySources_10 rfl (lv_at hl 0 rfl) ?_
        refine ks_s ⟨hx, hb, hml, hown, hA⟩ (c_row l d n) (kw_C_57 hA rfl rfl ⟨Nat.le_trans (Nat.le_of_ble_eq_true rfl) hRf, Nat.le_trans (Nat.le_of_ble_eq_true rfl) hRl⟩) hP hS rfl hl.1 (Nat.le_of_ble_eq_true rfl) ⟨by omega, by omega⟩ dC_emptySources_11 rfl (fun H locs hP hS => ?_)
        refine lv_bipush (v := nI 6) hx hb dC_emptySources_14 (by decide +kernel) ?_
        refine lv_iconst (v := nI 1) hx hb dC_emptySources_16 (by decide +kernel) ?_
        refine ks_v (wf := sW a kI kL kZ) (u := v) ⟨hx, hb, hml, hown, hA⟩ (c_addFromAll l D a kI kL kZ v d n 6 1 (tr_ext htr g1) (by omega) (by omega) (by omega) (by omega)) (kw_C_113 hA rfl rfl ⟨Nat.le_trans (Nat.le_of_ble_eq_true rfl) hRf, Nat.le_trans (Nat.le_of_ble_eq_true rfl) hRl⟩) hK hP hD hS (fun _ h => h) (fun u' => sW_adr u') 3 3 rfl rfl rfl hl.1 (Nat.le_of_ble_eq_true rfl) ⟨by omega, by omega⟩ dC_emptySources_17 rfl (fun u1 H locs hu1 hP hD hS => ?_)
        refine lv_iinc (k := 0) (lv' := [(2, .int (nI (n + 1))), (0, .ref (a 3)), (1, .int (nI d))]) hx hb dC_emptySources_20 hl rfl (nI_1 _) (by decide) rfl (fun ls hl => ?_)
        refine lv_goto hx hb dC_emptySources_23 (tgt := 2) (by decide) ?_
        exact ih2 (n + 1) u1 ls H locs (ext_trans g1 hu1.1) (empt_s hd (by omega) g1 g2 hu1.2) (by omega) hP hD hS (by omega) (lv_sub hl [0, 1, 2] rfl)
  exact lp _ 0 u ls _ _ (ext_refl u) (empt_0 u d) (by omega) hP hD hS (Nat.lt_succ_self _) (lv_sub hl [0, 1, 2] rfl)
set_option maxHeartbeats 4000000 in
set_option maxRecDepth 100000 in
/-- c_drawParts -/
theorem c_drawParts (l : Launch) (D : va_G) (a : Nat → Nat) (kI kL kZ : ClassId) (u : sU) (N : Nat) (kd fa fb : Nat → Nat) (htm : s_tm u N kd fa fb) (htr : s_tr u) (x d : Nat) (hx1 : x < 160) (hd : d < N) : Met l yC_drawParts (wC_drawParts :: wA) ({ frames := 2, cells := 0, slots := 0, locals := 49 }) (va_Pc [.ref (a 3), .int (nI x), .int (nI d)] (tq_wB D vwA (sW a kI kL kZ u) (sT kI kL kZ))) (va_Qv (fun (u' : sU) => s_ext u u' ∧ s_parts u u' kd fa fb x d) (fun u' t => va_P D vwA (sW a kI kL kZ u') t.heap) (sA a)) 0 0 (sA a) := by
  refine Met.ofW (cc := bC_drawParts) (maxL := 3) (ret := none) (by decide +kernel) rfl ?_
  intro p e s m args below meth c s₁ B1 hml hv
  obtain ⟨rfl, hP, hK, hD0⟩ := hv
  have hx := B1.exec
  have hb := B1.bytes
  have hr := B1.returns
  have hA : ∀ w ∈ wA, w.before ([.ref (a 3), .int (nI x), .int (nI d)] : List Value).toArray s = true := fun w h => atoms_spec (ws := wC_drawParts :: wA) B1.pre w (List.mem_cons_of_mem _ h)
  have hown : s.vm.findClass RcC = some m.cls := findClass_of_methodNamed B1.named
  have hlocks := B1.notSynchronized
  have hS : va_S (sA a) s.heap s.heap [] := va_S.rf
  have hl := lv_entry ([.ref (a 3), .int (nI x), .int (nI d)]) (n := 3) (Nat.le_of_ble_eq_true rfl)
  rw [lg_entry_eq]
  generalize (lg_sl ([.ref (a 3), .int (nI x), .int (nI d)]) ++ List.replicate (3 - (lg_sl ([.ref (a 3), .int (nI x), .int (nI d)])).length) Slot.unset).toArray = ls at hl ⊢
  have hl : lv_has ls 3 [(0, .ref (a 3)), (1, .int (nI x)), (2, .int (nI d))] := hl
  refine tq_gen (fun R Q hRe hQe => ?_)
  have hRf : 2 ≤ R.frames := by rw [hRe]; exact Nat.le_of_ble_eq_true rfl
  have hRl : 49 ≤ R.locals := by rw [hRe]; exact Nat.le_of_ble_eq_true rfl
  have hRc : 0 ≤ R.cells := by rw [hRe]; exact Nat.le_of_ble_eq_true rfl
  have hRs : 0 ≤ R.slots := by rw [hRe]; exact Nat.le_of_ble_eq_true rfl
  have hD := sA_D hD0
  have hN := tm_N htm
  refine lv_aload_n hx hb dC_drawParts_0 rfl (lv_at hl 0 rfl) ?_
  refine gf_C_11 (v := .ref (a 1)) hx hb hA hown hK hP 3 rfl rfl dC_drawParts_1 ?_
  refine lv_iload_n hx hb dC_drawParts_4 rfl (lv_at hl 2 rfl) ?_
  refine ks_rv ⟨hx, hb, hml, hown, hA⟩ (c_kind l D a kI kL kZ u d (by omega)) (kw_C_148 hA rfl rfl ⟨Nat.le_trans (Nat.le_of_ble_eq_true rfl) hRf, Nat.le_trans (Nat.le_of_ble_eq_true rfl) hRl⟩) hK hP hS 1 1 rfl rfl rfl hl.1 (Nat.le_of_ble_eq_true rfl) ⟨by omega, by omega⟩ dC_drawParts_5 rfl (fun H locs hP hS => ?_)
  refine lv_iconst (v := nI 2) hx hb dC_drawParts_8 (by decide +kernel) ?_
  refine lv_icmp_ne hx hb dC_drawParts_9 (tgt := 45) (by decide) (fun h9 => ?_) (fun h9 => ?_)
  · have hk2 : ¬ kd d = 2 := fun z => h9 ((tm_k htm hd (by decide)).mpr z)
    refine lv_aload_n hx hb dC_drawParts_45 rfl (lv_at hl 0 rfl) ?_
    refine gf_C_11 (v := .ref (a 1)) hx hb hA hown hK hP 3 rfl rfl dC_drawParts_46 ?_
    refine lv_iload_n hx hb dC_drawParts_49 rfl (lv_at hl 2 rfl) ?_
    refine ks_rv ⟨hx, hb, hml, hown, hA⟩ (c_kind l D a kI kL kZ u d (by omega)) (kw_C_148 hA rfl rfl ⟨Nat.le_trans (Nat.le_of_ble_eq_true rfl) hRf, Nat.le_trans (Nat.le_of_ble_eq_true rfl) hRl⟩) hK hP hS 1 1 rfl rfl rfl hl.1 (Nat.le_of_ble_eq_true rfl) ⟨by omega, by omega⟩ dC_drawParts_50 rfl (fun H locs hP hS => ?_)
    refine lv_iconst (v := nI 3) hx hb dC_drawParts_53 (by decide +kernel) ?_
    refine lv_icmp_ne hx hb dC_drawParts_54 (tgt := 78) (by decide) (fun h54 => ?_) (fun h54 => ?_)
    · have hk3 : ¬ kd d = 3 := fun z => h54 ((tm_k htm hd (by decide)).mpr z)
      subst hQe
      exact W.vret hx hb hr (fun t ht hW => ⟨⟨u, rfl, parts_0 hk2 hk3, tq_hp ht hP⟩, hS.F ht⟩) hS.2.2 dC_drawParts_78
    · have hk := (tm_k htm hd (by decide)).mp h54
      have hb3 := tm_3 htm hd hk
      refine lv_aload_n hx hb dC_drawParts_57 rfl (lv_at hl 0 rfl) ?_
      refine lv_iload_n hx hb dC_drawParts_58 rfl (lv_at hl 1 rfl) ?_
      refine lv_aload_n hx hb dC_drawParts_59 rfl (lv_at hl 0 rfl) ?_
      refine gf_C_11 (v := .ref (a 1)) hx hb hA hown hK hP 3 rfl rfl dC_drawParts_60 ?_
      refine lv_iload_n hx hb dC_drawParts_63 rfl (lv_at hl 2 rfl) ?_
      refine ks_rv ⟨hx, hb, hml, hown, hA⟩ (c_left l D a kI kL kZ u d (by omega)) (kw_C_164 hA rfl rfl ⟨Nat.le_trans (Nat.le_of_ble_eq_true rfl) hRf, Nat.le_trans (Nat.le_of_ble_eq_true rfl) hRl⟩) hK hP hS 1 1 rfl rfl rfl hl.1 (Nat.le_of_ble_eq_true rfl) ⟨by omega, by omega⟩ dC_drawParts_64 rfl (fun H locs hP hS => ?_)
      refine tq_i ((tm_3 htm hd hk).1) ?_
      refine lv_aload_n hx hb dC_drawParts_67 rfl (lv_at hl 0 rfl) ?_
      refine gf_C_11 (v := .ref (a 1)) hx hb hA hown hK hP 3 rfl rfl dC_drawParts_68 ?_
      refine lv_iload_n hx hb dC_drawParts_71 rfl (lv_at hl 2 rfl) ?_
      refine ks_rv ⟨hx, hb, hml, hown, hA⟩ (c_right l D a kI kL kZ u d (by omega)) (kw_C_167 hA rfl rfl ⟨Nat.le_trans (Nat.le_of_ble_eq_true rfl) hRf, Nat.le_trans (Nat.le_of_ble_eq_true rfl) hRl⟩) hK hP hS 1 1 rfl rfl rfl hl.1 (Nat.le_of_ble_eq_true rfl) ⟨by omega, by omega⟩ dC_drawParts_72 rfl (fun H locs hP hS => ?_)
      refine tq_i ((tm_3 htm hd hk).2.1) ?_
      refine ks_v (wf := sW a kI kL kZ) (u := u) ⟨hx, hb, hml, hown, hA⟩ (c_add l D a kI kL kZ u x (fa d) (fb d) (by omega) (by omega) (by omega)) (kw_C_94 hA rfl rfl ⟨Nat.le_trans (Nat.le_of_ble_eq_true rfl) hRf, Nat.le_trans (Nat.le_of_ble_eq_true rfl) hRl⟩) hK hP hD hS (fun _ h => h) (fun u' => sW_adr u') 3 3 rfl rfl rfl hl.1 (Nat.le_of_ble_eq_true rfl) ⟨by omega, by omega⟩ dC_drawParts_75 rfl (fun u1 H locs hu1 hP hD hS => ?_)
      subst hQe
      exact W.vret hx hb hr (fun t ht hW => ⟨⟨u1, rfl, parts_3 hk hu1, tq_hp ht hP⟩, hS.F ht⟩) hS.2.2 dC_drawParts_78
  · have hk := (tm_k htm hd (by decide)).mp h9
    have hb2 := tm_2 htm hd hk
    refine lv_aload_n hx hb dC_drawParts_12 rfl (lv_at hl 0 rfl) ?_
    refine lv_iload_n hx hb dC_drawParts_13 rfl (lv_at hl 1 rfl) ?_
    refine lv_bipush (v := nI 6) hx hb dC_drawParts_14 (by decide +kernel) ?_
    refine lv_aload_n hx hb dC_drawParts_16 rfl (lv_at hl 0 rfl) ?_
    refine gf_C_11 (v := .ref (a 1)) hx hb hA hown hK hP 3 rfl rfl dC_drawParts_17 ?_
    refine lv_iload_n hx hb dC_drawParts_20 rfl (lv_at hl 2 rfl) ?_
    refine ks_rv ⟨hx, hb, hml, hown, hA⟩ (c_left l D a kI kL kZ u d (by omega)) (kw_C_164 hA rfl rfl ⟨Nat.le_trans (Nat.le_of_ble_eq_true rfl) hRf, Nat.le_trans (Nat.le_of_ble_eq_true rfl) hRl⟩) hK hP hS 1 1 rfl rfl rfl hl.1 (Nat.le_of_ble_eq_true rfl) ⟨by omega, by omega⟩ dC_drawParts_21 rfl (fun H locs hP hS => ?_)
    refine tq_i ((tm_2 htm hd hk).1) ?_
    refine ks_v (wf := sW a kI kL kZ) (u := u) ⟨hx, hb, hml, hown, hA⟩ (c_add l D a kI kL kZ u x 6 (fa d) (by omega) (by omega) (by omega)) (kw_C_94 hA rfl rfl ⟨Nat.le_trans (Nat.le_of_ble_eq_true rfl) hRf, Nat.le_trans (Nat.le_of_ble_eq_true rfl) hRl⟩) hK hP hD hS (fun _ h => h) (fun u' => sW_adr u') 3 3 rfl rfl rfl hl.1 (Nat.le_of_ble_eq_true rfl) ⟨by omega, by omega⟩ dC_drawParts_24 rfl (fun u2 H locs hu2 hP hD hS => ?_)
    refine lv_aload_n hx hb dC_drawParts_27 rfl (lv_at hl 0 rfl) ?_
    refine lv_iload_n hx hb dC_drawParts_28 rfl (lv_at hl 1 rfl) ?_
    refine lv_bipush (v := nI 6) hx hb dC_drawParts_29 (by decide +kernel) ?_
    refine lv_aload_n hx hb dC_drawParts_31 rfl (lv_at hl 0 rfl) ?_
    refine gf_C_11 (v := .ref (a 1)) hx hb hA hown hK hP 3 rfl rfl dC_drawParts_32 ?_
    refine lv_iload_n hx hb dC_drawParts_35 rfl (lv_at hl 2 rfl) ?_
    refine ks_rv ⟨hx, hb, hml, hown, hA⟩ (c_right l D a kI kL kZ u2 d (by omega)) (kw_C_167 hA rfl rfl ⟨Nat.le_trans (Nat.le_of_ble_eq_true rfl) hRf, Nat.le_trans (Nat.le_of_ble_eq_true rfl) hRl⟩) hK hP hS 1 1 rfl rfl rfl hl.1 (Nat.le_of_ble_eq_true rfl) ⟨by omega, by omega⟩ dC_drawParts_36 rfl (fun H locs hP hS => ?_)
    refine tq_i ((tm_2 (tm_ext htm hu2.1) hd hk).2.1) ?_
    refine ks_v (wf := sW a kI kL kZ) (u := u2) ⟨hx, hb, hml, hown, hA⟩ (c_add l D a kI kL kZ u2 x 6 (fb d) (by omega) (by omega) (by omega)) (kw_C_94 hA rfl rfl ⟨Nat.le_trans (Nat.le_of_ble_eq_true rfl) hRf, Nat.le_trans (Nat.le_of_ble_eq_true rfl) hRl⟩) hK hP hD hS (fun _ h => h) (fun u' => sW_adr u') 3 3 rfl rfl rfl hl.1 (Nat.le_of_ble_eq_true rfl) ⟨by omega, by omega⟩ dC_drawParts_39 rfl (fun u3 H locs hu3 hP hD hS => ?_)
    refine lv_goto hx hb dC_drawParts_42 (tgt := 78) (by decide) ?_
    subst hQe
    exact W.vret hx hb hr (fun t ht hW => ⟨⟨u3, rfl, parts_2 hk hu2 hu3, tq_hp ht hP⟩, hS.F ht⟩) hS.2.2 dC_drawParts_78
set_option maxHeartbeats 4000000 in
set_option maxRecDepth 100000 in
/-- c_drawBoths -/
theorem c_drawBoths (l : Launch) (D : va_G) (a : Nat → Nat) (kI kL kZ : ClassId) (u : sU) (N : Nat) (kd fa fb : Nat → Nat) (htm : s_tm u N kd fa fb) (htr : s_tr u) (x d : Nat) (hx1 : x < 160) (hd : d < N) : Met l yC_drawBoths (wC_drawBoths :: wA) ({ frames := 2, cells := 0, slots := 0, locals := 49 }) (va_Pc [.ref (a 3), .int (nI x), .int (nI d)] (tq_wB D vwA (sW a kI kL kZ u) (sT kI kL kZ))) (va_Qv (fun (u' : sU) => s_ext u u' ∧ s_snd u u' (s_bothR N kd fa fb x d) ∧ ∀ b, b < N → s_bothC u u' kd fa fb x d b) (fun u' t => va_P D vwA (sW a kI kL kZ u') t.heap) (sA a)) 0 0 (sA a) := by
  refine Met.ofW (cc := bC_drawBoths) (maxL := 5) (ret := none) (by decide +kernel) rfl ?_
  intro p e s m args below meth c s₁ B1 hml hv
  obtain ⟨rfl, hP, hK, hD0⟩ := hv
  have hx := B1.exec
  have hb := B1.bytes
  have hr := B1.returns
  have hA : ∀ w ∈ wA, w.before ([.ref (a 3), .int (nI x), .int (nI d)] : List Value).toArray s = true := fun w h => atoms_spec (ws := wC_drawBoths :: wA) B1.pre w (List.mem_cons_of_mem _ h)
  have hown : s.vm.findClass RcC = some m.cls := findClass_of_methodNamed B1.named
  have hlocks := B1.notSynchronized
  have hS : va_S (sA a) s.heap s.heap [] := va_S.rf
  have hl := lv_entry ([.ref (a 3), .int (nI x), .int (nI d)]) (n := 5) (Nat.le_of_ble_eq_true rfl)
  rw [lg_entry_eq]
  generalize (lg_sl ([.ref (a 3), .int (nI x), .int (nI d)]) ++ List.replicate (5 - (lg_sl ([.ref (a 3), .int (nI x), .int (nI d)])).length) Slot.unset).toArray = ls at hl ⊢
  have hl : lv_has ls 5 [(0, .ref (a 3)), (1, .int (nI x)), (2, .int (nI d))] := hl
  refine tq_gen (fun R Q hRe hQe => ?_)
  have hRf : 2 ≤ R.frames := by rw [hRe]; exact Nat.le_of_ble_eq_true rfl
  have hRl : 49 ≤ R.locals := by rw [hRe]; exact Nat.le_of_ble_eq_true rfl
  have hRc : 0 ≤ R.cells := by rw [hRe]; exact Nat.le_of_ble_eq_true rfl
  have hRs : 0 ≤ R.slots := by rw [hRe]; exact Nat.le_of_ble_eq_true rfl
  have hD := sA_D hD0
  have hN := tm_N htm
  refine lv_aload_n hx hb dC_drawBoths_0 rfl (lv_at hl 0 rfl) ?_
  refine gf_C_11 (v := .ref (a 1)) hx hb hA hown hK hP 3 rfl rfl dC_drawBoths_1 ?_
  refine gf_C_170 (v := .ref (a 28)) hx hb hA hown hK hP 1 rfl rfl dC_drawBoths_4 ?_
  refine lv_astore_n (lv' := [(3, .ref (a 28)), (0, .ref (a 3)), (1, .int (nI x)), (2, .int (nI d))]) hx hb dC_drawBoths_7 rfl hl (by decide) rfl (fun ls hl => ?_)
  refine lv_aload_n hx hb dC_drawBoths_8 rfl (lv_at hl 0 rfl) ?_
  refine lv_iload_n hx hb dC_drawBoths_9 rfl (lv_at hl 3 rfl) ?_
  refine lv_iconst (v := nI 0) hx hb dC_drawBoths_10 (by decide +kernel) ?_
  refine k_next ⟨hx, hb, hml, hown, hA⟩ (kw_C_69 hA rfl rfl ⟨Nat.le_trans (Nat.le_of_ble_eq_true rfl) hRf, Nat.le_trans (Nat.le_of_ble_eq_true rfl) hRl⟩) hK hP hS 28 29 1 rfl rfl rfl (by decide) (by omega) (by decide) (by decide) (by omega) (by omega) hl.1 (Nat.le_of_ble_eq_true rfl) ⟨by omega, by omega⟩ dC_drawBoths_11 (fun r1 H locs hr1 hP hS => ?_)
  refine lv_istore (lv' := [(4, .int (nI r1)), (3, .ref (a 28)), (0, .ref (a 3)), (1, .int (nI x)), (2, .int (nI d))]) hx hb dC_drawBoths_14 hl (by decide) rfl (fun ls hl => ?_)
  have lp : ∀ (fu : Nat) (r : Nat) (v : sU) (ls : Array Slot) (H : Heap) (locs : List Loc), s_ext u v → s_snd u v (s_bothR N kd fa fb x d) → (∀ b, b < r → b < 160 → u.1 7 d b = true → s_bothC u v kd fa fb x d b) → (r < 160 → u.1 7 d r = true) → r < 224 → va_P D vwA (sW a kI kL kZ v) H → va_D (sA a) (sW a kI kL kZ v) → va_S (sA a) s.heap H locs → 224 - r < fu → lv_has ls 5 [(4, .int (nI r)), (3, .ref (a 28)), (0, .ref (a 3)), (1, .int (nI x)), (2, .int (nI d))] → W p l e R s m ([.ref (a 3), .int (nI x), .int (nI d)] : List Value).toArray below meth c H locs 0 0 Q (F0 m 16 ls []) := by
    intro fu
    induction fu with
    | zero => intros; omega
    | succ fu ih16 =>
      intro r v ls H locs g1 g2 g3 g4 g5 hP hD hS hfu hl
      refine lv_iload hx hb dC_drawBoths_16 (lv_at hl 0 rfl) ?_
      refine lv_sipush (v := nI 160) hx hb dC_drawBoths_18 (by decide +kernel) ?_
      refine tq_ge hx hb dC_drawBoths_21 (tgt := 73) (by decide) (by omega) (by omega) (fun h21 => ?_) (fun h21 => ?_)
      · subst hQe
        exact W.vret hx hb hr (fun t ht hW => ⟨⟨v, rfl, ⟨g1, g2, fun b hb9 => ⟨fun a1 a2 a3 => (g3 b (by omega) (by omega) ((tm_b htm (by omega) (by omega)).mpr ⟨hb9, a1, Or.inl a2⟩)).1 a1 a2 a3, fun a1 a2 a3 => (g3 b (by omega) (by omega) ((tm_b htm (by omega) (by omega)).mpr ⟨hb9, a1, Or.inr a2⟩)).2 a1 a2 a3⟩⟩, tq_hp ht hP⟩, hS.F ht⟩) hS.2.2 dC_drawBoths_73
      · obtain ⟨hrN, hr2, hr3⟩ := (tm_b htm (by omega) h21).mp (g4 h21)
        have hb2 := tm_2 htm hrN hr2
        have hob : (if fa r = d then fb r else fa r) < 160 := by split <;> omega
        refine lv_aload_n hx hb dC_drawBoths_24 rfl (lv_at hl 2 rfl) ?_
        refine gf_C_24 (v := .ref (a 14)) hx hb hA hown hK hP 3 rfl rfl dC_drawBoths_25 ?_
        refine lv_iload_n hx hb dC_drawBoths_28 rfl (lv_at hl 3 rfl) ?_
        refine lv_bipush (v := nI 6) hx hb dC_drawBoths_29 (by decide +kernel) ?_
        refine ks_s ⟨hx, hb, hml, hown, hA⟩ (c_row l x 6) (kw_C_57 hA rfl rfl ⟨Nat.le_trans (Nat.le_of_ble_eq_true rfl) hRf, Nat.le_trans (Nat.le_of_ble_eq_true rfl) hRl⟩) hP hS rfl hl.1 (Nat.le_of_ble_eq_true rfl) ⟨by omega, by omega⟩ dC_drawBoths_31 rfl (fun H locs hP hS => ?_)
        refine lv_aload_n hx hb dC_drawBoths_34 rfl (lv_at hl 2 rfl) ?_
        refine gf_C_11 (v := .ref (a 1)) hx hb hA hown hK hP 3 rfl rfl dC_drawBoths_35 ?_
        refine lv_iload hx hb dC_drawBoths_38 (lv_at hl 0 rfl) ?_
        refine lv_iload_n hx hb dC_drawBoths_40 rfl (lv_at hl 4 rfl) ?_
        refine ks_rv ⟨hx, hb, hml, hown, hA⟩ (c_otherPart l D a kI kL kZ v r d (by omega)) (kw_C_173 hA rfl rfl ⟨Nat.le_trans (Nat.le_of_ble_eq_true rfl) hRf, Nat.le_trans (Nat.le_of_ble_eq_true rfl) hRl⟩) hK hP hS 1 1 rfl rfl rfl hl.1 (Nat.le_of_ble_eq_true rfl) ⟨by omega, by omega⟩ dC_drawBoths_41 rfl (fun H locs hP hS => ?_)
        refine tq_i (tm_o (tm_ext htm g1) hrN hr2 (by omega)) ?_
        refine k_holds ⟨hx, hb, hml, hown, hA⟩ (kw_C_61 hA rfl rfl ⟨Nat.le_trans (Nat.le_of_ble_eq_true rfl) hRf, Nat.le_trans (Nat.le_of_ble_eq_true rfl) hRl⟩) hK hP hS 14 15 1 rfl rfl rfl (by omega) (by omega) (by decide) (by decide) hl.1 (Nat.le_of_ble_eq_true rfl) ⟨by omega, by omega⟩ dC_drawBoths_44 (fun H locs hP hS => ?_)
        refine tq_bf hx hb dC_drawBoths_47 (tgt := 59) (by decide) (fun h47 => ?_) (fun h47 => ?_)
        · refine lv_aload_n hx hb dC_drawBoths_59 rfl (lv_at hl 1 rfl) ?_
          refine lv_iload_n hx hb dC_drawBoths_60 rfl (lv_at hl 4 rfl) ?_
          refine lv_iload hx hb dC_drawBoths_61 (lv_at hl 0 rfl) ?_
          refine lv_iconst (v := nI 1) hx hb dC_drawBoths_63 (by decide +kernel) ?_
          refine tq_iadd hx hb dC_drawBoths_64 ?_
          refine k_next ⟨hx, hb, hml, hown, hA⟩ (kw_C_69 hA rfl rfl ⟨Nat.le_trans (Nat.le_of_ble_eq_true rfl) hRf, Nat.le_trans (Nat.le_of_ble_eq_true rfl) hRl⟩) hK hP hS 28 29 1 rfl rfl rfl (by decide) (by omega) (by decide) (by decide) (by omega) (by omega) hl.1 (Nat.le_of_ble_eq_true rfl) ⟨by omega, by omega⟩ dC_drawBoths_65 (fun r2 H locs hr2 hP hS => ?_)
          refine lv_istore (lv' := [(4, .int (nI r2)), (3, .ref (a 28)), (0, .ref (a 3)), (1, .int (nI x)), (2, .int (nI d))]) hx hb dC_drawBoths_68 hl (by decide) rfl (fun ls hl => ?_)
          refine lv_goto hx hb dC_drawBoths_70 (tgt := 16) (by decide) ?_
          rw [g1.2.2.2.2.2.1 7 (by decide)] at hr2
          have hge := hr2.1
          have hlt := hr2.2.1
          exact ih16 r2 v ls H locs g1 g2 (tm_nx_step g3 (bothC_no g1 h47) hr2) hr2.2.2.2 (by omega) hP hD hS (by omega) (lv_sub hl [0, 1, 2, 3, 4] rfl)
        · refine lv_aload_n hx hb dC_drawBoths_50 rfl (lv_at hl 2 rfl) ?_
          refine lv_iload_n hx hb dC_drawBoths_51 rfl (lv_at hl 3 rfl) ?_
          refine lv_bipush (v := nI 6) hx hb dC_drawBoths_52 (by decide +kernel) ?_
          refine lv_iload hx hb dC_drawBoths_54 (lv_at hl 0 rfl) ?_
          refine ks_v (wf := sW a kI kL kZ) (u := v) ⟨hx, hb, hml, hown, hA⟩ (c_add l D a kI kL kZ v x 6 r (by omega) (by omega) (by omega)) (kw_C_94 hA rfl rfl ⟨Nat.le_trans (Nat.le_of_ble_eq_true rfl) hRf, Nat.le_trans (Nat.le_of_ble_eq_true rfl) hRl⟩) hK hP hD hS (fun _ h => h) (fun u' => sW_adr u') 3 3 rfl rfl rfl hl.1 (Nat.le_of_ble_eq_true rfl) ⟨by omega, by omega⟩ dC_drawBoths_56 rfl (fun u3 H locs hu3 hP hD hS => ?_)
          refine lv_aload_n hx hb dC_drawBoths_59 rfl (lv_at hl 1 rfl) ?_
          refine lv_iload_n hx hb dC_drawBoths_60 rfl (lv_at hl 4 rfl) ?_
          refine lv_iload hx hb dC_drawBoths_61 (lv_at hl 0 rfl) ?_
          refine lv_iconst (v := nI 1) hx hb dC_drawBoths_63 (by decide +kernel) ?_
          refine tq_iadd hx hb dC_drawBoths_64 ?_
          refine k_next ⟨hx, hb, hml, hown, hA⟩ (kw_C_69 hA rfl rfl ⟨Nat.le_trans (Nat.le_of_ble_eq_true rfl) hRf, Nat.le_trans (Nat.le_of_ble_eq_true rfl) hRl⟩) hK hP hS 28 29 1 rfl rfl rfl (by decide) (by omega) (by decide) (by decide) (by omega) (by omega) hl.1 (Nat.le_of_ble_eq_true rfl) ⟨by omega, by omega⟩ dC_drawBoths_65 (fun r4 H locs hr4 hP hS => ?_)
          refine lv_istore (lv' := [(4, .int (nI r4)), (3, .ref (a 28)), (0, .ref (a 3)), (1, .int (nI x)), (2, .int (nI d))]) hx hb dC_drawBoths_68 hl (by decide) rfl (fun ls hl => ?_)
          refine lv_goto hx hb dC_drawBoths_70 (tgt := 16) (by decide) ?_
          rw [(ext_trans g1 hu3.1).2.2.2.2.2.1 7 (by decide)] at hr4
          have hge := hr4.1
          have hlt := hr4.2.1
          exact ih16 r4 u3 ls H locs (ext_trans g1 hu3.1) (snd_fact g2 hu3 (fun G h1 h2 => h2 r hrN hr2 (both_G hr3 (h1 _ _ h47)))) (tm_nx_step (fun b a1 a2 a3 => bothC_mono (g3 b a1 a2 a3) hu3.1) (bothC_yes ((hu3.2 _ _).mpr (Or.inr ⟨rfl, rfl⟩))) hr4) hr4.2.2.2 (by omega) hP hD hS (by omega) (lv_sub hl [0, 1, 2, 3, 4] rfl)
  exact lp _ r1 u ls _ _ (ext_refl u) snd_refl (tm_nx_first hr1) hr1.2.2.2 (by have := hr1.2.1; omega) hP hD hS (Nat.lt_succ_self _) (lv_sub hl [0, 1, 2, 3, 4] rfl)
set_option maxHeartbeats 4000000 in
set_option maxRecDepth 100000 in
/-- c_drawSomes -/
theorem c_drawSomes (l : Launch) (D : va_G) (a : Nat → Nat) (kI kL kZ : ClassId) (u : sU) (N : Nat) (kd fa fb : Nat → Nat) (htm : s_tm u N kd fa fb) (htr : s_tr u) (x d : Nat) (hx1 : x < 160) (hd : d < N) : Met l yC_drawSomes (wC_drawSomes :: wA) ({ frames := 3, cells := 0, slots := 0, locals := 74 }) (va_Pc [.ref (a 3), .int (nI x), .int (nI d)] (tq_wB D vwA (sW a kI kL kZ u) (sT kI kL kZ))) (va_Qv (fun (u' : sU) => s_ext u u' ∧ s_somes u u' N kd fa fb x d 6) (fun u' t => va_P D vwA (sW a kI kL kZ u') t.heap) (sA a)) 0 0 (sA a) := by
  refine Met.ofW (cc := bC_drawSomes) (maxL := 5) (ret := none) (by decide +kernel) rfl ?_
  intro p e s m args below meth c s₁ B1 hml hv
  obtain ⟨rfl, hP, hK, hD0⟩ := hv
  have hx := B1.exec
  have hb := B1.bytes
  have hr := B1.returns
  have hA : ∀ w ∈ wA, w.before ([.ref (a 3), .int (nI x), .int (nI d)] : List Value).toArray s = true := fun w h => atoms_spec (ws := wC_drawSomes :: wA) B1.pre w (List.mem_cons_of_mem _ h)
  have hown : s.vm.findClass RcC = some m.cls := findClass_of_methodNamed B1.named
  have hlocks := B1.notSynchronized
  have hS : va_S (sA a) s.heap s.heap [] := va_S.rf
  have hl := lv_entry ([.ref (a 3), .int (nI x), .int (nI d)]) (n := 5) (Nat.le_of_ble_eq_true rfl)
  rw [lg_entry_eq]
  generalize (lg_sl ([.ref (a 3), .int (nI x), .int (nI d)]) ++ List.replicate (5 - (lg_sl ([.ref (a 3), .int (nI x), .int (nI d)])).length) Slot.unset).toArray = ls at hl ⊢
  have hl : lv_has ls 5 [(0, .ref (a 3)), (1, .int (nI x)), (2, .int (nI d))] := hl
  refine tq_gen (fun R Q hRe hQe => ?_)
  have hRf : 3 ≤ R.frames := by rw [hRe]; exact Nat.le_of_ble_eq_true rfl
  have hRl : 74 ≤ R.locals := by rw [hRe]; exact Nat.le_of_ble_eq_true rfl
  have hRc : 0 ≤ R.cells := by rw [hRe]; exact Nat.le_of_ble_eq_true rfl
  have hRs : 0 ≤ R.slots := by rw [hRe]; exact Nat.le_of_ble_eq_true rfl
  have hD := sA_D hD0
  have hN := tm_N htm
  refine lv_iconst (v := nI 0) hx hb dC_drawSomes_0 (by decide +kernel) ?_
  refine lv_istore_n (lv' := [(3, .int (nI 0)), (0, .ref (a 3)), (1, .int (nI x)), (2, .int (nI d))]) hx hb dC_drawSomes_1 rfl hl (by decide) rfl (fun ls hl => ?_)
  have lp : ∀ (fu : Nat) (n : Nat) (v : sU) (ls : Array Slot) (H : Heap) (locs : List Loc), s_ext u v → s_somes u v N kd fa fb x d n → n ≤ 6 → va_P D vwA (sW a kI kL kZ v) H → va_D (sA a) (sW a kI kL kZ v) → va_S (sA a) s.heap H locs → 6 - n < fu → lv_has ls 5 [(3, .int (nI n)), (0, .ref (a 3)), (1, .int (nI x)), (2, .int (nI d))] → W p l e R s m ([.ref (a 3), .int (nI x), .int (nI d)] : List Value).toArray below meth c H locs 0 0 Q (F0 m 2 ls []) := by
    intro fu
    induction fu with
    | zero => intros; omega
    | succ fu ih2 =>
      intro n v ls H locs g1 g2 g3 hP hD hS hfu hl
      refine lv_iload_n hx hb dC_drawSomes_2 rfl (lv_at hl 0 rfl) ?_
      refine lv_bipush (v := nI 6) hx hb dC_drawSomes_3 (by decide +kernel) ?_
      refine tq_ge hx hb dC_drawSomes_5 (tgt := 44) (by decide) (by omega) (by omega) (fun h5 => ?_) (fun h5 => ?_)
      · subst hQe
        exact W.vret hx hb hr (fun t ht hW => ⟨⟨v, rfl, by rw [show 6 = n by omega]; exact ⟨g1, g2⟩, tq_hp ht hP⟩, hS.F ht⟩) hS.2.2 dC_drawSomes_44
      · refine lv_aload_n hx hb dC_drawSomes_8 rfl (lv_at hl 1 rfl) ?_
        refine gf_C_11 (v := .ref (a 1)) hx hb hA hown hK hP 3 rfl rfl dC_drawSomes_9 ?_
        refine lv_iload_n hx hb dC_drawSomes_12 rfl (lv_at hl 0 rfl) ?_
        refine lv_iload_n hx hb dC_drawSomes_13 rfl (lv_at hl 3 rfl) ?_
        refine ks_rv ⟨hx, hb, hml, hown, hA⟩ (c_findSome l D a kI kL kZ v n d (by omega) (by omega)) (kw_C_176 hA rfl rfl ⟨Nat.le_trans (Nat.le_of_ble_eq_true rfl) hRf, Nat.le_trans (Nat.le_of_ble_eq_true rfl) hRl⟩) hK hP hS 1 1 rfl rfl rfl hl.1 (Nat.le_of_ble_eq_true rfl) ⟨by omega, by omega⟩ dC_drawSomes_14 rfl (fun H locs hP hS => ?_)
        refine lv_istore (lv' := [(4, .int ((v.2.1 3) (n * 160 + d))), (3, .int (nI n)), (0, .ref (a 3)), (1, .int (nI x)), (2, .int (nI d))]) hx hb dC_drawSomes_17 hl (by decide) rfl (fun ls hl => ?_)
        refine lv_iload hx hb dC_drawSomes_19 (lv_at hl 0 rfl) ?_
        refine lv_iconst (v := (-1)) hx hb dC_drawSomes_21 (by decide +kernel) ?_
        refine lv_icmp_eq hx hb dC_drawSomes_22 (tgt := 38) (by decide) (fun h22 => ?_) (fun h22 => ?_)
        · refine lv_iinc (k := 1) (lv' := [(3, .int (nI (n + 1))), (4, .int ((v.2.1 3) (n * 160 + d))), (0, .ref (a 3)), (1, .int (nI x)), (2, .int (nI d))]) hx hb dC_drawSomes_38 hl rfl (nI_1 _) (by decide) rfl (fun ls hl => ?_)
          refine lv_goto hx hb dC_drawSomes_41 (tgt := 2) (by decide) ?_
          rcases tm_s (tm_ext htm g1) h5 (show d < 160 by omega) with ⟨_, z2⟩ | ⟨k, hkN, _, _, _, hke⟩
          · exact ih2 (n + 1) v ls H locs g1 (somes_no g2 z2) (by omega) hP hD hS (by omega) (lv_sub hl [0, 2, 3, 4] rfl)
          exact ih2 (n + 1) v ls H locs g1 (absurd (hke.symm.trans h22) (tm_m1 (by omega))) (by omega) hP hD hS (by omega) (lv_sub hl [0, 2, 3, 4] rfl)
        · rcases tm_s (tm_ext htm g1) h5 (show d < 160 by omega) with ⟨z1, _⟩ | ⟨k, hkN, hk3, hka, hkb, hke⟩
          · exact absurd z1 h22
          rw [hke] at hl
          refine lv_aload_n hx hb dC_drawSomes_25 rfl (lv_at hl 2 rfl) ?_
          refine lv_iload_n hx hb dC_drawSomes_26 rfl (lv_at hl 3 rfl) ?_
          refine lv_iload_n hx hb dC_drawSomes_27 rfl (lv_at hl 1 rfl) ?_
          refine ks_s ⟨hx, hb, hml, hown, hA⟩ (c_row l x n) (kw_C_57 hA rfl rfl ⟨Nat.le_trans (Nat.le_of_ble_eq_true rfl) hRf, Nat.le_trans (Nat.le_of_ble_eq_true rfl) hRl⟩) hP hS rfl hl.1 (Nat.le_of_ble_eq_true rfl) ⟨by omega, by omega⟩ dC_drawSomes_28 rfl (fun H locs hP hS => ?_)
          refine lv_bipush (v := nI 6) hx hb dC_drawSomes_31 (by decide +kernel) ?_
          refine lv_iload hx hb dC_drawSomes_33 (lv_at hl 0 rfl) ?_
          refine ks_v (wf := sW a kI kL kZ) (u := v) ⟨hx, hb, hml, hown, hA⟩ (c_addFromAll l D a kI kL kZ v x n 6 k (tr_ext htr g1) (by omega) (by omega) (by omega) (by omega)) (kw_C_113 hA rfl rfl ⟨Nat.le_trans (Nat.le_of_ble_eq_true rfl) hRf, Nat.le_trans (Nat.le_of_ble_eq_true rfl) hRl⟩) hK hP hD hS (fun _ h => h) (fun u' => sW_adr u') 3 3 rfl rfl rfl hl.1 (Nat.le_of_ble_eq_true rfl) ⟨by omega, by omega⟩ dC_drawSomes_35 rfl (fun u1 H locs hu1 hP hD hS => ?_)
          refine lv_iinc (k := 1) (lv' := [(3, .int (nI (n + 1))), (4, .int (nI k)), (0, .ref (a 3)), (1, .int (nI x)), (2, .int (nI d))]) hx hb dC_drawSomes_38 hl rfl (nI_1 _) (by decide) rfl (fun ls hl => ?_)
          refine lv_goto hx hb dC_drawSomes_41 (tgt := 2) (by decide) ?_
          exact ih2 (n + 1) u1 ls H locs (ext_trans g1 hu1.1) (somes_s htm hx1 h5 g1 g2 hkN hk3 hka hkb hu1.2) (by omega) hP hD hS (by omega) (lv_sub hl [0, 2, 3, 4] rfl)
  exact lp _ 0 u ls _ _ (ext_refl u) (somes_0 u N kd fa fb x d) (by omega) hP hD hS (Nat.lt_succ_self _) (lv_sub hl [0, 1, 2, 3] rfl)
