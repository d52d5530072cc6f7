/-! The model: drawing what follows. Written by wip/whole/gen/genM3.py. -/
def m_cC (B : Nat → Nat → Nat → Bool) (x r q t y : Nat) : Prop := B 2 (160 * r + x) y = true → ∀ z, B 2 (160 * q + y) z = true → B 2 (160 * t + x) z = true
set_option maxHeartbeats 4000000 in
set_option maxRecDepth 100000 in
/-- m_byChain -/
theorem m_byChain (l : Launch) (D : va_G) (a : Nat → Nat) (kI kL kZ : ClassId) (u : sU) (N : Nat) (kd fa fb : Nat → Nat) (T : Nat) (so xa xb xc : Nat → Nat) (hta : m_tab u N kd fa fb T so xa xb xc) (U : Nat → Prop) (hu9 : m_use u T U) (ho : m_ok u N kd fa fb so xa xb xc U) (hm4 : u.2.2 4 ≤ 1) (x r q t : Nat) (hx0 : x < N) (hr6 : r < 6) (hq6 : q < 6) (ht6 : t < 6) (hTC : x_TC so xa xb xc U r q t) : Met l yM_byChain (wM_byChain :: wA) ({ frames := 1, cells := 0, slots := 0, locals := 25 }) (va_Pc [.ref (a 0), .int (nI x), .int (nI r), .int (nI q), .int (nI t)] (tq_wB D vwA (mW a kI kL kZ u) (sT kI kL kZ))) (va_Qv (fun (u' : sU) => m_ext u u' ∧ m_ok u' N kd fa fb so xa xb xc U ∧ (u'.1 = u.1 → ∀ y, y < N → m_cC u.1 x r q t y)) (fun u' t => va_P D vwA (mW a kI kL kZ u') t.heap) (mA a)) 0 0 (mA a) := by
  refine Met.ofW (cc := bM_byChain) (maxL := 6) (ret := none) (by decide +kernel) rfl ?_
  intro p e s m args below meth c s₁ B1 hml hv
  obtain ⟨rfl, hP, hK, hD0⟩ := hv
  have hx := B1.exec
  have hb := B1.bytes
  have hr := B1.returns
  have hA : ∀ w ∈ wA, w.before ([.ref (a 0), .int (nI x), .int (nI r), .int (nI q), .int (nI t)] : List Value).toArray s = true := fun w h => atoms_spec (ws := wM_byChain :: wA) B1.pre w (List.mem_cons_of_mem _ h)
  have hown : s.vm.findClass RcM = some m.cls := findClass_of_methodNamed B1.named
  have hlocks := B1.notSynchronized
  have hS : va_S (mA a) s.heap s.heap [] := va_S.rf
  have hl := lv_entry ([.ref (a 0), .int (nI x), .int (nI r), .int (nI q), .int (nI t)]) (n := 6) (Nat.le_of_ble_eq_true rfl)
  rw [lg_entry_eq]
  generalize (lg_sl ([.ref (a 0), .int (nI x), .int (nI r), .int (nI q), .int (nI t)]) ++ List.replicate (6 - (lg_sl ([.ref (a 0), .int (nI x), .int (nI r), .int (nI q), .int (nI t)])).length) Slot.unset).toArray = ls at hl ⊢
  have hl : lv_has ls 6 [(0, .ref (a 0)), (1, .int (nI x)), (2, .int (nI r)), (3, .int (nI q)), (4, .int (nI t))] := hl
  refine tq_gen (fun R Q hRe hQe => ?_)
  have hRf : 1 ≤ R.frames := by rw [hRe]; exact Nat.le_of_ble_eq_true rfl
  have hRl : 25 ≤ R.locals := by rw [hRe]; exact Nat.le_of_ble_eq_true rfl
  have hRc : 0 ≤ R.cells := by rw [hRe]; exact Nat.le_of_ble_eq_true rfl
  have hRs : 0 ≤ R.slots := by rw [hRe]; exact Nat.le_of_ble_eq_true rfl
  have hD := mA_D hD0
  have hN := mt_N hta
  refine lv_iconst (v := nI 0) hx hb dM_byChain_0 (by decide +kernel) ?_
  refine lv_istore (lv' := [(5, .int (nI 0)), (0, .ref (a 0)), (1, .int (nI x)), (2, .int (nI r)), (3, .int (nI q)), (4, .int (nI t))]) hx hb dM_byChain_1 hl (by decide) rfl (fun ls hl => ?_)
  have lp : ∀ (fu : Nat) (n : Nat) (v : sU) (ls : Array Slot) (H : Heap) (locs : List Loc), m_ext u v → m_ok v N kd fa fb so xa xb xc U → (v.1 = u.1 → ∀ k, 0 ≤ k → k < n → m_cC u.1 x r q t k) → n ≤ N → va_P D vwA (mW a kI kL kZ v) H → va_D (mA a) (mW a kI kL kZ v) → va_S (mA a) s.heap H locs → N - n < fu → lv_has ls 6 [(5, .int (nI n)), (0, .ref (a 0)), (1, .int (nI x)), (2, .int (nI r)), (3, .int (nI q)), (4, .int (nI t))] → W p l e R s m ([.ref (a 0), .int (nI x), .int (nI r), .int (nI q), .int (nI t)] : List Value).toArray below meth c H locs 0 0 Q (F0 m 3 ls []) := by
    intro fu
    induction fu with
    | zero => intros; omega
    | succ fu ih3 =>
      intro n v ls H locs g1 g2 g3 g4 hP hD hS hfu hl
      have htv := me_tab hta g1
      have hv := mt_N htv
      have hv4 := me_4 g1 hm4
      have huv := me_use hu9 g1
      refine lv_iload hx hb dM_byChain_3 (lv_at hl 0 rfl) ?_
      refine lv_aload_n hx hb dM_byChain_5 rfl (lv_at hl 1 rfl) ?_
      refine gf_M_7 (v := .int (nI (v.2.2 1))) hx hb hA hown hK hP 0 rfl rfl dM_byChain_6 ?_
      refine tq_ge hx hb dM_byChain_9 (tgt := 51) (by decide) (by omega) (by omega) (fun h9 => ?_) (fun h9 => ?_)
      · subst hQe
        exact W.vret hx hb hr (fun t ht hW => ⟨⟨v, rfl, ⟨g1, g2, fun e y hy => g3 e y (Nat.zero_le _) (by omega)⟩, tq_hp ht hP⟩, hS.F ht⟩) hS.2.2 dM_byChain_51
      · refine lv_aload_n hx hb dM_byChain_12 rfl (lv_at hl 1 rfl) ?_
        refine gf_M_49 (v := .ref (a 12)) hx hb hA hown hK hP 0 rfl rfl dM_byChain_13 ?_
        refine lv_iload_n hx hb dM_byChain_16 rfl (lv_at hl 3 rfl) ?_
        refine lv_iload_n hx hb dM_byChain_17 rfl (lv_at hl 2 rfl) ?_
        refine ks_s ⟨hx, hb, hml, hown, hA⟩ (m_row l r x) (kw_M_95 hA rfl rfl ⟨Nat.le_trans (Nat.le_of_ble_eq_true rfl) hRf, Nat.le_trans (Nat.le_of_ble_eq_true rfl) hRl⟩) hP hS rfl hl.1 (Nat.le_of_ble_eq_true rfl) ⟨by omega, by omega⟩ dM_byChain_18 rfl (fun H locs hP hS => ?_)
        refine lv_iload hx hb dM_byChain_21 (lv_at hl 0 rfl) ?_
        refine k_in ⟨hx, hb, hml, hown, hA⟩ (kw_M_84 hA rfl rfl ⟨Nat.le_trans (Nat.le_of_ble_eq_true rfl) hRf, Nat.le_trans (Nat.le_of_ble_eq_true rfl) hRl⟩) hK hP hS 12 1 rfl rfl (by omega) (by omega) (by decide) hl.1 (Nat.le_of_ble_eq_true rfl) ⟨by omega, by omega⟩ dM_byChain_23 (fun H locs hP hS => ?_)
        refine tq_bf hx hb dM_byChain_26 (tgt := 45) (by decide) (fun h26 => ?_) (fun h26 => ?_)
        · have hstep : m_ext v v ∧ m_ok v N kd fa fb so xa xb xc U ∧ (v.1 = v.1 → m_cC v.1 x r q t n) := ⟨me_refl v, g2, fun _ z => absurd z (by rw [h26]; decide)⟩
          refine lv_iinc (k := 0) (lv' := [(5, .int (nI (n + 1))), (0, .ref (a 0)), (1, .int (nI x)), (2, .int (nI r)), (3, .int (nI q)), (4, .int (nI t))]) hx hb dM_byChain_45 hl rfl (nI_1 _) (by decide) rfl (fun ls hl => ?_)
          refine lv_goto hx hb dM_byChain_48 (tgt := 3) (by decide) ?_
          exact ih3 (n + 1) v ls H locs (me_trans g1 hstep.1) hstep.2.1 (pass_s (C := fun B y => m_cC B x r q t y) g1 hstep.1 g3 hstep.2.2) (by omega) hP hD hS (by omega) (lv_sub hl [0, 1, 2, 3, 4, 5] rfl)
        · refine lv_aload_n hx hb dM_byChain_29 rfl (lv_at hl 1 rfl) ?_
          refine lv_iload hx hb dM_byChain_30 (lv_at hl 5 rfl) ?_
          refine lv_iload_n hx hb dM_byChain_32 rfl (lv_at hl 2 rfl) ?_
          refine ks_s ⟨hx, hb, hml, hown, hA⟩ (m_row l t x) (kw_M_95 hA rfl rfl ⟨Nat.le_trans (Nat.le_of_ble_eq_true rfl) hRf, Nat.le_trans (Nat.le_of_ble_eq_true rfl) hRl⟩) hP hS rfl hl.1 (Nat.le_of_ble_eq_true rfl) ⟨by omega, by omega⟩ dM_byChain_33 rfl (fun H locs hP hS => ?_)
          refine lv_iload_n hx hb dM_byChain_36 rfl (lv_at hl 4 rfl) ?_
          refine lv_iload hx hb dM_byChain_37 (lv_at hl 0 rfl) ?_
          refine ks_s ⟨hx, hb, hml, hown, hA⟩ (m_row l q n) (kw_M_95 hA rfl rfl ⟨Nat.le_trans (Nat.le_of_ble_eq_true rfl) hRf, Nat.le_trans (Nat.le_of_ble_eq_true rfl) hRl⟩) hP hS rfl hl.1 (Nat.le_of_ble_eq_true rfl) ⟨by omega, by omega⟩ dM_byChain_39 rfl (fun H locs hP hS => ?_)
          refine ks_v (wf := mW a kI kL kZ) (u := v) ⟨hx, hb, hml, hown, hA⟩ (m_join0 l D a kI kL kZ v (160 * t + x) (160 * q + n) (by omega) (by omega) hv4) (kw_M_99 hA rfl rfl ⟨Nat.le_trans (Nat.le_of_ble_eq_true rfl) hRf, Nat.le_trans (Nat.le_of_ble_eq_true rfl) hRl⟩) hK hP hD hS (fun _ h => h) (fun u' => mW_adr u') 0 5 rfl rfl rfl hl.1 (Nat.le_of_ble_eq_true rfl) ⟨by omega, by omega⟩ dM_byChain_42 rfl (fun u1 H locs hu1 hP hD hS => ?_)
          have hj := join_of (r := t) hu1 ht6 hx0 hN.2.2.1 g2 (fun y hy => ru_TC hTC (mo_l g2 (by omega) h26).2.2.2 (mo_l g2 (by omega) hy).2.2.2)
          have hstep : m_ext v u1 ∧ m_ok u1 N kd fa fb so xa xb xc U ∧ (u1.1 = v.1 → m_cC v.1 x r q t n) := ⟨hj.1, hj.2.1, fun e _ => hj.2.2 e⟩
          refine lv_iinc (k := 0) (lv' := [(5, .int (nI (n + 1))), (0, .ref (a 0)), (1, .int (nI x)), (2, .int (nI r)), (3, .int (nI q)), (4, .int (nI t))]) hx hb dM_byChain_45 hl rfl (nI_1 _) (by decide) rfl (fun ls hl => ?_)
          refine lv_goto hx hb dM_byChain_48 (tgt := 3) (by decide) ?_
          exact ih3 (n + 1) u1 ls H locs (me_trans g1 hstep.1) hstep.2.1 (pass_s (C := fun B y => m_cC B x r q t y) g1 hstep.1 g3 hstep.2.2) (by omega) hP hD hS (by omega) (lv_sub hl [0, 1, 2, 3, 4, 5] rfl)
  exact lp _ 0 u ls _ _ (me_refl u) ho (fun _ k _ z => absurd z (Nat.not_lt_zero k)) (by omega) hP hD hS (Nat.lt_succ_self _) (lv_sub hl [0, 1, 2, 3, 4, 5] rfl)
set_option maxHeartbeats 4000000 in
set_option maxRecDepth 100000 in
/-- m_byAxioms -/
theorem m_byAxioms (l : Launch) (D : va_G) (a : Nat → Nat) (kI kL kZ : ClassId) (u : sU) (N : Nat) (kd fa fb : Nat → Nat) (T : Nat) (so xa xb xc : Nat → Nat) (hta : m_tab u N kd fa fb T so xa xb xc) (U : Nat → Prop) (hu9 : m_use u T U) (ho : m_ok u N kd fa fb so xa xb xc U) (hm4 : u.2.2 4 ≤ 1) (x : Nat) (hx0 : x < N) : Met l yM_byAxioms (wM_byAxioms :: wA) ({ frames := 2, cells := 0, slots := 0, locals := 50 }) (va_Pc [.ref (a 0), .int (nI x)] (tq_wB D vwA (mW a kI kL kZ u) (sT kI kL kZ))) (va_Qv (fun (u' : sU) => m_ext u u' ∧ m_ok u' N kd fa fb so xa xb xc U ∧ (u'.1 = u.1 → ∀ k, U k → m_cA u.1 so xa xb xc x k)) (fun u' t => va_P D vwA (mW a kI kL kZ u') t.heap) (mA a)) 0 0 (mA a) := by
  refine Met.ofW (cc := bM_byAxioms) (maxL := 5) (ret := none) (by decide +kernel) rfl ?_
  intro p e s m args below meth c s₁ B1 hml hv
  obtain ⟨rfl, hP, hK, hD0⟩ := hv
  have hx := B1.exec
  have hb := B1.bytes
  have hr := B1.returns
  have hA : ∀ w ∈ wA, w.before ([.ref (a 0), .int (nI x)] : List Value).toArray s = true := fun w h => atoms_spec (ws := wM_byAxioms :: wA) B1.pre w (List.mem_cons_of_mem _ h)
  have hown : s.vm.findClass RcM = some m.cls := findClass_of_methodNamed B1.named
  have hlocks := B1.notSynchronized
  have hS : va_S (mA a) s.heap s.heap [] := va_S.rf
  have hl := lv_entry ([.ref (a 0), .int (nI x)]) (n := 5) (Nat.le_of_ble_eq_true rfl)
  rw [lg_entry_eq]
  generalize (lg_sl ([.ref (a 0), .int (nI x)]) ++ List.replicate (5 - (lg_sl ([.ref (a 0), .int (nI x)])).length) Slot.unset).toArray = ls at hl ⊢
  have hl : lv_has ls 5 [(0, .ref (a 0)), (1, .int (nI x))] := hl
  refine tq_gen (fun R Q hRe hQe => ?_)
  have hRf : 2 ≤ R.frames := by rw [hRe]; exact Nat.le_of_ble_eq_true rfl
  have hRl : 50 ≤ R.locals := by rw [hRe]; exact Nat.le_of_ble_eq_true rfl
  have hRc : 0 ≤ R.cells := by rw [hRe]; exact Nat.le_of_ble_eq_true rfl
  have hRs : 0 ≤ R.slots := by rw [hRe]; exact Nat.le_of_ble_eq_true rfl
  have hD := mA_D hD0
  have hN := mt_N hta
  refine lv_iconst (v := nI 1) hx hb dM_byAxioms_0 (by decide +kernel) ?_
  refine lv_istore_n (lv' := [(2, .int (nI 1)), (0, .ref (a 0)), (1, .int (nI x))]) hx hb dM_byAxioms_1 rfl hl (by decide) rfl (fun ls hl => ?_)
  have lp : ∀ (fu : Nat) (n : Nat) (v : sU) (ls : Array Slot) (H : Heap) (locs : List Loc), m_ext u v → m_ok v N kd fa fb so xa xb xc U → (v.1 = u.1 → ∀ k, 1 ≤ k → k < n → U k → m_cA u.1 so xa xb xc x k) → 1 ≤ n → n ≤ T + 1 → va_P D vwA (mW a kI kL kZ v) H → va_D (mA a) (mW a kI kL kZ v) → va_S (mA a) s.heap H locs → T + 1 - n < fu → lv_has ls 5 [(2, .int (nI n)), (0, .ref (a 0)), (1, .int (nI x))] → W p l e R s m ([.ref (a 0), .int (nI x)] : List Value).toArray below meth c H locs 0 0 Q (F0 m 2 ls []) := by
    intro fu
    induction fu with
    | zero => intros; omega
    | succ fu ih2 =>
      intro n v ls H locs g1 g2 g3 g4 g5 hP hD hS hfu hl
      have htv := me_tab hta g1
      have hv := mt_N htv
      have hv4 := me_4 g1 hm4
      have huv := me_use hu9 g1
      refine lv_iload_n hx hb dM_byAxioms_2 rfl (lv_at hl 0 rfl) ?_
      refine lv_aload_n hx hb dM_byAxioms_3 rfl (lv_at hl 1 rfl) ?_
      refine gf_M_77 (v := .int (nI (v.2.2 2))) hx hb hA hown hK hP 0 rfl rfl dM_byAxioms_4 ?_
      refine tq_gt hx hb dM_byAxioms_7 (tgt := 146) (by decide) (by omega) (by omega) (fun h7 => ?_) (fun h7 => ?_)
      · subst hQe
        exact W.vret hx hb hr (fun t ht hW => ⟨⟨v, rfl, ⟨g1, g2, fun e k z => g3 e k (hu9.1 k z).1 (by have := (hu9.1 k z).2; omega) z⟩, tq_hp ht hP⟩, hS.F ht⟩) hS.2.2 dM_byAxioms_146
      · refine lv_aload_n hx hb dM_byAxioms_10 rfl (lv_at hl 1 rfl) ?_
        refine gf_M_39 (v := .ref (a 9)) hx hb hA hown hK hP 0 rfl rfl dM_byAxioms_11 ?_
        refine lv_iload_n hx hb dM_byAxioms_14 rfl (lv_at hl 0 rfl) ?_
        refine tq_zald hx hb hK hP 9 2 rfl rfl (by omega) (by omega) dM_byAxioms_15 ?_
        refine tq_i (huv.2 n (by omega) (by omega)) ?_
        refine tq_bt hx hb dM_byAxioms_16 (tgt := 22) (by decide) (fun h16 => ?_) (fun h16 => ?_)
        · have hUn := dB_iff.mp h16
          obtain ⟨ax1, ax2, ax3, ax4, ax5, ax6, ax7⟩ := mt_a htv g4 (show n ≤ T by omega)
          refine lv_aload_n hx hb dM_byAxioms_22 rfl (lv_at hl 1 rfl) ?_
          refine gf_M_26 (v := .ref (a 5)) hx hb hA hown hK hP 0 rfl rfl dM_byAxioms_23 ?_
          refine lv_iload_n hx hb dM_byAxioms_26 rfl (lv_at hl 0 rfl) ?_
          refine tq_iald hx hb hK hP 5 0 rfl rfl (by omega) (by omega) dM_byAxioms_27 ?_
          refine tq_i ax3 ?_
          refine lv_istore_n (lv' := [(3, .int (nI (xa n))), (2, .int (nI n)), (0, .ref (a 0)), (1, .int (nI x))]) hx hb dM_byAxioms_28 rfl hl (by decide) rfl (fun ls hl => ?_)
          refine lv_aload_n hx hb dM_byAxioms_29 rfl (lv_at hl 2 rfl) ?_
          refine gf_M_29 (v := .ref (a 6)) hx hb hA hown hK hP 0 rfl rfl dM_byAxioms_30 ?_
          refine lv_iload_n hx hb dM_byAxioms_33 rfl (lv_at hl 1 rfl) ?_
          refine tq_iald hx hb hK hP 6 0 rfl rfl (by omega) (by omega) dM_byAxioms_34 ?_
          refine tq_i ax4 ?_
          refine lv_istore (lv' := [(4, .int (nI (xb n))), (3, .int (nI (xa n))), (2, .int (nI n)), (0, .ref (a 0)), (1, .int (nI x))]) hx hb dM_byAxioms_35 hl (by decide) rfl (fun ls hl => ?_)
          refine lv_aload_n hx hb dM_byAxioms_37 rfl (lv_at hl 3 rfl) ?_
          refine gf_M_23 (v := .ref (a 4)) hx hb hA hown hK hP 0 rfl rfl dM_byAxioms_38 ?_
          refine lv_iload_n hx hb dM_byAxioms_41 rfl (lv_at hl 2 rfl) ?_
          refine tq_iald hx hb hK hP 4 0 rfl rfl (by omega) (by omega) dM_byAxioms_42 ?_
          refine tq_i ax1 ?_
          refine lv_iconst (v := nI 2) hx hb dM_byAxioms_43 (by decide +kernel) ?_
          refine tq_ne hx hb dM_byAxioms_44 (tgt := 65) (by decide) (by omega) (by omega) (fun h44 => ?_) (fun h44 => ?_)
          · refine lv_aload_n hx hb dM_byAxioms_65 rfl (lv_at hl 3 rfl) ?_
            refine gf_M_23 (v := .ref (a 4)) hx hb hA hown hK hP 0 rfl rfl dM_byAxioms_66 ?_
            refine lv_iload_n hx hb dM_byAxioms_69 rfl (lv_at hl 2 rfl) ?_
            refine tq_iald hx hb hK hP 4 0 rfl rfl (by omega) (by omega) dM_byAxioms_70 ?_
            refine tq_i ax1 ?_
            refine lv_iconst (v := nI 3) hx hb dM_byAxioms_71 (by decide +kernel) ?_
            refine tq_ne hx hb dM_byAxioms_72 (tgt := 92) (by decide) (by omega) (by omega) (fun h72 => ?_) (fun h72 => ?_)
            · have hr1 := ax5 (by omega)
              refine lv_aload_n hx hb dM_byAxioms_92 rfl (lv_at hl 3 rfl) ?_
              refine gf_M_42 (v := .ref (a 10)) hx hb hA hown hK hP 0 rfl rfl dM_byAxioms_93 ?_
              refine lv_iload_n hx hb dM_byAxioms_96 rfl (lv_at hl 4 rfl) ?_
              refine lv_iload_n hx hb dM_byAxioms_97 rfl (lv_at hl 1 rfl) ?_
              refine k_in ⟨hx, hb, hml, hown, hA⟩ (kw_M_84 hA rfl rfl ⟨Nat.le_trans (Nat.le_of_ble_eq_true rfl) hRf, Nat.le_trans (Nat.le_of_ble_eq_true rfl) hRl⟩) hK hP hS 10 1 rfl rfl (by omega) (by omega) (by decide) hl.1 (Nat.le_of_ble_eq_true rfl) ⟨by omega, by omega⟩ dM_byAxioms_98 (fun H locs hP hS => ?_)
              refine tq_bf hx hb dM_byAxioms_101 (tgt := 111) (by decide) (fun h101 => ?_) (fun h101 => ?_)
              · have p1 : m_ext v v ∧ m_ok v N kd fa fb so xa xb xc U ∧ (v.1 = v.1 → v.1 0 x (xa n) = true → v.1 0 x (xb n) = true) := ⟨me_refl v, g2, fun _ z => absurd z (by rw [h101]; decide)⟩
                have ax1 := (mt_a (me_tab htv p1.1) g4 (show n ≤ T by omega)).1
                refine lv_aload_n hx hb dM_byAxioms_111 rfl (lv_at hl 3 rfl) ?_
                refine gf_M_23 (v := .ref (a 4)) hx hb hA hown hK hP 0 rfl rfl dM_byAxioms_112 ?_
                refine lv_iload_n hx hb dM_byAxioms_115 rfl (lv_at hl 2 rfl) ?_
                refine tq_iald hx hb hK hP 4 0 rfl rfl (by omega) (by omega) dM_byAxioms_116 ?_
                refine tq_i ax1 ?_
                refine lv_iconst (v := nI 1) hx hb dM_byAxioms_117 (by decide +kernel) ?_
                refine tq_ne hx hb dM_byAxioms_118 (tgt := 140) (by decide) (by omega) (by omega) (fun h118 => ?_) (fun h118 => ?_)
                · have hstep : m_ext v v ∧ m_ok v N kd fa fb so xa xb xc U ∧ (v.1 = v.1 → (U n → m_cA v.1 so xa xb xc x n)) := ⟨p1.1, p1.2.1, fun e _ => ⟨fun _ => p1.2.2 e, fun z => absurd z h118, fun z => by omega, fun z => by omega⟩⟩
                  refine lv_iinc (k := 2) (lv' := [(2, .int (nI (n + 1))), (4, .int (nI (xb n))), (3, .int (nI (xa n))), (0, .ref (a 0)), (1, .int (nI x))]) hx hb dM_byAxioms_140 hl rfl (nI_1 _) (by decide) rfl (fun ls hl => ?_)
                  refine lv_goto hx hb dM_byAxioms_143 (tgt := 2) (by decide) ?_
                  exact ih2 (n + 1) v ls H locs (me_trans g1 hstep.1) hstep.2.1 (pass_s (C := fun B k => U k → m_cA B so xa xb xc x k) g1 hstep.1 g3 hstep.2.2) (by omega) (by omega) hP hD hS (by omega) (lv_sub hl [0, 3, 4] rfl)
                · refine lv_aload_n hx hb dM_byAxioms_121 rfl (lv_at hl 3 rfl) ?_
                  refine gf_M_42 (v := .ref (a 10)) hx hb hA hown hK hP 0 rfl rfl dM_byAxioms_122 ?_
                  refine lv_iload_n hx hb dM_byAxioms_125 rfl (lv_at hl 4 rfl) ?_
                  refine lv_iload hx hb dM_byAxioms_126 (lv_at hl 0 rfl) ?_
                  refine k_in ⟨hx, hb, hml, hown, hA⟩ (kw_M_84 hA rfl rfl ⟨Nat.le_trans (Nat.le_of_ble_eq_true rfl) hRf, Nat.le_trans (Nat.le_of_ble_eq_true rfl) hRl⟩) hK hP hS 10 1 rfl rfl (by omega) (by omega) (by decide) hl.1 (Nat.le_of_ble_eq_true rfl) ⟨by omega, by omega⟩ dM_byAxioms_128 (fun H locs hP hS => ?_)
                  refine tq_bf hx hb dM_byAxioms_131 (tgt := 140) (by decide) (fun h131 => ?_) (fun h131 => ?_)
                  · have hstep : m_ext v v ∧ m_ok v N kd fa fb so xa xb xc U ∧ (v.1 = v.1 → (U n → m_cA v.1 so xa xb xc x n)) := ⟨p1.1, p1.2.1, fun e _ => ⟨fun _ => p1.2.2 e, fun _ z => absurd z (tfr e h131), fun z => by omega, fun z => by omega⟩⟩
                    refine lv_iinc (k := 2) (lv' := [(2, .int (nI (n + 1))), (4, .int (nI (xb n))), (3, .int (nI (xa n))), (0, .ref (a 0)), (1, .int (nI x))]) hx hb dM_byAxioms_140 hl rfl (nI_1 _) (by decide) rfl (fun ls hl => ?_)
                    refine lv_goto hx hb dM_byAxioms_143 (tgt := 2) (by decide) ?_
                    exact ih2 (n + 1) v ls H locs (me_trans g1 hstep.1) hstep.2.1 (pass_s (C := fun B k => U k → m_cA B so xa xb xc x k) g1 hstep.1 g3 hstep.2.2) (by omega) (by omega) hP hD hS (by omega) (lv_sub hl [0, 3, 4] rfl)
                  · refine lv_aload_n hx hb dM_byAxioms_134 rfl (lv_at hl 3 rfl) ?_
                    refine lv_iload_n hx hb dM_byAxioms_135 rfl (lv_at hl 4 rfl) ?_
                    refine lv_iload_n hx hb dM_byAxioms_136 rfl (lv_at hl 1 rfl) ?_
                    refine ks_v (wf := mW a kI kL kZ) (u := v) ⟨hx, hb, hml, hown, hA⟩ (m_add0 l D a kI kL kZ v x (xa n) (by omega) (by omega)) (kw_M_107 hA rfl rfl ⟨Nat.le_trans (Nat.le_of_ble_eq_true rfl) hRf, Nat.le_trans (Nat.le_of_ble_eq_true rfl) hRl⟩) hK hP hD hS (fun _ h => h) (fun u' => mW_adr u') 0 5 rfl rfl rfl hl.1 (Nat.le_of_ble_eq_true rfl) ⟨by omega, by omega⟩ dM_byAxioms_137 rfl (fun u1 H locs hu1 hP hD hS => ?_)
                    have ad2 := add_of hu1 hx0 hr1.1 hN.2.2.1 p1.2.1 (ru_TA (p1.2.1.1 _ _ h131).2.2 ⟨n, hUn, by omega⟩)
                    have hstep : m_ext v u1 ∧ m_ok u1 N kd fa fb so xa xb xc U ∧ (u1.1 = v.1 → (U n → m_cA v.1 so xa xb xc x n)) := ⟨me_trans p1.1 ad2.1, ad2.2.1, fun e _ => by
                        obtain ⟨e1, e2⟩ := me_sand p1.1 ad2.1 e
                        exact ⟨fun _ => p1.2.2 e1, fun _ _ => tfl e1 (ad2.2.2.1 e2), fun z => by omega, fun z => by omega⟩⟩
                    refine lv_iinc (k := 2) (lv' := [(2, .int (nI (n + 1))), (4, .int (nI (xb n))), (3, .int (nI (xa n))), (0, .ref (a 0)), (1, .int (nI x))]) hx hb dM_byAxioms_140 hl rfl (nI_1 _) (by decide) rfl (fun ls hl => ?_)
                    refine lv_goto hx hb dM_byAxioms_143 (tgt := 2) (by decide) ?_
                    exact ih2 (n + 1) u1 ls H locs (me_trans g1 hstep.1) hstep.2.1 (pass_s (C := fun B k => U k → m_cA B so xa xb xc x k) g1 hstep.1 g3 hstep.2.2) (by omega) (by omega) hP hD hS (by omega) (lv_sub hl [0, 3, 4] rfl)
              · refine lv_aload_n hx hb dM_byAxioms_104 rfl (lv_at hl 3 rfl) ?_
                refine lv_iload_n hx hb dM_byAxioms_105 rfl (lv_at hl 4 rfl) ?_
                refine lv_iload hx hb dM_byAxioms_106 (lv_at hl 0 rfl) ?_
                refine ks_v (wf := mW a kI kL kZ) (u := v) ⟨hx, hb, hml, hown, hA⟩ (m_add0 l D a kI kL kZ v x (xb n) (by omega) (by omega)) (kw_M_107 hA rfl rfl ⟨Nat.le_trans (Nat.le_of_ble_eq_true rfl) hRf, Nat.le_trans (Nat.le_of_ble_eq_true rfl) hRl⟩) hK hP hD hS (fun _ h => h) (fun u' => mW_adr u') 0 5 rfl rfl rfl hl.1 (Nat.le_of_ble_eq_true rfl) ⟨by omega, by omega⟩ dM_byAxioms_108 rfl (fun u2 H locs hu2 hP hD hS => ?_)
                have ad := add_of hu2 hx0 hr1.2 hN.2.2.1 g2 (ru_TA (g2.1 _ _ h101).2.2 ⟨n, hUn, by omega⟩)
                have p1 : m_ext v u2 ∧ m_ok u2 N kd fa fb so xa xb xc U ∧ (u2.1 = v.1 → v.1 0 x (xa n) = true → v.1 0 x (xb n) = true) := ⟨ad.1, ad.2.1, fun e _ => ad.2.2.1 e⟩
                have ax1 := (mt_a (me_tab htv p1.1) g4 (show n ≤ T by omega)).1
                refine lv_aload_n hx hb dM_byAxioms_111 rfl (lv_at hl 3 rfl) ?_
                refine gf_M_23 (v := .ref (a 4)) hx hb hA hown hK hP 0 rfl rfl dM_byAxioms_112 ?_
                refine lv_iload_n hx hb dM_byAxioms_115 rfl (lv_at hl 2 rfl) ?_
                refine tq_iald hx hb hK hP 4 0 rfl rfl (by omega) (by omega) dM_byAxioms_116 ?_
                refine tq_i ax1 ?_
                refine lv_iconst (v := nI 1) hx hb dM_byAxioms_117 (by decide +kernel) ?_
                refine tq_ne hx hb dM_byAxioms_118 (tgt := 140) (by decide) (by omega) (by omega) (fun h118 => ?_) (fun h118 => ?_)
                · have hstep : m_ext v u2 ∧ m_ok u2 N kd fa fb so xa xb xc U ∧ (u2.1 = v.1 → (U n → m_cA v.1 so xa xb xc x n)) := ⟨p1.1, p1.2.1, fun e _ => ⟨fun _ => p1.2.2 e, fun z => absurd z h118, fun z => by omega, fun z => by omega⟩⟩
                  refine lv_iinc (k := 2) (lv' := [(2, .int (nI (n + 1))), (4, .int (nI (xb n))), (3, .int (nI (xa n))), (0, .ref (a 0)), (1, .int (nI x))]) hx hb dM_byAxioms_140 hl rfl (nI_1 _) (by decide) rfl (fun ls hl => ?_)
                  refine lv_goto hx hb dM_byAxioms_143 (tgt := 2) (by decide) ?_
                  exact ih2 (n + 1) u2 ls H locs (me_trans g1 hstep.1) hstep.2.1 (pass_s (C := fun B k => U k → m_cA B so xa xb xc x k) g1 hstep.1 g3 hstep.2.2) (by omega) (by omega) hP hD hS (by omega) (lv_sub hl [0, 3, 4] rfl)
                · refine lv_aload_n hx hb dM_byAxioms_121 rfl (lv_at hl 3 rfl) ?_
                  refine gf_M_42 (v := .ref (a 10)) hx hb hA hown hK hP 0 rfl rfl dM_byAxioms_122 ?_
                  refine lv_iload_n hx hb dM_byAxioms_125 rfl (lv_at hl 4 rfl) ?_
                  refine lv_iload hx hb dM_byAxioms_126 (lv_at hl 0 rfl) ?_
                  refine k_in ⟨hx, hb, hml, hown, hA⟩ (kw_M_84 hA rfl rfl ⟨Nat.le_trans (Nat.le_of_ble_eq_true rfl) hRf, Nat.le_trans (Nat.le_of_ble_eq_true rfl) hRl⟩) hK hP hS 10 1 rfl rfl (by omega) (by omega) (by decide) hl.1 (Nat.le_of_ble_eq_true rfl) ⟨by omega, by omega⟩ dM_byAxioms_128 (fun H locs hP hS => ?_)
                  refine tq_bf hx hb dM_byAxioms_131 (tgt := 140) (by decide) (fun h131 => ?_) (fun h131 => ?_)
                  · have hstep : m_ext v u2 ∧ m_ok u2 N kd fa fb so xa xb xc U ∧ (u2.1 = v.1 → (U n → m_cA v.1 so xa xb xc x n)) := ⟨p1.1, p1.2.1, fun e _ => ⟨fun _ => p1.2.2 e, fun _ z => absurd z (tfr e h131), fun z => by omega, fun z => by omega⟩⟩
                    refine lv_iinc (k := 2) (lv' := [(2, .int (nI (n + 1))), (4, .int (nI (xb n))), (3, .int (nI (xa n))), (0, .ref (a 0)), (1, .int (nI x))]) hx hb dM_byAxioms_140 hl rfl (nI_1 _) (by decide) rfl (fun ls hl => ?_)
                    refine lv_goto hx hb dM_byAxioms_143 (tgt := 2) (by decide) ?_
                    exact ih2 (n + 1) u2 ls H locs (me_trans g1 hstep.1) hstep.2.1 (pass_s (C := fun B k => U k → m_cA B so xa xb xc x k) g1 hstep.1 g3 hstep.2.2) (by omega) (by omega) hP hD hS (by omega) (lv_sub hl [0, 3, 4] rfl)
                  · refine lv_aload_n hx hb dM_byAxioms_134 rfl (lv_at hl 3 rfl) ?_
                    refine lv_iload_n hx hb dM_byAxioms_135 rfl (lv_at hl 4 rfl) ?_
                    refine lv_iload_n hx hb dM_byAxioms_136 rfl (lv_at hl 1 rfl) ?_
                    refine ks_v (wf := mW a kI kL kZ) (u := u2) ⟨hx, hb, hml, hown, hA⟩ (m_add0 l D a kI kL kZ u2 x (xa n) (by omega) (by omega)) (kw_M_107 hA rfl rfl ⟨Nat.le_trans (Nat.le_of_ble_eq_true rfl) hRf, Nat.le_trans (Nat.le_of_ble_eq_true rfl) hRl⟩) hK hP hD hS (fun _ h => h) (fun u' => mW_adr u') 0 5 rfl rfl rfl hl.1 (Nat.le_of_ble_eq_true rfl) ⟨by omega, by omega⟩ dM_byAxioms_137 rfl (fun u3 H locs hu3 hP hD hS => ?_)
                    have ad2 := add_of hu3 hx0 hr1.1 hN.2.2.1 p1.2.1 (ru_TA (p1.2.1.1 _ _ h131).2.2 ⟨n, hUn, by omega⟩)
                    have hstep : m_ext v u3 ∧ m_ok u3 N kd fa fb so xa xb xc U ∧ (u3.1 = v.1 → (U n → m_cA v.1 so xa xb xc x n)) := ⟨me_trans p1.1 ad2.1, ad2.2.1, fun e _ => by
                        obtain ⟨e1, e2⟩ := me_sand p1.1 ad2.1 e
                        exact ⟨fun _ => p1.2.2 e1, fun _ _ => tfl e1 (ad2.2.2.1 e2), fun z => by omega, fun z => by omega⟩⟩
                    refine lv_iinc (k := 2) (lv' := [(2, .int (nI (n + 1))), (4, .int (nI (xb n))), (3, .int (nI (xa n))), (0, .ref (a 0)), (1, .int (nI x))]) hx hb dM_byAxioms_140 hl rfl (nI_1 _) (by decide) rfl (fun ls hl => ?_)
                    refine lv_goto hx hb dM_byAxioms_143 (tgt := 2) (by decide) ?_
                    exact ih2 (n + 1) u3 ls H locs (me_trans g1 hstep.1) hstep.2.1 (pass_s (C := fun B k => U k → m_cA B so xa xb xc x k) g1 hstep.1 g3 hstep.2.2) (by omega) (by omega) hP hD hS (by omega) (lv_sub hl [0, 3, 4] rfl)
            · have hr6 := ax6 (by omega)
              have hr7 := ax7 h72
              refine lv_aload_n hx hb dM_byAxioms_75 rfl (lv_at hl 3 rfl) ?_
              refine lv_iload_n hx hb dM_byAxioms_76 rfl (lv_at hl 4 rfl) ?_
              refine lv_iload_n hx hb dM_byAxioms_77 rfl (lv_at hl 1 rfl) ?_
              refine lv_iload hx hb dM_byAxioms_78 (lv_at hl 0 rfl) ?_
              refine lv_aload_n hx hb dM_byAxioms_80 rfl (lv_at hl 3 rfl) ?_
              refine gf_M_32 (v := .ref (a 7)) hx hb hA hown hK hP 0 rfl rfl dM_byAxioms_81 ?_
              refine lv_iload_n hx hb dM_byAxioms_84 rfl (lv_at hl 2 rfl) ?_
              refine tq_iald hx hb hK hP 7 0 rfl rfl (by omega) (by omega) dM_byAxioms_85 ?_
              refine tq_i hr7.1 ?_
              refine ks_v (wf := mW a kI kL kZ) (u := v) ⟨hx, hb, hml, hown, hA⟩ (m_byChain l D a kI kL kZ v N kd fa fb T so xa xb xc htv U huv g2 hv4 x (xa n) (xb n) (xc n) hx0 hr6.1 hr6.2 hr7.2 ⟨n, hUn, h72, rfl, rfl, rfl⟩) (kw_M_103 hA rfl rfl ⟨Nat.le_trans (Nat.le_of_ble_eq_true rfl) hRf, Nat.le_trans (Nat.le_of_ble_eq_true rfl) hRl⟩) hK hP hD hS (fun _ h => h) (fun u' => mW_adr u') 0 5 rfl rfl rfl hl.1 (Nat.le_of_ble_eq_true rfl) ⟨by omega, by omega⟩ dM_byAxioms_86 rfl (fun u4 H locs hu4 hP hD hS => ?_)
              have hstep : m_ext v u4 ∧ m_ok u4 N kd fa fb so xa xb xc U ∧ (u4.1 = v.1 → (U n → m_cA v.1 so xa xb xc x n)) := ⟨hu4.1, hu4.2.1, fun e _ => ⟨fun z => by omega, fun z => by omega, fun z => by omega, fun _ y z q1 q2 => hu4.2.2 e y (mo_l g2 (by omega) q1).2.2.1 q1 z q2⟩⟩
              refine lv_goto hx hb dM_byAxioms_89 (tgt := 140) (by decide) ?_
              refine lv_iinc (k := 2) (lv' := [(2, .int (nI (n + 1))), (4, .int (nI (xb n))), (3, .int (nI (xa n))), (0, .ref (a 0)), (1, .int (nI x))]) hx hb dM_byAxioms_140 hl rfl (nI_1 _) (by decide) rfl (fun ls hl => ?_)
              refine lv_goto hx hb dM_byAxioms_143 (tgt := 2) (by decide) ?_
              exact ih2 (n + 1) u4 ls H locs (me_trans g1 hstep.1) hstep.2.1 (pass_s (C := fun B k => U k → m_cA B so xa xb xc x k) g1 hstep.1 g3 hstep.2.2) (by omega) (by omega) hP hD hS (by omega) (lv_sub hl [0, 3, 4] rfl)
          · have hr6 := ax6 (by omega)
            refine lv_aload_n hx hb dM_byAxioms_47 rfl (lv_at hl 3 rfl) ?_
            refine lv_iload hx hb dM_byAxioms_48 (lv_at hl 0 rfl) ?_
            refine lv_iload_n hx hb dM_byAxioms_50 rfl (lv_at hl 4 rfl) ?_
            refine ks_s ⟨hx, hb, hml, hown, hA⟩ (m_row l (xb n) x) (kw_M_95 hA rfl rfl ⟨Nat.le_trans (Nat.le_of_ble_eq_true rfl) hRf, Nat.le_trans (Nat.le_of_ble_eq_true rfl) hRl⟩) hP hS rfl hl.1 (Nat.le_of_ble_eq_true rfl) ⟨by omega, by omega⟩ dM_byAxioms_51 rfl (fun H locs hP hS => ?_)
            refine lv_iload_n hx hb dM_byAxioms_54 rfl (lv_at hl 1 rfl) ?_
            refine lv_iload_n hx hb dM_byAxioms_55 rfl (lv_at hl 4 rfl) ?_
            refine ks_s ⟨hx, hb, hml, hown, hA⟩ (m_row l (xa n) x) (kw_M_95 hA rfl rfl ⟨Nat.le_trans (Nat.le_of_ble_eq_true rfl) hRf, Nat.le_trans (Nat.le_of_ble_eq_true rfl) hRl⟩) hP hS rfl hl.1 (Nat.le_of_ble_eq_true rfl) ⟨by omega, by omega⟩ dM_byAxioms_56 rfl (fun H locs hP hS => ?_)
            refine ks_v (wf := mW a kI kL kZ) (u := v) ⟨hx, hb, hml, hown, hA⟩ (m_join0 l D a kI kL kZ v (160 * (xb n) + x) (160 * (xa n) + x) (by omega) (by omega) hv4) (kw_M_99 hA rfl rfl ⟨Nat.le_trans (Nat.le_of_ble_eq_true rfl) hRf, Nat.le_trans (Nat.le_of_ble_eq_true rfl) hRl⟩) hK hP hD hS (fun _ h => h) (fun u' => mW_adr u') 0 5 rfl rfl rfl hl.1 (Nat.le_of_ble_eq_true rfl) ⟨by omega, by omega⟩ dM_byAxioms_59 rfl (fun u5 H locs hu5 hP hD hS => ?_)
            have hj := join_of (r := xb n) hu5 hr6.2 hx0 hN.2.2.1 g2 (fun y hy => ru_TR ⟨n, hUn, h44, rfl, rfl⟩ (mo_l g2 (by omega) hy).2.2.2)
            have hstep : m_ext v u5 ∧ m_ok u5 N kd fa fb so xa xb xc U ∧ (u5.1 = v.1 → (U n → m_cA v.1 so xa xb xc x n)) := ⟨hj.1, hj.2.1, fun e _ => ⟨fun z => by omega, fun z => by omega, fun _ y hy => hj.2.2 e y hy, fun z => by omega⟩⟩
            refine lv_goto hx hb dM_byAxioms_62 (tgt := 140) (by decide) ?_
            refine lv_iinc (k := 2) (lv' := [(2, .int (nI (n + 1))), (4, .int (nI (xb n))), (3, .int (nI (xa n))), (0, .ref (a 0)), (1, .int (nI x))]) hx hb dM_byAxioms_140 hl rfl (nI_1 _) (by decide) rfl (fun ls hl => ?_)
            refine lv_goto hx hb dM_byAxioms_143 (tgt := 2) (by decide) ?_
            exact ih2 (n + 1) u5 ls H locs (me_trans g1 hstep.1) hstep.2.1 (pass_s (C := fun B k => U k → m_cA B so xa xb xc x k) g1 hstep.1 g3 hstep.2.2) (by omega) (by omega) hP hD hS (by omega) (lv_sub hl [0, 3, 4] rfl)
        · have hstep : m_ext v v ∧ m_ok v N kd fa fb so xa xb xc U ∧ (v.1 = v.1 → (U n → m_cA v.1 so xa xb xc x n)) := ⟨me_refl v, g2, fun _ z => absurd (dB_iff.mpr z) (by rw [h16]; decide)⟩
          refine lv_goto hx hb dM_byAxioms_19 (tgt := 140) (by decide) ?_
          refine lv_iinc (k := 0) (lv' := [(2, .int (nI (n + 1))), (0, .ref (a 0)), (1, .int (nI x))]) hx hb dM_byAxioms_140 hl rfl (nI_1 _) (by decide) rfl (fun ls hl => ?_)
          refine lv_goto hx hb dM_byAxioms_143 (tgt := 2) (by decide) ?_
          exact ih2 (n + 1) v ls H locs (me_trans g1 hstep.1) hstep.2.1 (pass_s (C := fun B k => U k → m_cA B so xa xb xc x k) g1 hstep.1 g3 hstep.2.2) (by omega) (by omega) hP hD hS (by omega) (lv_sub hl [0, 1, 2] rfl)
  exact lp _ 1 u ls _ _ (me_refl u) ho (fun _ k _ z => by omega) (by omega) (by omega) hP hD hS (Nat.lt_succ_self _) (lv_sub hl [0, 1, 2] rfl)
theorem cD_lo {u : sU} {N : Nat} {kd fa fb : Nat → Nat} {T : Nat} {so xa xb xc : Nat → Nat} {B : Nat → Nat → Nat → Bool} {x k : Nat} (hta : m_tab u N kd fa fb T so xa xb xc) (hk : k < 2) : m_cD B kd fa fb x k := by
  have h0 := hta.2.2.2.2.2.1
  have h1 := hta.2.2.2.2.2.2.1
  have e : kd k = 0 := by
    rcases Nat.lt_or_ge k 1 with w | w
    · rw [show k = 0 by omega]; exact h0
    · rw [show k = 1 by omega]; exact h1
  exact ⟨fun z => by omega, fun z => by omega⟩
set_option maxHeartbeats 4000000 in
set_option maxRecDepth 100000 in
/-- m_byDescriptions -/
theorem m_byDescriptions (l : Launch) (D : va_G) (a : Nat → Nat) (kI kL kZ : ClassId) (u : sU) (N : Nat) (kd fa fb : Nat → Nat) (T : Nat) (so xa xb xc : Nat → Nat) (hta : m_tab u N kd fa fb T so xa xb xc) (U : Nat → Prop) (hu9 : m_use u T U) (ho : m_ok u N kd fa fb so xa xb xc U) (hm4 : u.2.2 4 ≤ 1) (x : Nat) (hx0 : x < N) : Met l yM_byDescriptions (wM_byDescriptions :: wA) ({ frames := 2, cells := 0, slots := 0, locals := 47 }) (va_Pc [.ref (a 0), .int (nI x)] (tq_wB D vwA (mW a kI kL kZ u) (sT kI kL kZ))) (va_Qv (fun (u' : sU) => m_ext u u' ∧ m_ok u' N kd fa fb so xa xb xc U ∧ (u'.1 = u.1 → ∀ k, k < N → m_cD u.1 kd fa fb x k)) (fun u' t => va_P D vwA (mW a kI kL kZ u') t.heap) (mA a)) 0 0 (mA a) := by
  refine Met.ofW (cc := bM_byDescriptions) (maxL := 5) (ret := none) (by decide +kernel) rfl ?_
  intro p e s m args below meth c s₁ B1 hml hv
  obtain ⟨rfl, hP, hK, hD0⟩ := hv
  have hx := B1.exec
  have hb := B1.bytes
  have hr := B1.returns
  have hA : ∀ w ∈ wA, w.before ([.ref (a 0), .int (nI x)] : List Value).toArray s = true := fun w h => atoms_spec (ws := wM_byDescriptions :: wA) B1.pre w (List.mem_cons_of_mem _ h)
  have hown : s.vm.findClass RcM = some m.cls := findClass_of_methodNamed B1.named
  have hlocks := B1.notSynchronized
  have hS : va_S (mA a) s.heap s.heap [] := va_S.rf
  have hl := lv_entry ([.ref (a 0), .int (nI x)]) (n := 5) (Nat.le_of_ble_eq_true rfl)
  rw [lg_entry_eq]
  generalize (lg_sl ([.ref (a 0), .int (nI x)]) ++ List.replicate (5 - (lg_sl ([.ref (a 0), .int (nI x)])).length) Slot.unset).toArray = ls at hl ⊢
  have hl : lv_has ls 5 [(0, .ref (a 0)), (1, .int (nI x))] := hl
  refine tq_gen (fun R Q hRe hQe => ?_)
  have hRf : 2 ≤ R.frames := by rw [hRe]; exact Nat.le_of_ble_eq_true rfl
  have hRl : 47 ≤ R.locals := by rw [hRe]; exact Nat.le_of_ble_eq_true rfl
  have hRc : 0 ≤ R.cells := by rw [hRe]; exact Nat.le_of_ble_eq_true rfl
  have hRs : 0 ≤ R.slots := by rw [hRe]; exact Nat.le_of_ble_eq_true rfl
  have hD := mA_D hD0
  have hN := mt_N hta
  refine lv_iconst (v := nI 2) hx hb dM_byDescriptions_0 (by decide +kernel) ?_
  refine lv_istore_n (lv' := [(2, .int (nI 2)), (0, .ref (a 0)), (1, .int (nI x))]) hx hb dM_byDescriptions_1 rfl hl (by decide) rfl (fun ls hl => ?_)
  have lp : ∀ (fu : Nat) (n : Nat) (v : sU) (ls : Array Slot) (H : Heap) (locs : List Loc), m_ext u v → m_ok v N kd fa fb so xa xb xc U → (v.1 = u.1 → ∀ k, 2 ≤ k → k < n → m_cD u.1 kd fa fb x k) → 2 ≤ n → n ≤ N → va_P D vwA (mW a kI kL kZ v) H → va_D (mA a) (mW a kI kL kZ v) → va_S (mA a) s.heap H locs → N - n < fu → lv_has ls 5 [(2, .int (nI n)), (0, .ref (a 0)), (1, .int (nI x))] → W p l e R s m ([.ref (a 0), .int (nI x)] : List Value).toArray below meth c H locs 0 0 Q (F0 m 2 ls []) := by
    intro fu
    induction fu with
    | zero => intros; omega
    | succ fu ih2 =>
      intro n v ls H locs g1 g2 g3 g4 g5 hP hD hS hfu hl
      have htv := me_tab hta g1
      have hv := mt_N htv
      have hv4 := me_4 g1 hm4
      have huv := me_use hu9 g1
      refine lv_iload_n hx hb dM_byDescriptions_2 rfl (lv_at hl 0 rfl) ?_
      refine lv_aload_n hx hb dM_byDescriptions_3 rfl (lv_at hl 1 rfl) ?_
      refine gf_M_7 (v := .int (nI (v.2.2 1))) hx hb hA hown hK hP 0 rfl rfl dM_byDescriptions_4 ?_
      refine tq_ge hx hb dM_byDescriptions_7 (tgt := 175) (by decide) (by omega) (by omega) (fun h7 => ?_) (fun h7 => ?_)
      · subst hQe
        exact W.vret hx hb hr (fun t ht hW => ⟨⟨v, rfl, ⟨g1, g2, fun e k z => by
            by_cases c : k < 2
            · exact cD_lo hta c
            · exact g3 e k (by omega) (by omega)⟩, tq_hp ht hP⟩, hS.F ht⟩) hS.2.2 dM_byDescriptions_175
      · refine lv_aload_n hx hb dM_byDescriptions_10 rfl (lv_at hl 1 rfl) ?_
        refine gf_M_17 (v := .ref (a 2)) hx hb hA hown hK hP 0 rfl rfl dM_byDescriptions_11 ?_
        refine lv_iload_n hx hb dM_byDescriptions_14 rfl (lv_at hl 0 rfl) ?_
        refine tq_iald hx hb hK hP 2 0 rfl rfl (by omega) (by omega) dM_byDescriptions_15 ?_
        refine lv_istore_n (lv' := [(3, .int ((v.2.1 1) n)), (2, .int (nI n)), (0, .ref (a 0)), (1, .int (nI x))]) hx hb dM_byDescriptions_16 rfl hl (by decide) rfl (fun ls hl => ?_)
        refine lv_aload_n hx hb dM_byDescriptions_17 rfl (lv_at hl 2 rfl) ?_
        refine gf_M_20 (v := .ref (a 3)) hx hb hA hown hK hP 0 rfl rfl dM_byDescriptions_18 ?_
        refine lv_iload_n hx hb dM_byDescriptions_21 rfl (lv_at hl 1 rfl) ?_
        refine tq_iald hx hb hK hP 3 0 rfl rfl (by omega) (by omega) dM_byDescriptions_22 ?_
        refine lv_istore (lv' := [(4, .int ((v.2.1 2) n)), (3, .int ((v.2.1 1) n)), (2, .int (nI n)), (0, .ref (a 0)), (1, .int (nI x))]) hx hb dM_byDescriptions_23 hl (by decide) rfl (fun ls hl => ?_)
        refine lv_aload_n hx hb dM_byDescriptions_25 rfl (lv_at hl 3 rfl) ?_
        refine gf_M_13 (v := .ref (a 1)) hx hb hA hown hK hP 0 rfl rfl dM_byDescriptions_26 ?_
        refine lv_iload_n hx hb dM_byDescriptions_29 rfl (lv_at hl 2 rfl) ?_
        refine tq_iald hx hb hK hP 1 0 rfl rfl (by omega) (by omega) dM_byDescriptions_30 ?_
        refine lv_iconst (v := nI 3) hx hb dM_byDescriptions_31 (by decide +kernel) ?_
        refine lv_icmp_ne hx hb dM_byDescriptions_32 (tgt := 94) (by decide) (fun h32 => ?_) (fun h32 => ?_)
        · refine lv_aload_n hx hb dM_byDescriptions_94 rfl (lv_at hl 3 rfl) ?_
          refine gf_M_13 (v := .ref (a 1)) hx hb hA hown hK hP 0 rfl rfl dM_byDescriptions_95 ?_
          refine lv_iload_n hx hb dM_byDescriptions_98 rfl (lv_at hl 2 rfl) ?_
          refine tq_iald hx hb hK hP 1 0 rfl rfl (by omega) (by omega) dM_byDescriptions_99 ?_
          refine lv_iconst (v := nI 4) hx hb dM_byDescriptions_100 (by decide +kernel) ?_
          refine lv_icmp_ne hx hb dM_byDescriptions_101 (tgt := 169) (by decide) (fun h101 => ?_) (fun h101 => ?_)
          · have hstep : m_ext v v ∧ m_ok v N kd fa fb so xa xb xc U ∧ (v.1 = v.1 → m_cD v.1 kd fa fb x n) := ⟨me_refl v, g2, fun _ => ⟨fun z => absurd ((mt_k (j := 2) htv (show n < N by omega) (by decide) (by decide)).mpr z) h32, fun z => absurd ((mt_k (j := 3) htv (show n < N by omega) (by decide) (by decide)).mpr z) h101⟩⟩
            refine lv_iinc (k := 2) (lv' := [(2, .int (nI (n + 1))), (4, .int ((v.2.1 2) n)), (3, .int ((v.2.1 1) n)), (0, .ref (a 0)), (1, .int (nI x))]) hx hb dM_byDescriptions_169 hl rfl (nI_1 _) (by decide) rfl (fun ls hl => ?_)
            refine lv_goto hx hb dM_byDescriptions_172 (tgt := 2) (by decide) ?_
            exact ih2 (n + 1) v ls H locs (me_trans g1 hstep.1) hstep.2.1 (pass_s (C := fun B k => m_cD B kd fa fb x k) g1 hstep.1 g3 hstep.2.2) (by omega) (by omega) hP hD hS (by omega) (lv_sub hl [0, 3, 4] rfl)
          · have hk3 := (mt_k (j := 3) htv (show n < N by omega) (by decide) (by decide)).mp h101
            obtain ⟨e1, e2, e3, e4⟩ := mt_3 htv (show n < N by omega) hk3
            rw [e1, e2] at hl
            refine lv_aload_n hx hb dM_byDescriptions_104 rfl (lv_at hl 3 rfl) ?_
            refine gf_M_42 (v := .ref (a 10)) hx hb hA hown hK hP 0 rfl rfl dM_byDescriptions_105 ?_
            refine lv_iload_n hx hb dM_byDescriptions_108 rfl (lv_at hl 4 rfl) ?_
            refine lv_iload_n hx hb dM_byDescriptions_109 rfl (lv_at hl 2 rfl) ?_
            refine k_in ⟨hx, hb, hml, hown, hA⟩ (kw_M_84 hA rfl rfl ⟨Nat.le_trans (Nat.le_of_ble_eq_true rfl) hRf, Nat.le_trans (Nat.le_of_ble_eq_true rfl) hRl⟩) hK hP hS 10 1 rfl rfl (by omega) (by omega) (by decide) hl.1 (Nat.le_of_ble_eq_true rfl) ⟨by omega, by omega⟩ dM_byDescriptions_110 (fun H locs hP hS => ?_)
            refine tq_bf hx hb dM_byDescriptions_113 (tgt := 152) (by decide) (fun h113 => ?_) (fun h113 => ?_)
            · have p1 : m_ext v v ∧ m_ok v N kd fa fb so xa xb xc U ∧ (v.1 = v.1 → v.1 0 x n = true → v.1 2 (160 * fa n + x) (fb n) = true) := ⟨me_refl v, g2, fun _ z => absurd z (by rw [h113]; decide)⟩
              refine lv_aload_n hx hb dM_byDescriptions_152 rfl (lv_at hl 3 rfl) ?_
              refine lv_iload_n hx hb dM_byDescriptions_153 rfl (lv_at hl 1 rfl) ?_
              refine lv_iload_n hx hb dM_byDescriptions_154 rfl (lv_at hl 4 rfl) ?_
              refine lv_iload hx hb dM_byDescriptions_155 (lv_at hl 0 rfl) ?_
              refine ks_rv ⟨hx, hb, hml, hown, hA⟩ (m_meets l D a kI kL kZ v (fa n) x (fb n) (by omega) (by omega) (by omega)) (kw_M_110 hA rfl rfl ⟨Nat.le_trans (Nat.le_of_ble_eq_true rfl) hRf, Nat.le_trans (Nat.le_of_ble_eq_true rfl) hRl⟩) hK hP hS 0 5 rfl rfl rfl hl.1 (Nat.le_of_ble_eq_true rfl) ⟨by omega, by omega⟩ dM_byDescriptions_157 rfl (fun H locs hP hS => ?_)
              refine tq_i (y := bI (m_mt v (160 * (fa n) + x) (fb n))) rfl ?_
              refine tq_bf hx hb dM_byDescriptions_160 (tgt := 169) (by decide) (fun h160 => ?_) (fun h160 => ?_)
              · have hstep : m_ext v v ∧ m_ok v N kd fa fb so xa xb xc U ∧ (v.1 = v.1 → m_cD v.1 kd fa fb x n) := ⟨p1.1, p1.2.1, fun e => ⟨fun z => by omega, fun _ => ⟨p1.2.2 e, fun y q1 q2 => absurd ((mt_iff p1.2.1 hN.2.2.1).mpr ⟨y, by rw [e]; exact q1, by rw [e]; exact q2⟩) (by rw [h160]; decide)⟩⟩⟩
                refine lv_iinc (k := 2) (lv' := [(2, .int (nI (n + 1))), (4, .int (nI (fb n))), (3, .int (nI (fa n))), (0, .ref (a 0)), (1, .int (nI x))]) hx hb dM_byDescriptions_169 hl rfl (nI_1 _) (by decide) rfl (fun ls hl => ?_)
                refine lv_goto hx hb dM_byDescriptions_172 (tgt := 2) (by decide) ?_
                exact ih2 (n + 1) v ls H locs (me_trans g1 hstep.1) hstep.2.1 (pass_s (C := fun B k => m_cD B kd fa fb x k) g1 hstep.1 g3 hstep.2.2) (by omega) (by omega) hP hD hS (by omega) (lv_sub hl [0, 3, 4] rfl)
              · refine lv_aload_n hx hb dM_byDescriptions_163 rfl (lv_at hl 3 rfl) ?_
                refine lv_iload_n hx hb dM_byDescriptions_164 rfl (lv_at hl 4 rfl) ?_
                refine lv_iload_n hx hb dM_byDescriptions_165 rfl (lv_at hl 2 rfl) ?_
                refine ks_v (wf := mW a kI kL kZ) (u := v) ⟨hx, hb, hml, hown, hA⟩ (m_add0 l D a kI kL kZ v x n (by omega) (by omega)) (kw_M_107 hA rfl rfl ⟨Nat.le_trans (Nat.le_of_ble_eq_true rfl) hRf, Nat.le_trans (Nat.le_of_ble_eq_true rfl) hRl⟩) hK hP hD hS (fun _ h => h) (fun u' => mW_adr u') 0 5 rfl rfl rfl hl.1 (Nat.le_of_ble_eq_true rfl) ⟨by omega, by omega⟩ dM_byDescriptions_166 rfl (fun u1 H locs hu1 hP hD hS => ?_)
                obtain ⟨y9, m1, m2⟩ := (mt_iff p1.2.1 hN.2.2.1).mp h160
                have ad := add_of hu1 hx0 (show n < N by omega) hN.2.2.1 p1.2.1 (ru_3b (by omega) hk3 (mo_l p1.2.1 (by omega) m1).2.2.2 (p1.2.1.1 _ _ m2).2.2)
                have hstep : m_ext v u1 ∧ m_ok u1 N kd fa fb so xa xb xc U ∧ (u1.1 = v.1 → m_cD v.1 kd fa fb x n) := ⟨me_trans p1.1 ad.1, ad.2.1, fun e => by
                    obtain ⟨q1, q2⟩ := me_sand p1.1 ad.1 e
                    exact ⟨fun z => by omega, fun _ => ⟨p1.2.2 q1, fun _ _ _ => tfl q1 (ad.2.2.1 q2)⟩⟩⟩
                refine lv_iinc (k := 2) (lv' := [(2, .int (nI (n + 1))), (4, .int (nI (fb n))), (3, .int (nI (fa n))), (0, .ref (a 0)), (1, .int (nI x))]) hx hb dM_byDescriptions_169 hl rfl (nI_1 _) (by decide) rfl (fun ls hl => ?_)
                refine lv_goto hx hb dM_byDescriptions_172 (tgt := 2) (by decide) ?_
                exact ih2 (n + 1) u1 ls H locs (me_trans g1 hstep.1) hstep.2.1 (pass_s (C := fun B k => m_cD B kd fa fb x k) g1 hstep.1 g3 hstep.2.2) (by omega) (by omega) hP hD hS (by omega) (lv_sub hl [0, 3, 4] rfl)
            · refine lv_aload_n hx hb dM_byDescriptions_116 rfl (lv_at hl 3 rfl) ?_
              refine gf_M_49 (v := .ref (a 12)) hx hb hA hown hK hP 0 rfl rfl dM_byDescriptions_117 ?_
              refine lv_iload_n hx hb dM_byDescriptions_120 rfl (lv_at hl 1 rfl) ?_
              refine lv_iload_n hx hb dM_byDescriptions_121 rfl (lv_at hl 4 rfl) ?_
              refine ks_s ⟨hx, hb, hml, hown, hA⟩ (m_row l (fa n) x) (kw_M_95 hA rfl rfl ⟨Nat.le_trans (Nat.le_of_ble_eq_true rfl) hRf, Nat.le_trans (Nat.le_of_ble_eq_true rfl) hRl⟩) hP hS rfl hl.1 (Nat.le_of_ble_eq_true rfl) ⟨by omega, by omega⟩ dM_byDescriptions_122 rfl (fun H locs hP hS => ?_)
              refine lv_iload hx hb dM_byDescriptions_125 (lv_at hl 0 rfl) ?_
              refine k_in ⟨hx, hb, hml, hown, hA⟩ (kw_M_84 hA rfl rfl ⟨Nat.le_trans (Nat.le_of_ble_eq_true rfl) hRf, Nat.le_trans (Nat.le_of_ble_eq_true rfl) hRl⟩) hK hP hS 12 1 rfl rfl (by omega) (by omega) (by decide) hl.1 (Nat.le_of_ble_eq_true rfl) ⟨by omega, by omega⟩ dM_byDescriptions_127 (fun H locs hP hS => ?_)
              refine tq_bt hx hb dM_byDescriptions_130 (tgt := 152) (by decide) (fun h130 => ?_) (fun h130 => ?_)
              · have p1 : m_ext v v ∧ m_ok v N kd fa fb so xa xb xc U ∧ (v.1 = v.1 → v.1 0 x n = true → v.1 2 (160 * fa n + x) (fb n) = true) := ⟨me_refl v, g2, fun _ _ => h130⟩
                refine lv_aload_n hx hb dM_byDescriptions_152 rfl (lv_at hl 3 rfl) ?_
                refine lv_iload_n hx hb dM_byDescriptions_153 rfl (lv_at hl 1 rfl) ?_
                refine lv_iload_n hx hb dM_byDescriptions_154 rfl (lv_at hl 4 rfl) ?_
                refine lv_iload hx hb dM_byDescriptions_155 (lv_at hl 0 rfl) ?_
                refine ks_rv ⟨hx, hb, hml, hown, hA⟩ (m_meets l D a kI kL kZ v (fa n) x (fb n) (by omega) (by omega) (by omega)) (kw_M_110 hA rfl rfl ⟨Nat.le_trans (Nat.le_of_ble_eq_true rfl) hRf, Nat.le_trans (Nat.le_of_ble_eq_true rfl) hRl⟩) hK hP hS 0 5 rfl rfl rfl hl.1 (Nat.le_of_ble_eq_true rfl) ⟨by omega, by omega⟩ dM_byDescriptions_157 rfl (fun H locs hP hS => ?_)
                refine tq_i (y := bI (m_mt v (160 * (fa n) + x) (fb n))) rfl ?_
                refine tq_bf hx hb dM_byDescriptions_160 (tgt := 169) (by decide) (fun h160 => ?_) (fun h160 => ?_)
                · have hstep : m_ext v v ∧ m_ok v N kd fa fb so xa xb xc U ∧ (v.1 = v.1 → m_cD v.1 kd fa fb x n) := ⟨p1.1, p1.2.1, fun e => ⟨fun z => by omega, fun _ => ⟨p1.2.2 e, fun y q1 q2 => absurd ((mt_iff p1.2.1 hN.2.2.1).mpr ⟨y, by rw [e]; exact q1, by rw [e]; exact q2⟩) (by rw [h160]; decide)⟩⟩⟩
                  refine lv_iinc (k := 2) (lv' := [(2, .int (nI (n + 1))), (4, .int (nI (fb n))), (3, .int (nI (fa n))), (0, .ref (a 0)), (1, .int (nI x))]) hx hb dM_byDescriptions_169 hl rfl (nI_1 _) (by decide) rfl (fun ls hl => ?_)
                  refine lv_goto hx hb dM_byDescriptions_172 (tgt := 2) (by decide) ?_
                  exact ih2 (n + 1) v ls H locs (me_trans g1 hstep.1) hstep.2.1 (pass_s (C := fun B k => m_cD B kd fa fb x k) g1 hstep.1 g3 hstep.2.2) (by omega) (by omega) hP hD hS (by omega) (lv_sub hl [0, 3, 4] rfl)
                · refine lv_aload_n hx hb dM_byDescriptions_163 rfl (lv_at hl 3 rfl) ?_
                  refine lv_iload_n hx hb dM_byDescriptions_164 rfl (lv_at hl 4 rfl) ?_
                  refine lv_iload_n hx hb dM_byDescriptions_165 rfl (lv_at hl 2 rfl) ?_
                  refine ks_v (wf := mW a kI kL kZ) (u := v) ⟨hx, hb, hml, hown, hA⟩ (m_add0 l D a kI kL kZ v x n (by omega) (by omega)) (kw_M_107 hA rfl rfl ⟨Nat.le_trans (Nat.le_of_ble_eq_true rfl) hRf, Nat.le_trans (Nat.le_of_ble_eq_true rfl) hRl⟩) hK hP hD hS (fun _ h => h) (fun u' => mW_adr u') 0 5 rfl rfl rfl hl.1 (Nat.le_of_ble_eq_true rfl) ⟨by omega, by omega⟩ dM_byDescriptions_166 rfl (fun u2 H locs hu2 hP hD hS => ?_)
                  obtain ⟨y9, m1, m2⟩ := (mt_iff p1.2.1 hN.2.2.1).mp h160
                  have ad := add_of hu2 hx0 (show n < N by omega) hN.2.2.1 p1.2.1 (ru_3b (by omega) hk3 (mo_l p1.2.1 (by omega) m1).2.2.2 (p1.2.1.1 _ _ m2).2.2)
                  have hstep : m_ext v u2 ∧ m_ok u2 N kd fa fb so xa xb xc U ∧ (u2.1 = v.1 → m_cD v.1 kd fa fb x n) := ⟨me_trans p1.1 ad.1, ad.2.1, fun e => by
                      obtain ⟨q1, q2⟩ := me_sand p1.1 ad.1 e
                      exact ⟨fun z => by omega, fun _ => ⟨p1.2.2 q1, fun _ _ _ => tfl q1 (ad.2.2.1 q2)⟩⟩⟩
                  refine lv_iinc (k := 2) (lv' := [(2, .int (nI (n + 1))), (4, .int (nI (fb n))), (3, .int (nI (fa n))), (0, .ref (a 0)), (1, .int (nI x))]) hx hb dM_byDescriptions_169 hl rfl (nI_1 _) (by decide) rfl (fun ls hl => ?_)
                  refine lv_goto hx hb dM_byDescriptions_172 (tgt := 2) (by decide) ?_
                  exact ih2 (n + 1) u2 ls H locs (me_trans g1 hstep.1) hstep.2.1 (pass_s (C := fun B k => m_cD B kd fa fb x k) g1 hstep.1 g3 hstep.2.2) (by omega) (by omega) hP hD hS (by omega) (lv_sub hl [0, 3, 4] rfl)
              · refine lv_aload_n hx hb dM_byDescriptions_133 rfl (lv_at hl 3 rfl) ?_
                refine gf_M_49 (v := .ref (a 12)) hx hb hA hown hK hP 0 rfl rfl dM_byDescriptions_134 ?_
                refine lv_iload_n hx hb dM_byDescriptions_137 rfl (lv_at hl 1 rfl) ?_
                refine lv_iload_n hx hb dM_byDescriptions_138 rfl (lv_at hl 4 rfl) ?_
                refine ks_s ⟨hx, hb, hml, hown, hA⟩ (m_row l (fa n) x) (kw_M_95 hA rfl rfl ⟨Nat.le_trans (Nat.le_of_ble_eq_true rfl) hRf, Nat.le_trans (Nat.le_of_ble_eq_true rfl) hRl⟩) hP hS rfl hl.1 (Nat.le_of_ble_eq_true rfl) ⟨by omega, by omega⟩ dM_byDescriptions_139 rfl (fun H locs hP hS => ?_)
                refine lv_iload hx hb dM_byDescriptions_142 (lv_at hl 0 rfl) ?_
                refine k_set ⟨hx, hb, hml, hown, hA⟩ (kw_M_88 hA rfl rfl ⟨Nat.le_trans (Nat.le_of_ble_eq_true rfl) hRf, Nat.le_trans (Nat.le_of_ble_eq_true rfl) hRl⟩) hK hP hD hS 12 1 rfl rfl (by omega) (by omega) (by decide) hl.1 (Nat.le_of_ble_eq_true rfl) ⟨by omega, by omega⟩ dM_byDescriptions_144 (fun H locs hP hD hS => ?_)
                have hP : va_P D vwA (mW a kI kL kZ (va_up v.1 2 (tm_put (v.1 2) (160 * (fa n) + x) (fb n)), v.2.1, v.2.2)) H := hP
                have hD : va_D (mA a) (mW a kI kL kZ (va_up v.1 2 (tm_put (v.1 2) (160 * (fa n) + x) (fb n)), v.2.1, v.2.2)) := hD
                refine lv_aload_n hx hb dM_byDescriptions_147 rfl (lv_at hl 3 rfl) ?_
                refine lv_iconst (v := nI 1) hx hb dM_byDescriptions_148 (by decide +kernel) ?_
                refine pf_M_92 (v := .int (nI 1)) hx hb hA hown hK hP hD hS 0 rfl rfl rfl (Nat.le_of_ble_eq_true rfl) dM_byDescriptions_149 (fun H locs hP hD hS => ?_)
                have hP : va_P D vwA (mW a kI kL kZ (va_up v.1 2 (tm_put (v.1 2) (160 * (fa n) + x) (fb n)), v.2.1, va_up v.2.2 4 1)) H := hP
                have hD : va_D (mA a) (mW a kI kL kZ (va_up v.1 2 (tm_put (v.1 2) (160 * (fa n) + x) (fb n)), v.2.1, va_up v.2.2 4 1)) := hD
                have hP : va_P D vwA (mW a kI kL kZ (m_lk v (160 * fa n + x) (fb n))) H := hP
                have hD : va_D (mA a) (mW a kI kL kZ (m_lk v (160 * fa n + x) (fb n))) := hD
                have lk := lk_of (r := fa n) h130 e3 hx0 e4 hN.2.2.1 g2 (ru_3a (by omega) hk3 (g2.1 _ _ h113).2.2)
                have p1 : m_ext v (m_lk v (160 * fa n + x) (fb n)) ∧ m_ok (m_lk v (160 * fa n + x) (fb n)) N kd fa fb so xa xb xc U ∧ ((m_lk v (160 * fa n + x) (fb n)).1 = v.1 → v.1 0 x n = true → v.1 2 (160 * fa n + x) (fb n) = true) := ⟨lk.1, lk.2.1, fun e => absurd e lk.2.2⟩
                refine lv_aload_n hx hb dM_byDescriptions_152 rfl (lv_at hl 3 rfl) ?_
                refine lv_iload_n hx hb dM_byDescriptions_153 rfl (lv_at hl 1 rfl) ?_
                refine lv_iload_n hx hb dM_byDescriptions_154 rfl (lv_at hl 4 rfl) ?_
                refine lv_iload hx hb dM_byDescriptions_155 (lv_at hl 0 rfl) ?_
                refine ks_rv ⟨hx, hb, hml, hown, hA⟩ (m_meets l D a kI kL kZ (m_lk v (160 * fa n + x) (fb n)) (fa n) x (fb n) (by omega) (by omega) (by omega)) (kw_M_110 hA rfl rfl ⟨Nat.le_trans (Nat.le_of_ble_eq_true rfl) hRf, Nat.le_trans (Nat.le_of_ble_eq_true rfl) hRl⟩) hK hP hS 0 5 rfl rfl rfl hl.1 (Nat.le_of_ble_eq_true rfl) ⟨by omega, by omega⟩ dM_byDescriptions_157 rfl (fun H locs hP hS => ?_)
                refine tq_i (y := bI (m_mt (m_lk v (160 * fa n + x) (fb n)) (160 * (fa n) + x) (fb n))) rfl ?_
                refine tq_bf hx hb dM_byDescriptions_160 (tgt := 169) (by decide) (fun h160 => ?_) (fun h160 => ?_)
                · have hstep : m_ext v (m_lk v (160 * fa n + x) (fb n)) ∧ m_ok (m_lk v (160 * fa n + x) (fb n)) N kd fa fb so xa xb xc U ∧ ((m_lk v (160 * fa n + x) (fb n)).1 = v.1 → m_cD v.1 kd fa fb x n) := ⟨p1.1, p1.2.1, fun e => ⟨fun z => by omega, fun _ => ⟨p1.2.2 e, fun y q1 q2 => absurd ((mt_iff p1.2.1 hN.2.2.1).mpr ⟨y, by rw [e]; exact q1, by rw [e]; exact q2⟩) (by rw [h160]; decide)⟩⟩⟩
                  refine lv_iinc (k := 2) (lv' := [(2, .int (nI (n + 1))), (4, .int (nI (fb n))), (3, .int (nI (fa n))), (0, .ref (a 0)), (1, .int (nI x))]) hx hb dM_byDescriptions_169 hl rfl (nI_1 _) (by decide) rfl (fun ls hl => ?_)
                  refine lv_goto hx hb dM_byDescriptions_172 (tgt := 2) (by decide) ?_
                  exact ih2 (n + 1) (m_lk v (160 * fa n + x) (fb n)) ls H locs (me_trans g1 hstep.1) hstep.2.1 (pass_s (C := fun B k => m_cD B kd fa fb x k) g1 hstep.1 g3 hstep.2.2) (by omega) (by omega) hP hD hS (by omega) (lv_sub hl [0, 3, 4] rfl)
                · refine lv_aload_n hx hb dM_byDescriptions_163 rfl (lv_at hl 3 rfl) ?_
                  refine lv_iload_n hx hb dM_byDescriptions_164 rfl (lv_at hl 4 rfl) ?_
                  refine lv_iload_n hx hb dM_byDescriptions_165 rfl (lv_at hl 2 rfl) ?_
                  refine ks_v (wf := mW a kI kL kZ) (u := (m_lk v (160 * fa n + x) (fb n))) ⟨hx, hb, hml, hown, hA⟩ (m_add0 l D a kI kL kZ (m_lk v (160 * fa n + x) (fb n)) x n (by omega) (by omega)) (kw_M_107 hA rfl rfl ⟨Nat.le_trans (Nat.le_of_ble_eq_true rfl) hRf, Nat.le_trans (Nat.le_of_ble_eq_true rfl) hRl⟩) hK hP hD hS (fun _ h => h) (fun u' => mW_adr u') 0 5 rfl rfl rfl hl.1 (Nat.le_of_ble_eq_true rfl) ⟨by omega, by omega⟩ dM_byDescriptions_166 rfl (fun u3 H locs hu3 hP hD hS => ?_)
                  obtain ⟨y9, m1, m2⟩ := (mt_iff p1.2.1 hN.2.2.1).mp h160
                  have ad := add_of hu3 hx0 (show n < N by omega) hN.2.2.1 p1.2.1 (ru_3b (by omega) hk3 (mo_l p1.2.1 (by omega) m1).2.2.2 (p1.2.1.1 _ _ m2).2.2)
                  have hstep : m_ext v u3 ∧ m_ok u3 N kd fa fb so xa xb xc U ∧ (u3.1 = v.1 → m_cD v.1 kd fa fb x n) := ⟨me_trans p1.1 ad.1, ad.2.1, fun e => by
                      obtain ⟨q1, q2⟩ := me_sand p1.1 ad.1 e
                      exact ⟨fun z => by omega, fun _ => ⟨p1.2.2 q1, fun _ _ _ => tfl q1 (ad.2.2.1 q2)⟩⟩⟩
                  refine lv_iinc (k := 2) (lv' := [(2, .int (nI (n + 1))), (4, .int (nI (fb n))), (3, .int (nI (fa n))), (0, .ref (a 0)), (1, .int (nI x))]) hx hb dM_byDescriptions_169 hl rfl (nI_1 _) (by decide) rfl (fun ls hl => ?_)
                  refine lv_goto hx hb dM_byDescriptions_172 (tgt := 2) (by decide) ?_
                  exact ih2 (n + 1) u3 ls H locs (me_trans g1 hstep.1) hstep.2.1 (pass_s (C := fun B k => m_cD B kd fa fb x k) g1 hstep.1 g3 hstep.2.2) (by omega) (by omega) hP hD hS (by omega) (lv_sub hl [0, 3, 4] rfl)
        · have hk2 := (mt_k (j := 2) htv (show n < N by omega) (by decide) (by decide)).mp h32
          obtain ⟨e1, e2, e3, e4⟩ := mt_2 htv (show n < N by omega) hk2
          rw [e1, e2] at hl
          refine lv_aload_n hx hb dM_byDescriptions_35 rfl (lv_at hl 3 rfl) ?_
          refine gf_M_42 (v := .ref (a 10)) hx hb hA hown hK hP 0 rfl rfl dM_byDescriptions_36 ?_
          refine lv_iload_n hx hb dM_byDescriptions_39 rfl (lv_at hl 4 rfl) ?_
          refine lv_iload_n hx hb dM_byDescriptions_40 rfl (lv_at hl 2 rfl) ?_
          refine k_in ⟨hx, hb, hml, hown, hA⟩ (kw_M_84 hA rfl rfl ⟨Nat.le_trans (Nat.le_of_ble_eq_true rfl) hRf, Nat.le_trans (Nat.le_of_ble_eq_true rfl) hRl⟩) hK hP hS 10 1 rfl rfl (by omega) (by omega) (by decide) hl.1 (Nat.le_of_ble_eq_true rfl) ⟨by omega, by omega⟩ dM_byDescriptions_41 (fun H locs hP hS => ?_)
          refine tq_bf hx hb dM_byDescriptions_44 (tgt := 63) (by decide) (fun h44 => ?_) (fun h44 => ?_)
          · refine lv_aload_n hx hb dM_byDescriptions_63 rfl (lv_at hl 3 rfl) ?_
            refine gf_M_42 (v := .ref (a 10)) hx hb hA hown hK hP 0 rfl rfl dM_byDescriptions_64 ?_
            refine lv_iload_n hx hb dM_byDescriptions_67 rfl (lv_at hl 4 rfl) ?_
            refine lv_iload_n hx hb dM_byDescriptions_68 rfl (lv_at hl 1 rfl) ?_
            refine k_in ⟨hx, hb, hml, hown, hA⟩ (kw_M_84 hA rfl rfl ⟨Nat.le_trans (Nat.le_of_ble_eq_true rfl) hRf, Nat.le_trans (Nat.le_of_ble_eq_true rfl) hRl⟩) hK hP hS 10 1 rfl rfl (by omega) (by omega) (by decide) hl.1 (Nat.le_of_ble_eq_true rfl) ⟨by omega, by omega⟩ dM_byDescriptions_69 (fun H locs hP hS => ?_)
            refine tq_bf hx hb dM_byDescriptions_72 (tgt := 94) (by decide) (fun h72 => ?_) (fun h72 => ?_)
            · have hstep : m_ext v v ∧ m_ok v N kd fa fb so xa xb xc U ∧ (v.1 = v.1 → m_cD v.1 kd fa fb x n) := ⟨me_refl v, g2, fun _ => ⟨fun _ => ⟨fun z => absurd z (by rw [h44]; decide), fun z => absurd z (by rw [h72]; decide)⟩, fun z => by omega⟩⟩
              refine lv_aload_n hx hb dM_byDescriptions_94 rfl (lv_at hl 3 rfl) ?_
              refine gf_M_13 (v := .ref (a 1)) hx hb hA hown hK hP 0 rfl rfl dM_byDescriptions_95 ?_
              refine lv_iload_n hx hb dM_byDescriptions_98 rfl (lv_at hl 2 rfl) ?_
              refine tq_iald hx hb hK hP 1 0 rfl rfl (by omega) (by omega) dM_byDescriptions_99 ?_
              refine lv_iconst (v := nI 4) hx hb dM_byDescriptions_100 (by decide +kernel) ?_
              refine lv_icmp_ne hx hb dM_byDescriptions_101 (tgt := 169) (by decide) (fun h101 => ?_) (fun h101 => ?_)
              · refine lv_iinc (k := 2) (lv' := [(2, .int (nI (n + 1))), (4, .int (nI (fb n))), (3, .int (nI (fa n))), (0, .ref (a 0)), (1, .int (nI x))]) hx hb dM_byDescriptions_169 hl rfl (nI_1 _) (by decide) rfl (fun ls hl => ?_)
                refine lv_goto hx hb dM_byDescriptions_172 (tgt := 2) (by decide) ?_
                exact ih2 (n + 1) v ls H locs (me_trans g1 hstep.1) hstep.2.1 (pass_s (C := fun B k => m_cD B kd fa fb x k) g1 hstep.1 g3 hstep.2.2) (by omega) (by omega) hP hD hS (by omega) (lv_sub hl [0, 3, 4] rfl)
              · exact absurd ((mt_k (j := 3) (me_tab htv hstep.1) (show n < N by omega) (by decide) (by decide)).mp h101) (by omega)
            · refine lv_aload_n hx hb dM_byDescriptions_75 rfl (lv_at hl 3 rfl) ?_
              refine gf_M_42 (v := .ref (a 10)) hx hb hA hown hK hP 0 rfl rfl dM_byDescriptions_76 ?_
              refine lv_iload_n hx hb dM_byDescriptions_79 rfl (lv_at hl 4 rfl) ?_
              refine lv_iload hx hb dM_byDescriptions_80 (lv_at hl 0 rfl) ?_
              refine k_in ⟨hx, hb, hml, hown, hA⟩ (kw_M_84 hA rfl rfl ⟨Nat.le_trans (Nat.le_of_ble_eq_true rfl) hRf, Nat.le_trans (Nat.le_of_ble_eq_true rfl) hRl⟩) hK hP hS 10 1 rfl rfl (by omega) (by omega) (by decide) hl.1 (Nat.le_of_ble_eq_true rfl) ⟨by omega, by omega⟩ dM_byDescriptions_82 (fun H locs hP hS => ?_)
              refine tq_bf hx hb dM_byDescriptions_85 (tgt := 94) (by decide) (fun h85 => ?_) (fun h85 => ?_)
              · have hstep : m_ext v v ∧ m_ok v N kd fa fb so xa xb xc U ∧ (v.1 = v.1 → m_cD v.1 kd fa fb x n) := ⟨me_refl v, g2, fun _ => ⟨fun _ => ⟨fun z => absurd z (by rw [h44]; decide), fun _ z => absurd z (by rw [h85]; decide)⟩, fun z => by omega⟩⟩
                refine lv_aload_n hx hb dM_byDescriptions_94 rfl (lv_at hl 3 rfl) ?_
                refine gf_M_13 (v := .ref (a 1)) hx hb hA hown hK hP 0 rfl rfl dM_byDescriptions_95 ?_
                refine lv_iload_n hx hb dM_byDescriptions_98 rfl (lv_at hl 2 rfl) ?_
                refine tq_iald hx hb hK hP 1 0 rfl rfl (by omega) (by omega) dM_byDescriptions_99 ?_
                refine lv_iconst (v := nI 4) hx hb dM_byDescriptions_100 (by decide +kernel) ?_
                refine lv_icmp_ne hx hb dM_byDescriptions_101 (tgt := 169) (by decide) (fun h101 => ?_) (fun h101 => ?_)
                · refine lv_iinc (k := 2) (lv' := [(2, .int (nI (n + 1))), (4, .int (nI (fb n))), (3, .int (nI (fa n))), (0, .ref (a 0)), (1, .int (nI x))]) hx hb dM_byDescriptions_169 hl rfl (nI_1 _) (by decide) rfl (fun ls hl => ?_)
                  refine lv_goto hx hb dM_byDescriptions_172 (tgt := 2) (by decide) ?_
                  exact ih2 (n + 1) v ls H locs (me_trans g1 hstep.1) hstep.2.1 (pass_s (C := fun B k => m_cD B kd fa fb x k) g1 hstep.1 g3 hstep.2.2) (by omega) (by omega) hP hD hS (by omega) (lv_sub hl [0, 3, 4] rfl)
                · exact absurd ((mt_k (j := 3) (me_tab htv hstep.1) (show n < N by omega) (by decide) (by decide)).mp h101) (by omega)
              · refine lv_aload_n hx hb dM_byDescriptions_88 rfl (lv_at hl 3 rfl) ?_
                refine lv_iload_n hx hb dM_byDescriptions_89 rfl (lv_at hl 4 rfl) ?_
                refine lv_iload_n hx hb dM_byDescriptions_90 rfl (lv_at hl 2 rfl) ?_
                refine ks_v (wf := mW a kI kL kZ) (u := v) ⟨hx, hb, hml, hown, hA⟩ (m_add0 l D a kI kL kZ v x n (by omega) (by omega)) (kw_M_107 hA rfl rfl ⟨Nat.le_trans (Nat.le_of_ble_eq_true rfl) hRf, Nat.le_trans (Nat.le_of_ble_eq_true rfl) hRl⟩) hK hP hD hS (fun _ h => h) (fun u' => mW_adr u') 0 5 rfl rfl rfl hl.1 (Nat.le_of_ble_eq_true rfl) ⟨by omega, by omega⟩ dM_byDescriptions_91 rfl (fun u4 H locs hu4 hP hD hS => ?_)
                have ad := add_of hu4 hx0 (show n < N by omega) hN.2.2.1 g2 (ru_2b (by omega) hk2 (g2.1 _ _ h72).2.2 (g2.1 _ _ h85).2.2)
                have hstep : m_ext v u4 ∧ m_ok u4 N kd fa fb so xa xb xc U ∧ (u4.1 = v.1 → m_cD v.1 kd fa fb x n) := ⟨ad.1, ad.2.1, fun e => ⟨fun _ => ⟨fun z => absurd z (by rw [h44]; decide), fun _ _ => ad.2.2.1 e⟩, fun z => by omega⟩⟩
                refine lv_aload_n hx hb dM_byDescriptions_94 rfl (lv_at hl 3 rfl) ?_
                refine gf_M_13 (v := .ref (a 1)) hx hb hA hown hK hP 0 rfl rfl dM_byDescriptions_95 ?_
                refine lv_iload_n hx hb dM_byDescriptions_98 rfl (lv_at hl 2 rfl) ?_
                refine tq_iald hx hb hK hP 1 0 rfl rfl (by omega) (by omega) dM_byDescriptions_99 ?_
                refine lv_iconst (v := nI 4) hx hb dM_byDescriptions_100 (by decide +kernel) ?_
                refine lv_icmp_ne hx hb dM_byDescriptions_101 (tgt := 169) (by decide) (fun h101 => ?_) (fun h101 => ?_)
                · refine lv_iinc (k := 2) (lv' := [(2, .int (nI (n + 1))), (4, .int (nI (fb n))), (3, .int (nI (fa n))), (0, .ref (a 0)), (1, .int (nI x))]) hx hb dM_byDescriptions_169 hl rfl (nI_1 _) (by decide) rfl (fun ls hl => ?_)
                  refine lv_goto hx hb dM_byDescriptions_172 (tgt := 2) (by decide) ?_
                  exact ih2 (n + 1) u4 ls H locs (me_trans g1 hstep.1) hstep.2.1 (pass_s (C := fun B k => m_cD B kd fa fb x k) g1 hstep.1 g3 hstep.2.2) (by omega) (by omega) hP hD hS (by omega) (lv_sub hl [0, 3, 4] rfl)
                · exact absurd ((mt_k (j := 3) (me_tab htv hstep.1) (show n < N by omega) (by decide) (by decide)).mp h101) (by omega)
          · refine lv_aload_n hx hb dM_byDescriptions_47 rfl (lv_at hl 3 rfl) ?_
            refine lv_iload_n hx hb dM_byDescriptions_48 rfl (lv_at hl 4 rfl) ?_
            refine lv_iload_n hx hb dM_byDescriptions_49 rfl (lv_at hl 1 rfl) ?_
            refine ks_v (wf := mW a kI kL kZ) (u := v) ⟨hx, hb, hml, hown, hA⟩ (m_add0 l D a kI kL kZ v x (fa n) (by omega) (by omega)) (kw_M_107 hA rfl rfl ⟨Nat.le_trans (Nat.le_of_ble_eq_true rfl) hRf, Nat.le_trans (Nat.le_of_ble_eq_true rfl) hRl⟩) hK hP hD hS (fun _ h => h) (fun u' => mW_adr u') 0 5 rfl rfl rfl hl.1 (Nat.le_of_ble_eq_true rfl) ⟨by omega, by omega⟩ dM_byDescriptions_50 rfl (fun u5 H locs hu5 hP hD hS => ?_)
            have ad := add_of hu5 hx0 e3 hN.2.2.1 g2 (ru_2a (by omega) hk2 (g2.1 _ _ h44).2.2).1
            refine lv_aload_n hx hb dM_byDescriptions_53 rfl (lv_at hl 3 rfl) ?_
            refine lv_iload_n hx hb dM_byDescriptions_54 rfl (lv_at hl 4 rfl) ?_
            refine lv_iload hx hb dM_byDescriptions_55 (lv_at hl 0 rfl) ?_
            refine ks_v (wf := mW a kI kL kZ) (u := u5) ⟨hx, hb, hml, hown, hA⟩ (m_add0 l D a kI kL kZ u5 x (fb n) (by omega) (by omega)) (kw_M_107 hA rfl rfl ⟨Nat.le_trans (Nat.le_of_ble_eq_true rfl) hRf, Nat.le_trans (Nat.le_of_ble_eq_true rfl) hRl⟩) hK hP hD hS (fun _ h => h) (fun u' => mW_adr u') 0 5 rfl rfl rfl hl.1 (Nat.le_of_ble_eq_true rfl) ⟨by omega, by omega⟩ dM_byDescriptions_57 rfl (fun u6 H locs hu6 hP hD hS => ?_)
            have ad2 := add_of hu6 hx0 e4 hN.2.2.1 ad.2.1 (ru_2a (by omega) hk2 (g2.1 _ _ h44).2.2).2
            have hstep : m_ext v u6 ∧ m_ok u6 N kd fa fb so xa xb xc U ∧ (u6.1 = v.1 → m_cD v.1 kd fa fb x n) := ⟨me_trans ad.1 ad2.1, ad2.2.1, fun e => by
                obtain ⟨q1, q2⟩ := me_sand ad.1 ad2.1 e
                exact ⟨fun _ => ⟨fun _ => ⟨ad.2.2.1 q1, tfl q1 (ad2.2.2.1 q2)⟩, fun _ _ => h44⟩, fun z => by omega⟩⟩
            refine lv_goto hx hb dM_byDescriptions_60 (tgt := 94) (by decide) ?_
            refine lv_aload_n hx hb dM_byDescriptions_94 rfl (lv_at hl 3 rfl) ?_
            refine gf_M_13 (v := .ref (a 1)) hx hb hA hown hK hP 0 rfl rfl dM_byDescriptions_95 ?_
            refine lv_iload_n hx hb dM_byDescriptions_98 rfl (lv_at hl 2 rfl) ?_
            refine tq_iald hx hb hK hP 1 0 rfl rfl (by omega) (by omega) dM_byDescriptions_99 ?_
            refine lv_iconst (v := nI 4) hx hb dM_byDescriptions_100 (by decide +kernel) ?_
            refine lv_icmp_ne hx hb dM_byDescriptions_101 (tgt := 169) (by decide) (fun h101 => ?_) (fun h101 => ?_)
            · refine lv_iinc (k := 2) (lv' := [(2, .int (nI (n + 1))), (4, .int (nI (fb n))), (3, .int (nI (fa n))), (0, .ref (a 0)), (1, .int (nI x))]) hx hb dM_byDescriptions_169 hl rfl (nI_1 _) (by decide) rfl (fun ls hl => ?_)
              refine lv_goto hx hb dM_byDescriptions_172 (tgt := 2) (by decide) ?_
              exact ih2 (n + 1) u6 ls H locs (me_trans g1 hstep.1) hstep.2.1 (pass_s (C := fun B k => m_cD B kd fa fb x k) g1 hstep.1 g3 hstep.2.2) (by omega) (by omega) hP hD hS (by omega) (lv_sub hl [0, 3, 4] rfl)
            · exact absurd ((mt_k (j := 3) (me_tab htv hstep.1) (show n < N by omega) (by decide) (by decide)).mp h101) (by omega)
  exact lp _ 2 u ls _ _ (me_refl u) ho (fun _ k _ z => by omega) (by omega) (by omega) hP hD hS (Nat.lt_succ_self _) (lv_sub hl [0, 1, 2] rfl)
def m_c1 (B : Nat → Nat → Nat → Bool) (x r : Nat) : Prop := ∀ y, B 2 (160 * r + x) y = true → B 0 y 1 = true → B 0 x 1 = true
def m_c2 (B : Nat → Nat → Nat → Bool) (x k : Nat) : Prop := B 0 x 1 = true → B 0 x k = true
set_option maxHeartbeats 4000000 in
set_option maxRecDepth 100000 in
/-- m_byNothing -/
theorem m_byNothing (l : Launch) (D : va_G) (a : Nat → Nat) (kI kL kZ : ClassId) (u : sU) (N : Nat) (kd fa fb : Nat → Nat) (T : Nat) (so xa xb xc : Nat → Nat) (hta : m_tab u N kd fa fb T so xa xb xc) (U : Nat → Prop) (hu9 : m_use u T U) (ho : m_ok u N kd fa fb so xa xb xc U) (hm4 : u.2.2 4 ≤ 1) (x : Nat) (hx0 : x < N) : Met l yM_byNothing (wM_byNothing :: wA) ({ frames := 2, cells := 0, slots := 0, locals := 47 }) (va_Pc [.ref (a 0), .int (nI x)] (tq_wB D vwA (mW a kI kL kZ u) (sT kI kL kZ))) (va_Qv (fun (u' : sU) => m_ext u u' ∧ m_ok u' N kd fa fb so xa xb xc U ∧ (u'.1 = u.1 → m_cN u.1 N x)) (fun u' t => va_P D vwA (mW a kI kL kZ u') t.heap) (mA a)) 0 0 (mA a) := by
  refine Met.ofW (cc := bM_byNothing) (maxL := 3) (ret := none) (by decide +kernel) rfl ?_
  intro p e s m args below meth c s₁ B1 hml hv
  obtain ⟨rfl, hP, hK, hD0⟩ := hv
  have hx := B1.exec
  have hb := B1.bytes
  have hr := B1.returns
  have hA : ∀ w ∈ wA, w.before ([.ref (a 0), .int (nI x)] : List Value).toArray s = true := fun w h => atoms_spec (ws := wM_byNothing :: wA) B1.pre w (List.mem_cons_of_mem _ h)
  have hown : s.vm.findClass RcM = some m.cls := findClass_of_methodNamed B1.named
  have hlocks := B1.notSynchronized
  have hS : va_S (mA a) s.heap s.heap [] := va_S.rf
  have hl := lv_entry ([.ref (a 0), .int (nI x)]) (n := 3) (Nat.le_of_ble_eq_true rfl)
  rw [lg_entry_eq]
  generalize (lg_sl ([.ref (a 0), .int (nI x)]) ++ List.replicate (3 - (lg_sl ([.ref (a 0), .int (nI x)])).length) Slot.unset).toArray = ls at hl ⊢
  have hl : lv_has ls 3 [(0, .ref (a 0)), (1, .int (nI x))] := hl
  refine tq_gen (fun R Q hRe hQe => ?_)
  have hRf : 2 ≤ R.frames := by rw [hRe]; exact Nat.le_of_ble_eq_true rfl
  have hRl : 47 ≤ R.locals := by rw [hRe]; exact Nat.le_of_ble_eq_true rfl
  have hRc : 0 ≤ R.cells := by rw [hRe]; exact Nat.le_of_ble_eq_true rfl
  have hRs : 0 ≤ R.slots := by rw [hRe]; exact Nat.le_of_ble_eq_true rfl
  have hD := mA_D hD0
  have hN := mt_N hta
  refine lv_iconst (v := nI 0) hx hb dM_byNothing_0 (by decide +kernel) ?_
  refine lv_istore_n (lv' := [(2, .int (nI 0)), (0, .ref (a 0)), (1, .int (nI x))]) hx hb dM_byNothing_1 rfl hl (by decide) rfl (fun ls hl => ?_)
  have lp : ∀ (fu : Nat) (n : Nat) (v : sU) (ls : Array Slot) (H : Heap) (locs : List Loc), m_ext u v → m_ok v N kd fa fb so xa xb xc U → (v.1 = u.1 → ∀ k, 0 ≤ k → k < n → m_c1 u.1 x k) → n ≤ 6 → va_P D vwA (mW a kI kL kZ v) H → va_D (mA a) (mW a kI kL kZ v) → va_S (mA a) s.heap H locs → 6 - n < fu → lv_has ls 3 [(2, .int (nI n)), (0, .ref (a 0)), (1, .int (nI x))] → W p l e R s m ([.ref (a 0), .int (nI x)] : List Value).toArray below meth c H locs 0 0 Q (F0 m 2 ls []) := by
    intro fu
    induction fu with
    | zero => intros; omega
    | succ fu ih2 =>
      intro n v ls H locs g1 g2 g3 g4 hP hD hS hfu hl
      have htv := me_tab hta g1
      have hv := mt_N htv
      have hv4 := me_4 g1 hm4
      have huv := me_use hu9 g1
      refine lv_iload_n hx hb dM_byNothing_2 rfl (lv_at hl 0 rfl) ?_
      refine lv_bipush (v := nI 6) hx hb dM_byNothing_3 (by decide +kernel) ?_
      refine tq_ge hx hb dM_byNothing_5 (tgt := 30) (by decide) (by omega) (by omega) (fun h5 => ?_) (fun h5 => ?_)
      · refine lv_iconst (v := nI 0) hx hb dM_byNothing_30 (by decide +kernel) ?_
        refine lv_istore_n (lv' := [(2, .int (nI 0)), (0, .ref (a 0)), (1, .int (nI x))]) hx hb dM_byNothing_31 rfl hl (by decide) rfl (fun ls hl => ?_)
        have lp2 : ∀ (fu : Nat) (j : Nat) (w2 : sU) (ls : Array Slot) (H : Heap) (locs : List Loc), m_ext u w2 → m_ok w2 N kd fa fb so xa xb xc U → (w2.1 = u.1 → ∀ k, 0 ≤ k → k < 6 → m_c1 u.1 x k) → (w2.1 = u.1 → ∀ k, 0 ≤ k → k < j → m_c2 u.1 x k) → j ≤ N → va_P D vwA (mW a kI kL kZ w2) H → va_D (mA a) (mW a kI kL kZ w2) → va_S (mA a) s.heap H locs → N - j < fu → lv_has ls 3 [(2, .int (nI j)), (0, .ref (a 0)), (1, .int (nI x))] → W p l e R s m ([.ref (a 0), .int (nI x)] : List Value).toArray below meth c H locs 0 0 Q (F0 m 32 ls []) := by
          intro fu
          induction fu with
          | zero => intros; omega
          | succ fu ih32 =>
            intro j w2 ls H locs k0 k2 k1 k3 k4 hP hD hS hfu hl
            have hw := mt_N (me_tab hta k0)
            refine lv_iload_n hx hb dM_byNothing_32 rfl (lv_at hl 0 rfl) ?_
            refine lv_aload_n hx hb dM_byNothing_33 rfl (lv_at hl 1 rfl) ?_
            refine gf_M_7 (v := .int (nI (w2.2.2 1))) hx hb hA hown hK hP 0 rfl rfl dM_byNothing_34 ?_
            refine tq_ge hx hb dM_byNothing_37 (tgt := 64) (by decide) (by omega) (by omega) (fun h37 => ?_) (fun h37 => ?_)
            · subst hQe
              exact W.vret hx hb hr (fun t ht hW => ⟨⟨w2, rfl, ⟨k0, k2, fun e => ⟨fun r y h1 h2 h3 => k1 e r (Nat.zero_le _) h1 y h2 h3, fun z k hk => by
                  first
                  | exact k3 e k (Nat.zero_le _) (by omega) z
                  | exact absurd z (tfr e h49)⟩⟩, tq_hp ht hP⟩, hS.F ht⟩) hS.2.2 dM_byNothing_64
            · refine lv_aload_n hx hb dM_byNothing_40 rfl (lv_at hl 1 rfl) ?_
              refine gf_M_42 (v := .ref (a 10)) hx hb hA hown hK hP 0 rfl rfl dM_byNothing_41 ?_
              refine lv_iload_n hx hb dM_byNothing_44 rfl (lv_at hl 2 rfl) ?_
              refine lv_iconst (v := nI 1) hx hb dM_byNothing_45 (by decide +kernel) ?_
              refine k_in ⟨hx, hb, hml, hown, hA⟩ (kw_M_84 hA rfl rfl ⟨Nat.le_trans (Nat.le_of_ble_eq_true rfl) hRf, Nat.le_trans (Nat.le_of_ble_eq_true rfl) hRl⟩) hK hP hS 10 1 rfl rfl (by omega) (by omega) (by decide) hl.1 (Nat.le_of_ble_eq_true rfl) ⟨by omega, by omega⟩ dM_byNothing_46 (fun H locs hP hS => ?_)
              refine tq_bf hx hb dM_byNothing_49 (tgt := 64) (by decide) (fun h49 => ?_) (fun h49 => ?_)
              · subst hQe
                exact W.vret hx hb hr (fun t ht hW => ⟨⟨w2, rfl, ⟨k0, k2, fun e => ⟨fun r y h1 h2 h3 => k1 e r (Nat.zero_le _) h1 y h2 h3, fun z k hk => by
                    first
                    | exact k3 e k (Nat.zero_le _) (by omega) z
                    | exact absurd z (tfr e h49)⟩⟩, tq_hp ht hP⟩, hS.F ht⟩) hS.2.2 dM_byNothing_64
              · refine lv_aload_n hx hb dM_byNothing_52 rfl (lv_at hl 1 rfl) ?_
                refine lv_iload_n hx hb dM_byNothing_53 rfl (lv_at hl 2 rfl) ?_
                refine lv_iload_n hx hb dM_byNothing_54 rfl (lv_at hl 0 rfl) ?_
                refine ks_v (wf := mW a kI kL kZ) (u := w2) ⟨hx, hb, hml, hown, hA⟩ (m_add0 l D a kI kL kZ w2 x j (by omega) (by omega)) (kw_M_107 hA rfl rfl ⟨Nat.le_trans (Nat.le_of_ble_eq_true rfl) hRf, Nat.le_trans (Nat.le_of_ble_eq_true rfl) hRl⟩) hK hP hD hS (fun _ h => h) (fun u' => mW_adr u') 0 5 rfl rfl rfl hl.1 (Nat.le_of_ble_eq_true rfl) ⟨by omega, by omega⟩ dM_byNothing_55 rfl (fun u1 H locs hu1 hP hD hS => ?_)
                have ad := add_of hu1 hx0 (show j < N by omega) hN.2.2.1 k2 (ru_e (k2.1 _ _ h49).2.2 (by omega))
                have hstep2 : m_ext w2 u1 ∧ m_ok u1 N kd fa fb so xa xb xc U ∧ (u1.1 = w2.1 → m_c2 w2.1 x j) := ⟨ad.1, ad.2.1, fun e _ => ad.2.2.1 e⟩
                refine lv_iinc (k := 0) (lv' := [(2, .int (nI (j + 1))), (0, .ref (a 0)), (1, .int (nI x))]) hx hb dM_byNothing_58 hl rfl (nI_1 _) (by decide) rfl (fun ls hl => ?_)
                refine lv_goto hx hb dM_byNothing_61 (tgt := 32) (by decide) ?_
                exact ih32 (j + 1) u1 ls H locs (me_trans k0 hstep2.1) hstep2.2.1 (fun e => k1 (me_sand k0 hstep2.1 e).1) (pass_s (C := fun B k => m_c2 B x k) k0 hstep2.1 k3 hstep2.2.2) (by omega) hP hD hS (by omega) (lv_sub hl [0, 1, 2] rfl)
        exact lp2 _ 0 v ls _ _ g1 g2 (fun e k z1 z2 => g3 e k z1 (by omega)) (fun _ k _ z => by omega) (by omega) hP hD hS (Nat.lt_succ_self _) (lv_sub hl [0, 1, 2] rfl)
      · refine lv_aload_n hx hb dM_byNothing_8 rfl (lv_at hl 1 rfl) ?_
        refine lv_iload_n hx hb dM_byNothing_9 rfl (lv_at hl 0 rfl) ?_
        refine lv_iload_n hx hb dM_byNothing_10 rfl (lv_at hl 2 rfl) ?_
        refine lv_iconst (v := nI 1) hx hb dM_byNothing_11 (by decide +kernel) ?_
        refine ks_rv ⟨hx, hb, hml, hown, hA⟩ (m_meets l D a kI kL kZ v n x 1 (by omega) (by omega) (by omega)) (kw_M_110 hA rfl rfl ⟨Nat.le_trans (Nat.le_of_ble_eq_true rfl) hRf, Nat.le_trans (Nat.le_of_ble_eq_true rfl) hRl⟩) hK hP hS 0 5 rfl rfl rfl hl.1 (Nat.le_of_ble_eq_true rfl) ⟨by omega, by omega⟩ dM_byNothing_12 rfl (fun H locs hP hS => ?_)
        refine tq_i (y := bI (m_mt v (160 * n + x) 1)) rfl ?_
        refine tq_bf hx hb dM_byNothing_15 (tgt := 24) (by decide) (fun h15 => ?_) (fun h15 => ?_)
        · have hstep : m_ext v v ∧ m_ok v N kd fa fb so xa xb xc U ∧ (v.1 = v.1 → m_c1 v.1 x n) := ⟨me_refl v, g2, fun _ y q1 q2 => absurd ((mt_iff g2 hN.2.2.1).mpr ⟨y, q1, q2⟩) (by rw [h15]; decide)⟩
          refine lv_iinc (k := 0) (lv' := [(2, .int (nI (n + 1))), (0, .ref (a 0)), (1, .int (nI x))]) hx hb dM_byNothing_24 hl rfl (nI_1 _) (by decide) rfl (fun ls hl => ?_)
          refine lv_goto hx hb dM_byNothing_27 (tgt := 2) (by decide) ?_
          exact ih2 (n + 1) v ls H locs (me_trans g1 hstep.1) hstep.2.1 (pass_s (C := fun B k => m_c1 B x k) g1 hstep.1 g3 hstep.2.2) (by omega) hP hD hS (by omega) (lv_sub hl [0, 1, 2] rfl)
        · refine lv_aload_n hx hb dM_byNothing_18 rfl (lv_at hl 1 rfl) ?_
          refine lv_iload_n hx hb dM_byNothing_19 rfl (lv_at hl 2 rfl) ?_
          refine lv_iconst (v := nI 1) hx hb dM_byNothing_20 (by decide +kernel) ?_
          refine ks_v (wf := mW a kI kL kZ) (u := v) ⟨hx, hb, hml, hown, hA⟩ (m_add0 l D a kI kL kZ v x 1 (by omega) (by omega)) (kw_M_107 hA rfl rfl ⟨Nat.le_trans (Nat.le_of_ble_eq_true rfl) hRf, Nat.le_trans (Nat.le_of_ble_eq_true rfl) hRl⟩) hK hP hD hS (fun _ h => h) (fun u' => mW_adr u') 0 5 rfl rfl rfl hl.1 (Nat.le_of_ble_eq_true rfl) ⟨by omega, by omega⟩ dM_byNothing_21 rfl (fun u2 H locs hu2 hP hD hS => ?_)
          obtain ⟨y9, m1, m2⟩ := (mt_iff g2 hN.2.2.1).mp h15
          have ad := add_of hu2 hx0 (show 1 < N by omega) hN.2.2.1 g2 (ru_n (mo_l g2 (by omega) m1).2.2.2 (g2.1 _ _ m2).2.2)
          have hstep : m_ext v u2 ∧ m_ok u2 N kd fa fb so xa xb xc U ∧ (u2.1 = v.1 → m_c1 v.1 x n) := ⟨ad.1, ad.2.1, fun e _ _ _ => ad.2.2.1 e⟩
          refine lv_iinc (k := 0) (lv' := [(2, .int (nI (n + 1))), (0, .ref (a 0)), (1, .int (nI x))]) hx hb dM_byNothing_24 hl rfl (nI_1 _) (by decide) rfl (fun ls hl => ?_)
          refine lv_goto hx hb dM_byNothing_27 (tgt := 2) (by decide) ?_
          exact ih2 (n + 1) u2 ls H locs (me_trans g1 hstep.1) hstep.2.1 (pass_s (C := fun B k => m_c1 B x k) g1 hstep.1 g3 hstep.2.2) (by omega) hP hD hS (by omega) (lv_sub hl [0, 1, 2] rfl)
  exact lp _ 0 u ls _ _ (me_refl u) ho (fun _ k _ z => by omega) (by omega) hP hD hS (Nat.lt_succ_self _) (lv_sub hl [0, 1, 2] rfl)
