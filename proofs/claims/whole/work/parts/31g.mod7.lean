/-! The model: the public methods that read. Written by wip/whole/gen/genM4.py. -/
set_option maxHeartbeats 4000000 in
set_option maxRecDepth 100000 in
/-- m_isBelow -/
theorem m_isBelow (l : Launch) (D : va_G) (a : Nat → Nat) (kI kL kZ : ClassId) (u : sU) (N : Nat) (kd fa fb : Nat → Nat) (T : Nat) (so xa xb xc : Nat → Nat) (F : Nat → Prop) (M : Nat) (rs : Nat → Nat) (hin : m_inv u N kd fa fb T so xa xb xc F M rs) (d d2 : Nat) (hd : d < N) (hd2 : d2 < N) : Met l yM_isBelow (wM_isBelow :: wA) ({ frames := 5, cells := 0, slots := 0, locals := 118 }) (va_Pc [.ref (a 0), .int (nI d), .int (nI d2)] (tq_wB D vwA (mW a kI kL kZ u) (sT kI kL kZ))) (va_Qi (fun r (u' : sU) => (r = bI (u'.1 0 d d2)) ∧ m_inv u' N kd fa fb T so xa xb xc F M rs ∧ u'.2.2 0 = 0 ∧ u'.2.2 3 = 1) (fun u' t => va_P D vwA (mW a kI kL kZ u') t.heap) (mA a)) 0 0 (mA a) := by
  refine Met.ofW (cc := bM_isBelow) (maxL := 3) (ret := (some .boolean)) (by decide +kernel) rfl ?_
  intro p e s m args below meth c s₁ B1 hml hv
  obtain ⟨rfl, hP, hK, hD0⟩ := hv
  have hx := B1.exec
  have hb := B1.bytes
  have hr := B1.returns
  have hA : ∀ w ∈ wA, w.before ([.ref (a 0), .int (nI d), .int (nI d2)] : List Value).toArray s = true := fun w h => atoms_spec (ws := wM_isBelow :: wA) B1.pre w (List.mem_cons_of_mem _ h)
  have hown : s.vm.findClass RcM = some m.cls := findClass_of_methodNamed B1.named
  have hlocks := B1.notSynchronized
  have hS : va_S (mA a) s.heap s.heap [] := va_S.rf
  have hl := lv_entry ([.ref (a 0), .int (nI d), .int (nI d2)]) (n := 3) (Nat.le_of_ble_eq_true rfl)
  rw [lg_entry_eq]
  generalize (lg_sl ([.ref (a 0), .int (nI d), .int (nI d2)]) ++ List.replicate (3 - (lg_sl ([.ref (a 0), .int (nI d), .int (nI d2)])).length) Slot.unset).toArray = ls at hl ⊢
  have hl : lv_has ls 3 [(0, .ref (a 0)), (1, .int (nI d)), (2, .int (nI d2))] := hl
  refine tq_gen (fun R Q hRe hQe => ?_)
  have hRf : 5 ≤ R.frames := by rw [hRe]; exact Nat.le_of_ble_eq_true rfl
  have hRl : 118 ≤ R.locals := by rw [hRe]; exact Nat.le_of_ble_eq_true rfl
  have hRc : 0 ≤ R.cells := by rw [hRe]; exact Nat.le_of_ble_eq_true rfl
  have hRs : 0 ≤ R.slots := by rw [hRe]; exact Nat.le_of_ble_eq_true rfl
  have hD := mA_D hD0
  have hta := hin.1
  have hN := mt_N hta
  have t1 : m_th (u.2.2 1) (nI d) = true := th_t (by omega)
  have t2 : m_th (u.2.2 1) (nI d2) = true := th_t (by omega)
  refine lv_aload_n hx hb dM_isBelow_0 rfl (lv_at hl 0 rfl) ?_
  refine lv_aload_n hx hb dM_isBelow_1 rfl (lv_at hl 0 rfl) ?_
  refine lv_iload_n hx hb dM_isBelow_2 rfl (lv_at hl 1 rfl) ?_
  refine ks_rv ⟨hx, hb, hml, hown, hA⟩ (m_isThere l D a kI kL kZ u (nI d) (by omega)) (kw_M_66 hA rfl rfl ⟨Nat.le_trans (Nat.le_of_ble_eq_true rfl) hRf, Nat.le_trans (Nat.le_of_ble_eq_true rfl) hRl⟩) hK hP hS 0 5 rfl rfl rfl hl.1 (Nat.le_of_ble_eq_true rfl) ⟨by omega, by omega⟩ dM_isBelow_3 rfl (fun H locs hP hS => ?_)
  refine tq_i (y := bI (m_th (u.2.2 1) (nI d))) rfl ?_
  refine tq_bf hx hb dM_isBelow_6 (tgt := 17) (by decide) (fun h6 => ?_) (fun h6 => ?_)
  · exact absurd h6 (by rw [t1]; decide)
  · refine lv_aload_n hx hb dM_isBelow_9 rfl (lv_at hl 0 rfl) ?_
    refine lv_iload_n hx hb dM_isBelow_10 rfl (lv_at hl 2 rfl) ?_
    refine ks_rv ⟨hx, hb, hml, hown, hA⟩ (m_isThere l D a kI kL kZ u (nI d2) (by omega)) (kw_M_66 hA rfl rfl ⟨Nat.le_trans (Nat.le_of_ble_eq_true rfl) hRf, Nat.le_trans (Nat.le_of_ble_eq_true rfl) hRl⟩) hK hP hS 0 5 rfl rfl rfl hl.1 (Nat.le_of_ble_eq_true rfl) ⟨by omega, by omega⟩ dM_isBelow_11 rfl (fun H locs hP hS => ?_)
    refine tq_i (y := bI (m_th (u.2.2 1) (nI d2))) rfl ?_
    refine tq_bt hx hb dM_isBelow_14 (tgt := 21) (by decide) (fun h14 => ?_) (fun h14 => ?_)
    · refine lv_iconst (v := nI 0) hx hb dM_isBelow_21 (by decide +kernel) ?_
      refine ks_i (wf := mW a kI kL kZ) (u := u) ⟨hx, hb, hml, hown, hA⟩ (m_fails0 l D a kI kL kZ u ) (kw_M_70 hA rfl rfl ⟨Nat.le_trans (Nat.le_of_ble_eq_true rfl) hRf, Nat.le_trans (Nat.le_of_ble_eq_true rfl) hRl⟩) hK hP hD hS (fun _ h => h) (fun u' => mW_adr u') 0 5 rfl rfl rfl hl.1 (Nat.le_of_ble_eq_true rfl) ⟨by omega, by omega⟩ dM_isBelow_22 rfl (fun r1 u1 H locs hu1 hP hD hS => ?_)
      refine tq_i hu1.1 ?_
      have hinu1 : m_inv u1 N kd fa fb T so xa xb xc F M rs := by rw [hu1.2]; exact hin
      have hNu1 := mt_N hinu1.1
      have hzu1 : u1.2.2 0 = 0 := by rw [hu1.2]; rfl
      refine tq_zeq hx hb dM_isBelow_25 (tgt := 30) (by decide) (by omega) (fun h25 => ?_) (fun h25 => ?_)
      · refine lv_aload_n hx hb dM_isBelow_30 rfl (lv_at hl 0 rfl) ?_
        refine ks_v (wf := mW a kI kL kZ) (u := u1) ⟨hx, hb, hml, hown, hA⟩ (m_close l D a kI kL kZ u1 N kd fa fb T so xa xb xc hinu1.1 F hinu1.2.1 hinu1.2.2.1 hinu1.2.2.2.1 hinu1.2.2.2.2.1 hinu1.2.2.2.2.2.1) (kw_M_127 hA rfl rfl ⟨Nat.le_trans (Nat.le_of_ble_eq_true rfl) hRf, Nat.le_trans (Nat.le_of_ble_eq_true rfl) hRl⟩) hK hP hD hS (fun _ h => h) (fun u' => mW_adr u') 0 5 rfl rfl rfl hl.1 (Nat.le_of_ble_eq_true rfl) ⟨by omega, by omega⟩ dM_isBelow_31 rfl (fun u2 H locs hu2 hP hD hS => ?_)
        have hinu2 := cls_inv hinu1 hu2
        have hNu2 := mt_N hinu2.1
        have hzu2 : u2.2.2 0 = 0 := (hu2.2.1 0 (by decide) (by decide)).trans hzu1
        have hc3 := hu2.2.2.1
        have hfl := hu2.2.2.2.2
        refine lv_aload_n hx hb dM_isBelow_34 rfl (lv_at hl 0 rfl) ?_
        refine gf_M_42 (v := .ref (a 10)) hx hb hA hown hK hP 0 rfl rfl dM_isBelow_35 ?_
        refine lv_iload_n hx hb dM_isBelow_38 rfl (lv_at hl 1 rfl) ?_
        refine lv_iload_n hx hb dM_isBelow_39 rfl (lv_at hl 2 rfl) ?_
        refine k_in ⟨hx, hb, hml, hown, hA⟩ (kw_M_84 hA rfl rfl ⟨Nat.le_trans (Nat.le_of_ble_eq_true rfl) hRf, Nat.le_trans (Nat.le_of_ble_eq_true rfl) hRl⟩) hK hP hS 10 1 rfl rfl (by omega) (by omega) (by decide) hl.1 (Nat.le_of_ble_eq_true rfl) ⟨by omega, by omega⟩ dM_isBelow_40 (fun H locs hP hS => ?_)
        subst hQe
        exact W.zret (v := bI ((u2.1 0) d d2)) (ty := .boolean) hx hb hr (tq_nz _) (fun t ht hW => ⟨⟨_, u2, rfl, ⟨rfl, hinu2, hzu2, hc3⟩, tq_hp ht hP⟩, hS.F ht⟩) hS.2.2 dM_isBelow_43
      · omega
    · exact absurd h14 (by rw [t2]; decide)
set_option maxHeartbeats 4000000 in
set_option maxRecDepth 100000 in
/-- m_supers -/
theorem m_supers (l : Launch) (D : va_G) (a : Nat → Nat) (kI kL kZ : ClassId) (u : sU) (N : Nat) (kd fa fb : Nat → Nat) (T : Nat) (so xa xb xc : Nat → Nat) (F : Nat → Prop) (M : Nat) (rs : Nat → Nat) (hin : m_inv u N kd fa fb T so xa xb xc F M rs) (d : Nat) (hd : d < N) : Met l yM_supers (wM_supers :: wA) ({ frames := 5, cells := 0, slots := 0, locals := 118 }) (va_Pc [.ref (a 0), .int (nI d)] (tq_wB D vwA (mW a kI kL kZ u) (sT kI kL kZ))) (va_Qi (fun r (u' : sU) => (r = nI (tm_cnt (m_na u' d) N)) ∧ m_inv u' N kd fa fb T so xa xb xc F M rs ∧ u'.2.2 0 = 0 ∧ u'.2.2 3 = 1) (fun u' t => va_P D vwA (mW a kI kL kZ u') t.heap) (mA a)) 0 0 (mA a) := by
  refine Met.ofW (cc := bM_supers) (maxL := 4) (ret := (some .int)) (by decide +kernel) rfl ?_
  intro p e s m args below meth c s₁ B1 hml hv
  obtain ⟨rfl, hP, hK, hD0⟩ := hv
  have hx := B1.exec
  have hb := B1.bytes
  have hr := B1.returns
  have hA : ∀ w ∈ wA, w.before ([.ref (a 0), .int (nI d)] : List Value).toArray s = true := fun w h => atoms_spec (ws := wM_supers :: wA) B1.pre w (List.mem_cons_of_mem _ h)
  have hown : s.vm.findClass RcM = some m.cls := findClass_of_methodNamed B1.named
  have hlocks := B1.notSynchronized
  have hS : va_S (mA a) s.heap s.heap [] := va_S.rf
  have hl := lv_entry ([.ref (a 0), .int (nI d)]) (n := 4) (Nat.le_of_ble_eq_true rfl)
  rw [lg_entry_eq]
  generalize (lg_sl ([.ref (a 0), .int (nI d)]) ++ List.replicate (4 - (lg_sl ([.ref (a 0), .int (nI d)])).length) Slot.unset).toArray = ls at hl ⊢
  have hl : lv_has ls 4 [(0, .ref (a 0)), (1, .int (nI d))] := hl
  refine tq_gen (fun R Q hRe hQe => ?_)
  have hRf : 5 ≤ R.frames := by rw [hRe]; exact Nat.le_of_ble_eq_true rfl
  have hRl : 118 ≤ R.locals := by rw [hRe]; exact Nat.le_of_ble_eq_true rfl
  have hRc : 0 ≤ R.cells := by rw [hRe]; exact Nat.le_of_ble_eq_true rfl
  have hRs : 0 ≤ R.slots := by rw [hRe]; exact Nat.le_of_ble_eq_true rfl
  have hD := mA_D hD0
  have hta := hin.1
  have hN := mt_N hta
  have t1 : m_th (u.2.2 1) (nI d) = true := th_t (by omega)
  refine lv_aload_n hx hb dM_supers_0 rfl (lv_at hl 0 rfl) ?_
  refine lv_aload_n hx hb dM_supers_1 rfl (lv_at hl 0 rfl) ?_
  refine lv_iload_n hx hb dM_supers_2 rfl (lv_at hl 1 rfl) ?_
  refine ks_rv ⟨hx, hb, hml, hown, hA⟩ (m_isThere l D a kI kL kZ u (nI d) (by omega)) (kw_M_66 hA rfl rfl ⟨Nat.le_trans (Nat.le_of_ble_eq_true rfl) hRf, Nat.le_trans (Nat.le_of_ble_eq_true rfl) hRl⟩) hK hP hS 0 5 rfl rfl rfl hl.1 (Nat.le_of_ble_eq_true rfl) ⟨by omega, by omega⟩ dM_supers_3 rfl (fun H locs hP hS => ?_)
  refine tq_i (y := bI (m_th (u.2.2 1) (nI d))) rfl ?_
  refine tq_bt hx hb dM_supers_6 (tgt := 13) (by decide) (fun h6 => ?_) (fun h6 => ?_)
  · refine lv_iconst (v := nI 0) hx hb dM_supers_13 (by decide +kernel) ?_
    refine ks_i (wf := mW a kI kL kZ) (u := u) ⟨hx, hb, hml, hown, hA⟩ (m_fails0 l D a kI kL kZ u ) (kw_M_70 hA rfl rfl ⟨Nat.le_trans (Nat.le_of_ble_eq_true rfl) hRf, Nat.le_trans (Nat.le_of_ble_eq_true rfl) hRl⟩) hK hP hD hS (fun _ h => h) (fun u' => mW_adr u') 0 5 rfl rfl rfl hl.1 (Nat.le_of_ble_eq_true rfl) ⟨by omega, by omega⟩ dM_supers_14 rfl (fun r1 u1 H locs hu1 hP hD hS => ?_)
    refine tq_i hu1.1 ?_
    have hinu1 : m_inv u1 N kd fa fb T so xa xb xc F M rs := by rw [hu1.2]; exact hin
    have hNu1 := mt_N hinu1.1
    have hzu1 : u1.2.2 0 = 0 := by rw [hu1.2]; rfl
    refine tq_zeq hx hb dM_supers_17 (tgt := 22) (by decide) (by omega) (fun h17 => ?_) (fun h17 => ?_)
    · refine lv_aload_n hx hb dM_supers_22 rfl (lv_at hl 0 rfl) ?_
      refine ks_v (wf := mW a kI kL kZ) (u := u1) ⟨hx, hb, hml, hown, hA⟩ (m_close l D a kI kL kZ u1 N kd fa fb T so xa xb xc hinu1.1 F hinu1.2.1 hinu1.2.2.1 hinu1.2.2.2.1 hinu1.2.2.2.2.1 hinu1.2.2.2.2.2.1) (kw_M_127 hA rfl rfl ⟨Nat.le_trans (Nat.le_of_ble_eq_true rfl) hRf, Nat.le_trans (Nat.le_of_ble_eq_true rfl) hRl⟩) hK hP hD hS (fun _ h => h) (fun u' => mW_adr u') 0 5 rfl rfl rfl hl.1 (Nat.le_of_ble_eq_true rfl) ⟨by omega, by omega⟩ dM_supers_23 rfl (fun u2 H locs hu2 hP hD hS => ?_)
      have hinu2 := cls_inv hinu1 hu2
      have hNu2 := mt_N hinu2.1
      have hzu2 : u2.2.2 0 = 0 := (hu2.2.1 0 (by decide) (by decide)).trans hzu1
      have hc3 := hu2.2.2.1
      have hfl := hu2.2.2.2.2
      have hlo := m_nm_lo hinu2.1
      have hlo2 : tm_cnt (m_na u2 d) 2 = 0 := cnt_zero (fun k hk => and_f (hlo k hk))
      refine lv_iconst (v := nI 0) hx hb dM_supers_26 (by decide +kernel) ?_
      refine lv_istore_n (lv' := [(2, .int (nI 0)), (0, .ref (a 0)), (1, .int (nI d))]) hx hb dM_supers_27 rfl hl (by decide) rfl (fun ls hl => ?_)
      refine lv_iconst (v := nI 2) hx hb dM_supers_28 (by decide +kernel) ?_
      refine lv_istore_n (lv' := [(3, .int (nI 2)), (2, .int (nI 0)), (0, .ref (a 0)), (1, .int (nI d))]) hx hb dM_supers_29 rfl hl (by decide) rfl (fun ls hl => ?_)
      have lp : ∀ (fu : Nat) (q n : Nat) (ls : Array Slot) (H : Heap) (locs : List Loc), q = tm_cnt (m_na u2 d) n → n ≤ N → va_P D vwA (mW a kI kL kZ u2) H → va_D (mA a) (mW a kI kL kZ u2) → va_S (mA a) s.heap H locs → N - n < fu → lv_has ls 4 [(3, .int (nI n)), (2, .int (nI q)), (0, .ref (a 0)), (1, .int (nI d))] → W p l e R s m ([.ref (a 0), .int (nI d)] : List Value).toArray below meth c H locs 0 0 Q (F0 m 30 ls []) := by
        intro fu
        induction fu with
        | zero => intros; omega
        | succ fu ih30 =>
          intro q n ls H locs g1 g2 hP hD hS hfu hl
          refine lv_iload_n hx hb dM_supers_30 rfl (lv_at hl 0 rfl) ?_
          refine lv_aload_n hx hb dM_supers_31 rfl (lv_at hl 2 rfl) ?_
          refine gf_M_7 (v := .int (nI (u2.2.2 1))) hx hb hA hown hK hP 0 rfl rfl dM_supers_32 ?_
          refine tq_ge hx hb dM_supers_35 (tgt := 74) (by decide) (by omega) (by omega) (fun h35 => ?_) (fun h35 => ?_)
          · refine lv_iload_n hx hb dM_supers_74 rfl (lv_at hl 1 rfl) ?_
            subst hQe
            exact W.iret (v := nI q) hx hb hr (fun t ht hW => ⟨⟨_, u2, rfl, ⟨by rw [g1, show n = N by omega], hinu2, hzu2, hc3⟩, tq_hp ht hP⟩, hS.F ht⟩) hS.2.2 dM_supers_75
          · refine lv_iload_n hx hb dM_supers_38 rfl (lv_at hl 1 rfl) ?_
            refine lv_aload_n hx hb dM_supers_39 rfl (lv_at hl 2 rfl) ?_
            refine gf_M_13 (v := .ref (a 1)) hx hb hA hown hK hP 0 rfl rfl dM_supers_40 ?_
            refine lv_iload_n hx hb dM_supers_43 rfl (lv_at hl 0 rfl) ?_
            refine tq_iald hx hb hK hP 1 0 rfl rfl (by omega) (by omega) dM_supers_44 ?_
            refine lv_iconst (v := nI 2) hx hb dM_supers_45 (by decide +kernel) ?_
            refine lv_icmp_ne hx hb dM_supers_46 (tgt := 65) (by decide) (fun h46 => ?_) (fun h46 => ?_)
            · have hstep : q + 0 = tm_cnt (m_na u2 d) (n + 1) := by rw [cnt_no (p := (m_na u2 d)) (and_f (m_nm_f h46))]; exact g1
              refine lv_iconst (v := nI 0) hx hb dM_supers_65 (by decide +kernel) ?_
              refine tq_iadd hx hb dM_supers_66 ?_
              refine lv_istore_n (lv' := [(2, .int (nI (q + 0))), (3, .int (nI n)), (0, .ref (a 0)), (1, .int (nI d))]) hx hb dM_supers_67 rfl hl (by decide) rfl (fun ls hl => ?_)
              refine lv_iinc (k := 1) (lv' := [(3, .int (nI (n + 1))), (2, .int (nI (q + 0))), (0, .ref (a 0)), (1, .int (nI d))]) hx hb dM_supers_68 hl rfl (nI_1 _) (by decide) rfl (fun ls hl => ?_)
              refine lv_goto hx hb dM_supers_71 (tgt := 30) (by decide) ?_
              exact ih30 (q + 0) (n + 1) ls H locs (hstep) (by omega) hP hD hS (by omega) (lv_sub hl [0, 1, 2, 3] rfl)
            · refine lv_aload_n hx hb dM_supers_49 rfl (lv_at hl 2 rfl) ?_
              refine gf_M_42 (v := .ref (a 10)) hx hb hA hown hK hP 0 rfl rfl dM_supers_50 ?_
              refine lv_iload_n hx hb dM_supers_53 rfl (lv_at hl 3 rfl) ?_
              refine lv_iload_n hx hb dM_supers_54 rfl (lv_at hl 0 rfl) ?_
              refine k_in ⟨hx, hb, hml, hown, hA⟩ (kw_M_84 hA rfl rfl ⟨Nat.le_trans (Nat.le_of_ble_eq_true rfl) hRf, Nat.le_trans (Nat.le_of_ble_eq_true rfl) hRl⟩) hK hP hS 10 1 rfl rfl (by omega) (by omega) (by decide) hl.1 (Nat.le_of_ble_eq_true rfl) ⟨by omega, by omega⟩ dM_supers_55 (fun H locs hP hS => ?_)
              refine tq_bf hx hb dM_supers_58 (tgt := 65) (by decide) (fun h58 => ?_) (fun h58 => ?_)
              · have hstep : q + 0 = tm_cnt (m_na u2 d) (n + 1) := by rw [cnt_no (p := (m_na u2 d)) (show (_ && _) = false by rw [h58, Bool.and_false])]; exact g1
                refine lv_iconst (v := nI 0) hx hb dM_supers_65 (by decide +kernel) ?_
                refine tq_iadd hx hb dM_supers_66 ?_
                refine lv_istore_n (lv' := [(2, .int (nI (q + 0))), (3, .int (nI n)), (0, .ref (a 0)), (1, .int (nI d))]) hx hb dM_supers_67 rfl hl (by decide) rfl (fun ls hl => ?_)
                refine lv_iinc (k := 1) (lv' := [(3, .int (nI (n + 1))), (2, .int (nI (q + 0))), (0, .ref (a 0)), (1, .int (nI d))]) hx hb dM_supers_68 hl rfl (nI_1 _) (by decide) rfl (fun ls hl => ?_)
                refine lv_goto hx hb dM_supers_71 (tgt := 30) (by decide) ?_
                exact ih30 (q + 0) (n + 1) ls H locs (hstep) (by omega) hP hD hS (by omega) (lv_sub hl [0, 1, 2, 3] rfl)
              · have hstep : q + 1 = tm_cnt (m_na u2 d) (n + 1) := by rw [cnt_yes (p := (m_na u2 d)) (show (_ && _) = true by rw [m_nm_t h46, h58]; rfl), g1]
                refine lv_iconst (v := nI 1) hx hb dM_supers_61 (by decide +kernel) ?_
                refine lv_goto hx hb dM_supers_62 (tgt := 66) (by decide) ?_
                refine tq_iadd hx hb dM_supers_66 ?_
                refine lv_istore_n (lv' := [(2, .int (nI (q + 1))), (3, .int (nI n)), (0, .ref (a 0)), (1, .int (nI d))]) hx hb dM_supers_67 rfl hl (by decide) rfl (fun ls hl => ?_)
                refine lv_iinc (k := 1) (lv' := [(3, .int (nI (n + 1))), (2, .int (nI (q + 1))), (0, .ref (a 0)), (1, .int (nI d))]) hx hb dM_supers_68 hl rfl (nI_1 _) (by decide) rfl (fun ls hl => ?_)
                refine lv_goto hx hb dM_supers_71 (tgt := 30) (by decide) ?_
                exact ih30 (q + 1) (n + 1) ls H locs (hstep) (by omega) hP hD hS (by omega) (lv_sub hl [0, 1, 2, 3] rfl)
      exact lp _ 0 2 ls _ _ hlo2.symm (by omega) hP hD hS (Nat.lt_succ_self _) (lv_sub hl [0, 1, 2, 3] rfl)
    · omega
  · exact absurd h6 (by rw [t1]; decide)
set_option maxHeartbeats 4000000 in
set_option maxRecDepth 100000 in
/-- m_sup -/
theorem m_sup (l : Launch) (D : va_G) (a : Nat → Nat) (kI kL kZ : ClassId) (u : sU) (N : Nat) (kd fa fb : Nat → Nat) (T : Nat) (so xa xb xc : Nat → Nat) (F : Nat → Prop) (M : Nat) (rs : Nat → Nat) (hin : m_inv u N kd fa fb T so xa xb xc F M rs) (d : Nat) (x : Int32) (hd : d < N) : Met l yM_sup (wM_sup :: wA) ({ frames := 5, cells := 0, slots := 0, locals := 118 }) (va_Pc [.ref (a 0), .int (nI d), .int x] (tq_wB D vwA (mW a kI kL kZ u) (sT kI kL kZ))) (va_Qi (fun r (u' : sU) => (q_sup (m_na u' d) N x r) ∧ m_inv u' N kd fa fb T so xa xb xc F M rs ∧ u'.2.2 0 = 0 ∧ u'.2.2 3 = 1) (fun u' t => va_P D vwA (mW a kI kL kZ u') t.heap) (mA a)) 0 0 (mA a) := by
  refine Met.ofW (cc := bM_sup) (maxL := 5) (ret := (some .int)) (by decide +kernel) rfl ?_
  intro p e s m args below meth c s₁ B1 hml hv
  obtain ⟨rfl, hP, hK, hD0⟩ := hv
  have hx := B1.exec
  have hb := B1.bytes
  have hr := B1.returns
  have hA : ∀ w ∈ wA, w.before ([.ref (a 0), .int (nI d), .int x] : List Value).toArray s = true := fun w h => atoms_spec (ws := wM_sup :: wA) B1.pre w (List.mem_cons_of_mem _ h)
  have hown : s.vm.findClass RcM = some m.cls := findClass_of_methodNamed B1.named
  have hlocks := B1.notSynchronized
  have hS : va_S (mA a) s.heap s.heap [] := va_S.rf
  have hl := lv_entry ([.ref (a 0), .int (nI d), .int x]) (n := 5) (Nat.le_of_ble_eq_true rfl)
  rw [lg_entry_eq]
  generalize (lg_sl ([.ref (a 0), .int (nI d), .int x]) ++ List.replicate (5 - (lg_sl ([.ref (a 0), .int (nI d), .int x])).length) Slot.unset).toArray = ls at hl ⊢
  have hl : lv_has ls 5 [(0, .ref (a 0)), (1, .int (nI d)), (2, .int x)] := hl
  refine tq_gen (fun R Q hRe hQe => ?_)
  have hRf : 5 ≤ R.frames := by rw [hRe]; exact Nat.le_of_ble_eq_true rfl
  have hRl : 118 ≤ R.locals := by rw [hRe]; exact Nat.le_of_ble_eq_true rfl
  have hRc : 0 ≤ R.cells := by rw [hRe]; exact Nat.le_of_ble_eq_true rfl
  have hRs : 0 ≤ R.slots := by rw [hRe]; exact Nat.le_of_ble_eq_true rfl
  have hD := mA_D hD0
  have hta := hin.1
  have hN := mt_N hta
  have t1 : m_th (u.2.2 1) (nI d) = true := th_t (by omega)
  refine lv_aload_n hx hb dM_sup_0 rfl (lv_at hl 0 rfl) ?_
  refine lv_aload_n hx hb dM_sup_1 rfl (lv_at hl 0 rfl) ?_
  refine lv_iload_n hx hb dM_sup_2 rfl (lv_at hl 1 rfl) ?_
  refine ks_rv ⟨hx, hb, hml, hown, hA⟩ (m_isThere l D a kI kL kZ u (nI d) (by omega)) (kw_M_66 hA rfl rfl ⟨Nat.le_trans (Nat.le_of_ble_eq_true rfl) hRf, Nat.le_trans (Nat.le_of_ble_eq_true rfl) hRl⟩) hK hP hS 0 5 rfl rfl rfl hl.1 (Nat.le_of_ble_eq_true rfl) ⟨by omega, by omega⟩ dM_sup_3 rfl (fun H locs hP hS => ?_)
  refine tq_i (y := bI (m_th (u.2.2 1) (nI d))) rfl ?_
  refine tq_bt hx hb dM_sup_6 (tgt := 13) (by decide) (fun h6 => ?_) (fun h6 => ?_)
  · refine lv_iconst (v := nI 0) hx hb dM_sup_13 (by decide +kernel) ?_
    refine ks_i (wf := mW a kI kL kZ) (u := u) ⟨hx, hb, hml, hown, hA⟩ (m_fails0 l D a kI kL kZ u ) (kw_M_70 hA rfl rfl ⟨Nat.le_trans (Nat.le_of_ble_eq_true rfl) hRf, Nat.le_trans (Nat.le_of_ble_eq_true rfl) hRl⟩) hK hP hD hS (fun _ h => h) (fun u' => mW_adr u') 0 5 rfl rfl rfl hl.1 (Nat.le_of_ble_eq_true rfl) ⟨by omega, by omega⟩ dM_sup_14 rfl (fun r1 u1 H locs hu1 hP hD hS => ?_)
    refine tq_i hu1.1 ?_
    have hinu1 : m_inv u1 N kd fa fb T so xa xb xc F M rs := by rw [hu1.2]; exact hin
    have hNu1 := mt_N hinu1.1
    have hzu1 : u1.2.2 0 = 0 := by rw [hu1.2]; rfl
    refine tq_zeq hx hb dM_sup_17 (tgt := 22) (by decide) (by omega) (fun h17 => ?_) (fun h17 => ?_)
    · refine lv_aload_n hx hb dM_sup_22 rfl (lv_at hl 0 rfl) ?_
      refine ks_v (wf := mW a kI kL kZ) (u := u1) ⟨hx, hb, hml, hown, hA⟩ (m_close l D a kI kL kZ u1 N kd fa fb T so xa xb xc hinu1.1 F hinu1.2.1 hinu1.2.2.1 hinu1.2.2.2.1 hinu1.2.2.2.2.1 hinu1.2.2.2.2.2.1) (kw_M_127 hA rfl rfl ⟨Nat.le_trans (Nat.le_of_ble_eq_true rfl) hRf, Nat.le_trans (Nat.le_of_ble_eq_true rfl) hRl⟩) hK hP hD hS (fun _ h => h) (fun u' => mW_adr u') 0 5 rfl rfl rfl hl.1 (Nat.le_of_ble_eq_true rfl) ⟨by omega, by omega⟩ dM_sup_23 rfl (fun u2 H locs hu2 hP hD hS => ?_)
      have hinu2 := cls_inv hinu1 hu2
      have hNu2 := mt_N hinu2.1
      have hzu2 : u2.2.2 0 = 0 := (hu2.2.1 0 (by decide) (by decide)).trans hzu1
      have hc3 := hu2.2.2.1
      have hfl := hu2.2.2.2.2
      have hlo := m_nm_lo hinu2.1
      have hlo2 : tm_cnt (m_na u2 d) 2 = 0 := cnt_zero (fun k hk => and_f (hlo k hk))
      refine lv_iconst (v := nI 0) hx hb dM_sup_26 (by decide +kernel) ?_
      refine lv_istore_n (lv' := [(3, .int (nI 0)), (0, .ref (a 0)), (1, .int (nI d)), (2, .int x)]) hx hb dM_sup_27 rfl hl (by decide) rfl (fun ls hl => ?_)
      refine lv_iconst (v := nI 2) hx hb dM_sup_28 (by decide +kernel) ?_
      refine lv_istore (lv' := [(4, .int (nI 2)), (3, .int (nI 0)), (0, .ref (a 0)), (1, .int (nI d)), (2, .int x)]) hx hb dM_sup_29 hl (by decide) rfl (fun ls hl => ?_)
      have lp : ∀ (fu : Nat) (q n : Nat) (ls : Array Slot) (H : Heap) (locs : List Loc), q = tm_cnt (m_na u2 d) n → n ≤ N → (∀ b, b < n → ((m_na u2 d) b = true → ¬ nI (tm_cnt (m_na u2 d) b) = x)) → va_P D vwA (mW a kI kL kZ u2) H → va_D (mA a) (mW a kI kL kZ u2) → va_S (mA a) s.heap H locs → N - n < fu → lv_has ls 5 [(4, .int (nI n)), (3, .int (nI q)), (0, .ref (a 0)), (1, .int (nI d)), (2, .int x)] → W p l e R s m ([.ref (a 0), .int (nI d), .int x] : List Value).toArray below meth c H locs 0 0 Q (F0 m 31 ls []) := by
        intro fu
        induction fu with
        | zero => intros; omega
        | succ fu ih31 =>
          intro q n ls H locs g1 g2 g3 hP hD hS hfu hl
          have hq9 := tm_cnt_le (m_na u2 d) n
          refine lv_iload hx hb dM_sup_31 (lv_at hl 0 rfl) ?_
          refine lv_aload_n hx hb dM_sup_33 rfl (lv_at hl 2 rfl) ?_
          refine gf_M_7 (v := .int (nI (u2.2.2 1))) hx hb hA hown hK hP 0 rfl rfl dM_sup_34 ?_
          refine tq_ge hx hb dM_sup_37 (tgt := 84) (by decide) (by omega) (by omega) (fun h37 => ?_) (fun h37 => ?_)
          · refine lv_iconst (v := (-1)) hx hb dM_sup_84 (by decide +kernel) ?_
            subst hQe
            exact W.iret (v := (-1)) hx hb hr (fun t ht hW => ⟨⟨_, u2, rfl, ⟨Or.inr ⟨rfl, fun b z => g3 b (by omega)⟩, hinu2, hzu2, hc3⟩, tq_hp ht hP⟩, hS.F ht⟩) hS.2.2 dM_sup_85
          · refine lv_aload_n hx hb dM_sup_40 rfl (lv_at hl 2 rfl) ?_
            refine gf_M_13 (v := .ref (a 1)) hx hb hA hown hK hP 0 rfl rfl dM_sup_41 ?_
            refine lv_iload hx hb dM_sup_44 (lv_at hl 0 rfl) ?_
            refine tq_iald hx hb hK hP 1 0 rfl rfl (by omega) (by omega) dM_sup_46 ?_
            refine lv_iconst (v := nI 2) hx hb dM_sup_47 (by decide +kernel) ?_
            refine lv_icmp_ne hx hb dM_sup_48 (tgt := 78) (by decide) (fun h48 => ?_) (fun h48 => ?_)
            · have hpn : (m_na u2 d) n = false := and_f (m_nm_f h48)
              have hstep : q = tm_cnt (m_na u2 d) (n + 1) := by rw [cnt_no (p := (m_na u2 d)) hpn]; exact g1
              have hno : (fun b => ((m_na u2 d) b = true → ¬ nI (tm_cnt (m_na u2 d) b) = x)) n := fun z => absurd z (by rw [hpn]; decide)
              refine lv_iinc (k := 0) (lv' := [(4, .int (nI (n + 1))), (3, .int (nI q)), (0, .ref (a 0)), (1, .int (nI d)), (2, .int x)]) hx hb dM_sup_78 hl rfl (nI_1 _) (by decide) rfl (fun ls hl => ?_)
              refine lv_goto hx hb dM_sup_81 (tgt := 31) (by decide) ?_
              exact ih31 (q) (n + 1) ls H locs (hstep) (by omega) (lt_s (p := fun b => ((m_na u2 d) b = true → ¬ nI (tm_cnt (m_na u2 d) b) = x)) g3 hno) hP hD hS (by omega) (lv_sub hl [0, 1, 2, 3, 4] rfl)
            · refine lv_aload_n hx hb dM_sup_51 rfl (lv_at hl 2 rfl) ?_
              refine gf_M_42 (v := .ref (a 10)) hx hb hA hown hK hP 0 rfl rfl dM_sup_52 ?_
              refine lv_iload_n hx hb dM_sup_55 rfl (lv_at hl 3 rfl) ?_
              refine lv_iload hx hb dM_sup_56 (lv_at hl 0 rfl) ?_
              refine k_in ⟨hx, hb, hml, hown, hA⟩ (kw_M_84 hA rfl rfl ⟨Nat.le_trans (Nat.le_of_ble_eq_true rfl) hRf, Nat.le_trans (Nat.le_of_ble_eq_true rfl) hRl⟩) hK hP hS 10 1 rfl rfl (by omega) (by omega) (by decide) hl.1 (Nat.le_of_ble_eq_true rfl) ⟨by omega, by omega⟩ dM_sup_58 (fun H locs hP hS => ?_)
              refine tq_bt hx hb dM_sup_61 (tgt := 67) (by decide) (fun h61 => ?_) (fun h61 => ?_)
              · have hpn : (m_na u2 d) n = true := (show (_ && _) = true by rw [m_nm_t h48, h61]; rfl)
                refine lv_iload_n hx hb dM_sup_67 rfl (lv_at hl 1 rfl) ?_
                refine lv_iload_n hx hb dM_sup_68 rfl (lv_at hl 4 rfl) ?_
                refine lv_icmp_ne hx hb dM_sup_69 (tgt := 75) (by decide) (fun h69 => ?_) (fun h69 => ?_)
                · have hstep : q + 1 = tm_cnt (m_na u2 d) (n + 1) := by rw [cnt_yes (p := (m_na u2 d)) hpn, g1]
                  have hno : (fun b => ((m_na u2 d) b = true → ¬ nI (tm_cnt (m_na u2 d) b) = x)) n := fun _ z => h69 (by rw [g1]; exact z)
                  refine lv_iinc (k := 1) (lv' := [(3, .int (nI (q + 1))), (4, .int (nI n)), (0, .ref (a 0)), (1, .int (nI d)), (2, .int x)]) hx hb dM_sup_75 hl rfl (nI_1 _) (by decide) rfl (fun ls hl => ?_)
                  refine lv_iinc (k := 1) (lv' := [(4, .int (nI (n + 1))), (3, .int (nI (q + 1))), (0, .ref (a 0)), (1, .int (nI d)), (2, .int x)]) hx hb dM_sup_78 hl rfl (nI_1 _) (by decide) rfl (fun ls hl => ?_)
                  refine lv_goto hx hb dM_sup_81 (tgt := 31) (by decide) ?_
                  exact ih31 (q + 1) (n + 1) ls H locs (hstep) (by omega) (lt_s (p := fun b => ((m_na u2 d) b = true → ¬ nI (tm_cnt (m_na u2 d) b) = x)) g3 hno) hP hD hS (by omega) (lv_sub hl [0, 1, 2, 3, 4] rfl)
                · refine lv_iload hx hb dM_sup_72 (lv_at hl 0 rfl) ?_
                  subst hQe
                  exact W.iret (v := nI n) hx hb hr (fun t ht hW => ⟨⟨_, u2, rfl, ⟨Or.inl ⟨n, by omega, hpn, by rw [← g1]; exact h69, rfl⟩, hinu2, hzu2, hc3⟩, tq_hp ht hP⟩, hS.F ht⟩) hS.2.2 dM_sup_74
              · have hpn : (m_na u2 d) n = false := (show (_ && _) = false by rw [h61, Bool.and_false])
                have hstep : q = tm_cnt (m_na u2 d) (n + 1) := by rw [cnt_no (p := (m_na u2 d)) hpn]; exact g1
                have hno : (fun b => ((m_na u2 d) b = true → ¬ nI (tm_cnt (m_na u2 d) b) = x)) n := fun z => absurd z (by rw [hpn]; decide)
                refine lv_goto hx hb dM_sup_64 (tgt := 78) (by decide) ?_
                refine lv_iinc (k := 0) (lv' := [(4, .int (nI (n + 1))), (3, .int (nI q)), (0, .ref (a 0)), (1, .int (nI d)), (2, .int x)]) hx hb dM_sup_78 hl rfl (nI_1 _) (by decide) rfl (fun ls hl => ?_)
                refine lv_goto hx hb dM_sup_81 (tgt := 31) (by decide) ?_
                exact ih31 (q) (n + 1) ls H locs (hstep) (by omega) (lt_s (p := fun b => ((m_na u2 d) b = true → ¬ nI (tm_cnt (m_na u2 d) b) = x)) g3 hno) hP hD hS (by omega) (lv_sub hl [0, 1, 2, 3, 4] rfl)
      exact lp _ 0 2 ls _ _ hlo2.symm (by omega) (fun b hb z => absurd z (by rw [show (m_na u2 d) b = false from and_f (hlo b hb)]; decide)) hP hD hS (Nat.lt_succ_self _) (lv_sub hl [0, 1, 2, 3, 4] rfl)
    · omega
  · exact absurd h6 (by rw [t1]; decide)
noncomputable def m_dir (u : sU) (N d d2 : Nat) : Bool := m_st u d d2 && dB (∀ b, b < N → ¬ (m_st u d b = true ∧ m_st u b d2 = true))
theorem m_dir_eq {u : sU} {N d d2 : Nat} {q : Bool} (h : q = true ↔ m_st u d d2 = true ∧ ∀ b, b < N → ¬ (m_st u d b = true ∧ m_st u b d2 = true)) : q = m_dir u N d d2 := by
  unfold m_dir
  refine bl_ext (h.trans ?_)
  rw [Bool.and_eq_true, dB_iff]
set_option maxHeartbeats 4000000 in
set_option maxRecDepth 100000 in
/-- m_direct -/
theorem m_direct (l : Launch) (D : va_G) (a : Nat → Nat) (kI kL kZ : ClassId) (u : sU) (N : Nat) (kd fa fb : Nat → Nat) (T : Nat) (so xa xb xc : Nat → Nat) (F : Nat → Prop) (M : Nat) (rs : Nat → Nat) (hin : m_inv u N kd fa fb T so xa xb xc F M rs) (d d2 : Nat) (hd : d < N) (hd2 : d2 < N) : Met l yM_direct (wM_direct :: wA) ({ frames := 5, cells := 0, slots := 0, locals := 118 }) (va_Pc [.ref (a 0), .int (nI d), .int (nI d2)] (tq_wB D vwA (mW a kI kL kZ u) (sT kI kL kZ))) (va_Qi (fun r (u' : sU) => (r = bI (m_dir u' N d d2)) ∧ m_inv u' N kd fa fb T so xa xb xc F M rs ∧ u'.2.2 0 = 0 ∧ u'.2.2 3 = 1) (fun u' t => va_P D vwA (mW a kI kL kZ u') t.heap) (mA a)) 0 0 (mA a) := by
  refine Met.ofW (cc := bM_direct) (maxL := 5) (ret := (some .boolean)) (by decide +kernel) rfl ?_
  intro p e s m args below meth c s₁ B1 hml hv
  obtain ⟨rfl, hP, hK, hD0⟩ := hv
  have hx := B1.exec
  have hb := B1.bytes
  have hr := B1.returns
  have hA : ∀ w ∈ wA, w.before ([.ref (a 0), .int (nI d), .int (nI d2)] : List Value).toArray s = true := fun w h => atoms_spec (ws := wM_direct :: wA) B1.pre w (List.mem_cons_of_mem _ h)
  have hown : s.vm.findClass RcM = some m.cls := findClass_of_methodNamed B1.named
  have hlocks := B1.notSynchronized
  have hS : va_S (mA a) s.heap s.heap [] := va_S.rf
  have hl := lv_entry ([.ref (a 0), .int (nI d), .int (nI d2)]) (n := 5) (Nat.le_of_ble_eq_true rfl)
  rw [lg_entry_eq]
  generalize (lg_sl ([.ref (a 0), .int (nI d), .int (nI d2)]) ++ List.replicate (5 - (lg_sl ([.ref (a 0), .int (nI d), .int (nI d2)])).length) Slot.unset).toArray = ls at hl ⊢
  have hl : lv_has ls 5 [(0, .ref (a 0)), (1, .int (nI d)), (2, .int (nI d2))] := hl
  refine tq_gen (fun R Q hRe hQe => ?_)
  have hRf : 5 ≤ R.frames := by rw [hRe]; exact Nat.le_of_ble_eq_true rfl
  have hRl : 118 ≤ R.locals := by rw [hRe]; exact Nat.le_of_ble_eq_true rfl
  have hRc : 0 ≤ R.cells := by rw [hRe]; exact Nat.le_of_ble_eq_true rfl
  have hRs : 0 ≤ R.slots := by rw [hRe]; exact Nat.le_of_ble_eq_true rfl
  have hD := mA_D hD0
  have hta := hin.1
  have hN := mt_N hta
  have t1 : m_th (u.2.2 1) (nI d) = true := th_t (by omega)
  have t2 : m_th (u.2.2 1) (nI d2) = true := th_t (by omega)
  refine lv_aload_n hx hb dM_direct_0 rfl (lv_at hl 0 rfl) ?_
  refine lv_aload_n hx hb dM_direct_1 rfl (lv_at hl 0 rfl) ?_
  refine lv_iload_n hx hb dM_direct_2 rfl (lv_at hl 1 rfl) ?_
  refine ks_rv ⟨hx, hb, hml, hown, hA⟩ (m_isThere l D a kI kL kZ u (nI d) (by omega)) (kw_M_66 hA rfl rfl ⟨Nat.le_trans (Nat.le_of_ble_eq_true rfl) hRf, Nat.le_trans (Nat.le_of_ble_eq_true rfl) hRl⟩) hK hP hS 0 5 rfl rfl rfl hl.1 (Nat.le_of_ble_eq_true rfl) ⟨by omega, by omega⟩ dM_direct_3 rfl (fun H locs hP hS => ?_)
  refine tq_i (y := bI (m_th (u.2.2 1) (nI d))) rfl ?_
  refine tq_bf hx hb dM_direct_6 (tgt := 17) (by decide) (fun h6 => ?_) (fun h6 => ?_)
  · exact absurd h6 (by rw [t1]; decide)
  · refine lv_aload_n hx hb dM_direct_9 rfl (lv_at hl 0 rfl) ?_
    refine lv_iload_n hx hb dM_direct_10 rfl (lv_at hl 2 rfl) ?_
    refine ks_rv ⟨hx, hb, hml, hown, hA⟩ (m_isThere l D a kI kL kZ u (nI d2) (by omega)) (kw_M_66 hA rfl rfl ⟨Nat.le_trans (Nat.le_of_ble_eq_true rfl) hRf, Nat.le_trans (Nat.le_of_ble_eq_true rfl) hRl⟩) hK hP hS 0 5 rfl rfl rfl hl.1 (Nat.le_of_ble_eq_true rfl) ⟨by omega, by omega⟩ dM_direct_11 rfl (fun H locs hP hS => ?_)
    refine tq_i (y := bI (m_th (u.2.2 1) (nI d2))) rfl ?_
    refine tq_bt hx hb dM_direct_14 (tgt := 21) (by decide) (fun h14 => ?_) (fun h14 => ?_)
    · refine lv_iconst (v := nI 0) hx hb dM_direct_21 (by decide +kernel) ?_
      refine ks_i (wf := mW a kI kL kZ) (u := u) ⟨hx, hb, hml, hown, hA⟩ (m_fails0 l D a kI kL kZ u ) (kw_M_70 hA rfl rfl ⟨Nat.le_trans (Nat.le_of_ble_eq_true rfl) hRf, Nat.le_trans (Nat.le_of_ble_eq_true rfl) hRl⟩) hK hP hD hS (fun _ h => h) (fun u' => mW_adr u') 0 5 rfl rfl rfl hl.1 (Nat.le_of_ble_eq_true rfl) ⟨by omega, by omega⟩ dM_direct_22 rfl (fun r1 u1 H locs hu1 hP hD hS => ?_)
      refine tq_i hu1.1 ?_
      have hinu1 : m_inv u1 N kd fa fb T so xa xb xc F M rs := by rw [hu1.2]; exact hin
      have hNu1 := mt_N hinu1.1
      have hzu1 : u1.2.2 0 = 0 := by rw [hu1.2]; rfl
      refine tq_zeq hx hb dM_direct_25 (tgt := 30) (by decide) (by omega) (fun h25 => ?_) (fun h25 => ?_)
      · refine lv_aload_n hx hb dM_direct_30 rfl (lv_at hl 0 rfl) ?_
        refine ks_v (wf := mW a kI kL kZ) (u := u1) ⟨hx, hb, hml, hown, hA⟩ (m_close l D a kI kL kZ u1 N kd fa fb T so xa xb xc hinu1.1 F hinu1.2.1 hinu1.2.2.1 hinu1.2.2.2.1 hinu1.2.2.2.2.1 hinu1.2.2.2.2.2.1) (kw_M_127 hA rfl rfl ⟨Nat.le_trans (Nat.le_of_ble_eq_true rfl) hRf, Nat.le_trans (Nat.le_of_ble_eq_true rfl) hRl⟩) hK hP hD hS (fun _ h => h) (fun u' => mW_adr u') 0 5 rfl rfl rfl hl.1 (Nat.le_of_ble_eq_true rfl) ⟨by omega, by omega⟩ dM_direct_31 rfl (fun u2 H locs hu2 hP hD hS => ?_)
        have hinu2 := cls_inv hinu1 hu2
        have hNu2 := mt_N hinu2.1
        have hzu2 : u2.2.2 0 = 0 := (hu2.2.1 0 (by decide) (by decide)).trans hzu1
        have hc3 := hu2.2.2.1
        have hfl := hu2.2.2.2.2
        refine lv_aload_n hx hb dM_direct_34 rfl (lv_at hl 0 rfl) ?_
        refine lv_iload_n hx hb dM_direct_35 rfl (lv_at hl 1 rfl) ?_
        refine lv_iload_n hx hb dM_direct_36 rfl (lv_at hl 2 rfl) ?_
        refine ks_rv ⟨hx, hb, hml, hown, hA⟩ (m_strictly l D a kI kL kZ u2 d d2 (by omega) (by omega)) (kw_M_130 hA rfl rfl ⟨Nat.le_trans (Nat.le_of_ble_eq_true rfl) hRf, Nat.le_trans (Nat.le_of_ble_eq_true rfl) hRl⟩) hK hP hS 0 5 rfl rfl rfl hl.1 (Nat.le_of_ble_eq_true rfl) ⟨by omega, by omega⟩ dM_direct_37 rfl (fun H locs hP hS => ?_)
        refine tq_i (y := bI (m_st u2 d d2)) rfl ?_
        refine lv_istore_n (lv' := [(3, .int (bI (m_st u2 d d2))), (0, .ref (a 0)), (1, .int (nI d)), (2, .int (nI d2))]) hx hb dM_direct_40 rfl hl (by decide) rfl (fun ls hl => ?_)
        refine lv_iconst (v := nI 0) hx hb dM_direct_41 (by decide +kernel) ?_
        refine lv_istore (lv' := [(4, .int (nI 0)), (3, .int (bI (m_st u2 d d2))), (0, .ref (a 0)), (1, .int (nI d)), (2, .int (nI d2))]) hx hb dM_direct_42 hl (by decide) rfl (fun ls hl => ?_)
        have lp : ∀ (fu : Nat) (q : Bool) (n : Nat) (ls : Array Slot) (H : Heap) (locs : List Loc), (q = true ↔ m_st u2 d d2 = true ∧ ∀ b, b < n → ¬ (m_st u2 d b = true ∧ m_st u2 b d2 = true)) → n ≤ N → va_P D vwA (mW a kI kL kZ u2) H → va_D (mA a) (mW a kI kL kZ u2) → va_S (mA a) s.heap H locs → N - n < fu → lv_has ls 5 [(4, .int (nI n)), (3, .int (bI q)), (0, .ref (a 0)), (1, .int (nI d)), (2, .int (nI d2))] → W p l e R s m ([.ref (a 0), .int (nI d), .int (nI d2)] : List Value).toArray below meth c H locs 0 0 Q (F0 m 44 ls []) := by
          intro fu
          induction fu with
          | zero => intros; omega
          | succ fu ih44 =>
            intro q n ls H locs g1 g2 hP hD hS hfu hl
            refine lv_iload hx hb dM_direct_44 (lv_at hl 0 rfl) ?_
            refine lv_aload_n hx hb dM_direct_46 rfl (lv_at hl 2 rfl) ?_
            refine gf_M_7 (v := .int (nI (u2.2.2 1))) hx hb hA hown hK hP 0 rfl rfl dM_direct_47 ?_
            refine tq_ge hx hb dM_direct_50 (tgt := 89) (by decide) (by omega) (by omega) (fun h50 => ?_) (fun h50 => ?_)
            · have hfin : q = m_dir u2 N d d2 := m_dir_eq (by rw [show N = n by omega]; exact g1)
              refine lv_iload_n hx hb dM_direct_89 rfl (lv_at hl 1 rfl) ?_
              subst hQe
              exact W.zret (v := bI q) (ty := .boolean) hx hb hr (tq_nz _) (fun t ht hW => ⟨⟨_, u2, rfl, ⟨by rw [hfin], hinu2, hzu2, hc3⟩, tq_hp ht hP⟩, hS.F ht⟩) hS.2.2 dM_direct_90
            · refine lv_iload_n hx hb dM_direct_53 rfl (lv_at hl 1 rfl) ?_
              refine tq_bf hx hb dM_direct_54 (tgt := 89) (by decide) (fun h54 => ?_) (fun h54 => ?_)
              · have hfin : q = m_dir u2 N d d2 := m_dir_eq ⟨fun z => absurd z (by rw [h54]; decide), fun z => absurd (g1.mpr ⟨z.1, fun b hb => z.2 b (by omega)⟩) (by rw [h54]; decide)⟩
                refine lv_iload_n hx hb dM_direct_89 rfl (lv_at hl 1 rfl) ?_
                subst hQe
                exact W.zret (v := bI q) (ty := .boolean) hx hb hr (tq_nz _) (fun t ht hW => ⟨⟨_, u2, rfl, ⟨by rw [hfin], hinu2, hzu2, hc3⟩, tq_hp ht hP⟩, hS.F ht⟩) hS.2.2 dM_direct_90
              · refine lv_aload_n hx hb dM_direct_57 rfl (lv_at hl 2 rfl) ?_
                refine lv_iload_n hx hb dM_direct_58 rfl (lv_at hl 3 rfl) ?_
                refine lv_iload hx hb dM_direct_59 (lv_at hl 0 rfl) ?_
                refine ks_rv ⟨hx, hb, hml, hown, hA⟩ (m_strictly l D a kI kL kZ u2 d n (by omega) (by omega)) (kw_M_130 hA rfl rfl ⟨Nat.le_trans (Nat.le_of_ble_eq_true rfl) hRf, Nat.le_trans (Nat.le_of_ble_eq_true rfl) hRl⟩) hK hP hS 0 5 rfl rfl rfl hl.1 (Nat.le_of_ble_eq_true rfl) ⟨by omega, by omega⟩ dM_direct_61 rfl (fun H locs hP hS => ?_)
                refine tq_i (y := bI (m_st u2 d n)) rfl ?_
                refine tq_bf hx hb dM_direct_64 (tgt := 77) (by decide) (fun h64 => ?_) (fun h64 => ?_)
                · have hstep : true = true ↔ m_st u2 d d2 = true ∧ ∀ b, b < n + 1 → ¬ (m_st u2 d b = true ∧ m_st u2 b d2 = true) := ⟨fun _ => ⟨(g1.mp h54).1, lt_s (p := fun b => ¬ (m_st u2 d b = true ∧ m_st u2 b d2 = true)) (g1.mp h54).2 (fun z => absurd z.1 (by rw [h64]; decide))⟩, fun _ => rfl⟩
                  refine lv_iconst (v := nI 1) hx hb dM_direct_77 (by decide +kernel) ?_
                  refine lv_goto hx hb dM_direct_78 (tgt := 82) (by decide) ?_
                  refine lv_istore_n (lv' := [(3, .int (nI 1)), (4, .int (nI n)), (0, .ref (a 0)), (1, .int (nI d)), (2, .int (nI d2))]) hx hb dM_direct_82 rfl hl (by decide) rfl (fun ls hl => ?_)
                  refine lv_iinc (k := 1) (lv' := [(4, .int (nI (n + 1))), (3, .int (nI 1)), (0, .ref (a 0)), (1, .int (nI d)), (2, .int (nI d2))]) hx hb dM_direct_83 hl rfl (nI_1 _) (by decide) rfl (fun ls hl => ?_)
                  refine lv_goto hx hb dM_direct_86 (tgt := 44) (by decide) ?_
                  exact ih44 true (n + 1) ls H locs (hstep) (by omega) hP hD hS (by omega) (lv_sub hl [0, 1, 2, 3, 4] rfl)
                · refine lv_aload_n hx hb dM_direct_67 rfl (lv_at hl 2 rfl) ?_
                  refine lv_iload hx hb dM_direct_68 (lv_at hl 0 rfl) ?_
                  refine lv_iload_n hx hb dM_direct_70 rfl (lv_at hl 4 rfl) ?_
                  refine ks_rv ⟨hx, hb, hml, hown, hA⟩ (m_strictly l D a kI kL kZ u2 n d2 (by omega) (by omega)) (kw_M_130 hA rfl rfl ⟨Nat.le_trans (Nat.le_of_ble_eq_true rfl) hRf, Nat.le_trans (Nat.le_of_ble_eq_true rfl) hRl⟩) hK hP hS 0 5 rfl rfl rfl hl.1 (Nat.le_of_ble_eq_true rfl) ⟨by omega, by omega⟩ dM_direct_71 rfl (fun H locs hP hS => ?_)
                  refine tq_i (y := bI (m_st u2 n d2)) rfl ?_
                  refine tq_bt hx hb dM_direct_74 (tgt := 81) (by decide) (fun h74 => ?_) (fun h74 => ?_)
                  · have hstep : false = true ↔ m_st u2 d d2 = true ∧ ∀ b, b < n + 1 → ¬ (m_st u2 d b = true ∧ m_st u2 b d2 = true) := ⟨fun z => absurd z (by decide), fun z => absurd ⟨h64, h74⟩ (z.2 n (by omega))⟩
                    refine lv_iconst (v := nI 0) hx hb dM_direct_81 (by decide +kernel) ?_
                    refine lv_istore_n (lv' := [(3, .int (nI 0)), (4, .int (nI n)), (0, .ref (a 0)), (1, .int (nI d)), (2, .int (nI d2))]) hx hb dM_direct_82 rfl hl (by decide) rfl (fun ls hl => ?_)
                    refine lv_iinc (k := 1) (lv' := [(4, .int (nI (n + 1))), (3, .int (nI 0)), (0, .ref (a 0)), (1, .int (nI d)), (2, .int (nI d2))]) hx hb dM_direct_83 hl rfl (nI_1 _) (by decide) rfl (fun ls hl => ?_)
                    refine lv_goto hx hb dM_direct_86 (tgt := 44) (by decide) ?_
                    exact ih44 false (n + 1) ls H locs (hstep) (by omega) hP hD hS (by omega) (lv_sub hl [0, 1, 2, 3, 4] rfl)
                  · have hstep : true = true ↔ m_st u2 d d2 = true ∧ ∀ b, b < n + 1 → ¬ (m_st u2 d b = true ∧ m_st u2 b d2 = true) := ⟨fun _ => ⟨(g1.mp h54).1, lt_s (p := fun b => ¬ (m_st u2 d b = true ∧ m_st u2 b d2 = true)) (g1.mp h54).2 (fun z => absurd z.2 (by rw [h74]; decide))⟩, fun _ => rfl⟩
                    refine lv_iconst (v := nI 1) hx hb dM_direct_77 (by decide +kernel) ?_
                    refine lv_goto hx hb dM_direct_78 (tgt := 82) (by decide) ?_
                    refine lv_istore_n (lv' := [(3, .int (nI 1)), (4, .int (nI n)), (0, .ref (a 0)), (1, .int (nI d)), (2, .int (nI d2))]) hx hb dM_direct_82 rfl hl (by decide) rfl (fun ls hl => ?_)
                    refine lv_iinc (k := 1) (lv' := [(4, .int (nI (n + 1))), (3, .int (nI 1)), (0, .ref (a 0)), (1, .int (nI d)), (2, .int (nI d2))]) hx hb dM_direct_83 hl rfl (nI_1 _) (by decide) rfl (fun ls hl => ?_)
                    refine lv_goto hx hb dM_direct_86 (tgt := 44) (by decide) ?_
                    exact ih44 true (n + 1) ls H locs (hstep) (by omega) hP hD hS (by omega) (lv_sub hl [0, 1, 2, 3, 4] rfl)
        exact lp _ (m_st u2 d d2) 0 ls _ _ ⟨fun z => ⟨z, fun b hb => absurd hb (Nat.not_lt_zero b)⟩, fun z => z.1⟩ (by omega) hP hD hS (Nat.lt_succ_self _) (lv_sub hl [0, 1, 2, 3, 4] rfl)
      · omega
    · exact absurd h14 (by rw [t2]; decide)
set_option maxHeartbeats 4000000 in
set_option maxRecDepth 100000 in
/-- m_twin -/
theorem m_twin (l : Launch) (D : va_G) (a : Nat → Nat) (kI kL kZ : ClassId) (u : sU) (N : Nat) (kd fa fb : Nat → Nat) (T : Nat) (so xa xb xc : Nat → Nat) (F : Nat → Prop) (M : Nat) (rs : Nat → Nat) (hin : m_inv u N kd fa fb T so xa xb xc F M rs) (d : Nat) (hd : d < N) : Met l yM_twin (wM_twin :: wA) ({ frames := 5, cells := 0, slots := 0, locals := 118 }) (va_Pc [.ref (a 0), .int (nI d)] (tq_wB D vwA (mW a kI kL kZ u) (sT kI kL kZ))) (va_Qi (fun r (u' : sU) => (r = nI (m_le u' d)) ∧ m_inv u' N kd fa fb T so xa xb xc F M rs ∧ u'.2.2 0 = 0 ∧ u'.2.2 3 = 1) (fun u' t => va_P D vwA (mW a kI kL kZ u') t.heap) (mA a)) 0 0 (mA a) := by
  refine Met.ofW (cc := bM_twin) (maxL := 2) (ret := (some .int)) (by decide +kernel) rfl ?_
  intro p e s m args below meth c s₁ B1 hml hv
  obtain ⟨rfl, hP, hK, hD0⟩ := hv
  have hx := B1.exec
  have hb := B1.bytes
  have hr := B1.returns
  have hA : ∀ w ∈ wA, w.before ([.ref (a 0), .int (nI d)] : List Value).toArray s = true := fun w h => atoms_spec (ws := wM_twin :: wA) B1.pre w (List.mem_cons_of_mem _ h)
  have hown : s.vm.findClass RcM = some m.cls := findClass_of_methodNamed B1.named
  have hlocks := B1.notSynchronized
  have hS : va_S (mA a) s.heap s.heap [] := va_S.rf
  have hl := lv_entry ([.ref (a 0), .int (nI d)]) (n := 2) (Nat.le_of_ble_eq_true rfl)
  rw [lg_entry_eq]
  generalize (lg_sl ([.ref (a 0), .int (nI d)]) ++ List.replicate (2 - (lg_sl ([.ref (a 0), .int (nI d)])).length) Slot.unset).toArray = ls at hl ⊢
  have hl : lv_has ls 2 [(0, .ref (a 0)), (1, .int (nI d))] := hl
  refine tq_gen (fun R Q hRe hQe => ?_)
  have hRf : 5 ≤ R.frames := by rw [hRe]; exact Nat.le_of_ble_eq_true rfl
  have hRl : 118 ≤ R.locals := by rw [hRe]; exact Nat.le_of_ble_eq_true rfl
  have hRc : 0 ≤ R.cells := by rw [hRe]; exact Nat.le_of_ble_eq_true rfl
  have hRs : 0 ≤ R.slots := by rw [hRe]; exact Nat.le_of_ble_eq_true rfl
  have hD := mA_D hD0
  have hta := hin.1
  have hN := mt_N hta
  have t1 : m_th (u.2.2 1) (nI d) = true := th_t (by omega)
  refine lv_aload_n hx hb dM_twin_0 rfl (lv_at hl 0 rfl) ?_
  refine lv_aload_n hx hb dM_twin_1 rfl (lv_at hl 0 rfl) ?_
  refine lv_iload_n hx hb dM_twin_2 rfl (lv_at hl 1 rfl) ?_
  refine ks_rv ⟨hx, hb, hml, hown, hA⟩ (m_isThere l D a kI kL kZ u (nI d) (by omega)) (kw_M_66 hA rfl rfl ⟨Nat.le_trans (Nat.le_of_ble_eq_true rfl) hRf, Nat.le_trans (Nat.le_of_ble_eq_true rfl) hRl⟩) hK hP hS 0 5 rfl rfl rfl hl.1 (Nat.le_of_ble_eq_true rfl) ⟨by omega, by omega⟩ dM_twin_3 rfl (fun H locs hP hS => ?_)
  refine tq_i (y := bI (m_th (u.2.2 1) (nI d))) rfl ?_
  refine tq_bt hx hb dM_twin_6 (tgt := 13) (by decide) (fun h6 => ?_) (fun h6 => ?_)
  · refine lv_iconst (v := nI 0) hx hb dM_twin_13 (by decide +kernel) ?_
    refine ks_i (wf := mW a kI kL kZ) (u := u) ⟨hx, hb, hml, hown, hA⟩ (m_fails0 l D a kI kL kZ u ) (kw_M_70 hA rfl rfl ⟨Nat.le_trans (Nat.le_of_ble_eq_true rfl) hRf, Nat.le_trans (Nat.le_of_ble_eq_true rfl) hRl⟩) hK hP hD hS (fun _ h => h) (fun u' => mW_adr u') 0 5 rfl rfl rfl hl.1 (Nat.le_of_ble_eq_true rfl) ⟨by omega, by omega⟩ dM_twin_14 rfl (fun r1 u1 H locs hu1 hP hD hS => ?_)
    refine tq_i hu1.1 ?_
    have hinu1 : m_inv u1 N kd fa fb T so xa xb xc F M rs := by rw [hu1.2]; exact hin
    have hNu1 := mt_N hinu1.1
    have hzu1 : u1.2.2 0 = 0 := by rw [hu1.2]; rfl
    refine tq_zeq hx hb dM_twin_17 (tgt := 22) (by decide) (by omega) (fun h17 => ?_) (fun h17 => ?_)
    · refine lv_aload_n hx hb dM_twin_22 rfl (lv_at hl 0 rfl) ?_
      refine ks_v (wf := mW a kI kL kZ) (u := u1) ⟨hx, hb, hml, hown, hA⟩ (m_close l D a kI kL kZ u1 N kd fa fb T so xa xb xc hinu1.1 F hinu1.2.1 hinu1.2.2.1 hinu1.2.2.2.1 hinu1.2.2.2.2.1 hinu1.2.2.2.2.2.1) (kw_M_127 hA rfl rfl ⟨Nat.le_trans (Nat.le_of_ble_eq_true rfl) hRf, Nat.le_trans (Nat.le_of_ble_eq_true rfl) hRl⟩) hK hP hD hS (fun _ h => h) (fun u' => mW_adr u') 0 5 rfl rfl rfl hl.1 (Nat.le_of_ble_eq_true rfl) ⟨by omega, by omega⟩ dM_twin_23 rfl (fun u2 H locs hu2 hP hD hS => ?_)
      have hinu2 := cls_inv hinu1 hu2
      have hNu2 := mt_N hinu2.1
      have hzu2 : u2.2.2 0 = 0 := (hu2.2.1 0 (by decide) (by decide)).trans hzu1
      have hc3 := hu2.2.2.1
      have hfl := hu2.2.2.2.2
      refine lv_aload_n hx hb dM_twin_26 rfl (lv_at hl 0 rfl) ?_
      refine lv_iload_n hx hb dM_twin_27 rfl (lv_at hl 1 rfl) ?_
      refine ks_rv ⟨hx, hb, hml, hown, hA⟩ (m_least l D a kI kL kZ u2 d (by omega) (hfl.2.2.1 d (by omega)).1) (kw_M_134 hA rfl rfl ⟨Nat.le_trans (Nat.le_of_ble_eq_true rfl) hRf, Nat.le_trans (Nat.le_of_ble_eq_true rfl) hRl⟩) hK hP hS 0 5 rfl rfl rfl hl.1 (Nat.le_of_ble_eq_true rfl) ⟨by omega, by omega⟩ dM_twin_28 rfl (fun H locs hP hS => ?_)
      refine tq_i (y := nI (m_le u2 d)) rfl ?_
      subst hQe
      exact W.iret (v := nI (m_le u2 d)) hx hb hr (fun t ht hW => ⟨⟨_, u2, rfl, ⟨rfl, hinu2, hzu2, hc3⟩, tq_hp ht hP⟩, hS.F ht⟩) hS.2.2 dM_twin_31
    · omega
  · exact absurd h6 (by rw [t1]; decide)
set_option maxHeartbeats 4000000 in
set_option maxRecDepth 100000 in
/-- m_has -/
theorem m_has (l : Launch) (D : va_G) (a : Nat → Nat) (kI kL kZ : ClassId) (u : sU) (N : Nat) (kd fa fb : Nat → Nat) (T : Nat) (so xa xb xc : Nat → Nat) (F : Nat → Prop) (M : Nat) (rs : Nat → Nat) (hin : m_inv u N kd fa fb T so xa xb xc F M rs) (x i y : Nat) (hx0 : x < N) (hi : i < 6) (hy0 : y < N) : Met l yM_has (wM_has :: wA) ({ frames := 5, cells := 0, slots := 0, locals := 118 }) (va_Pc [.ref (a 0), .int (nI x), .int (nI i), .int (nI y)] (tq_wB D vwA (mW a kI kL kZ u) (sT kI kL kZ))) (va_Qi (fun r (u' : sU) => (r = bI (u'.1 0 x 1 || m_mt u' (160 * i + x) y)) ∧ m_inv u' N kd fa fb T so xa xb xc F M rs ∧ u'.2.2 0 = 0 ∧ u'.2.2 3 = 1) (fun u' t => va_P D vwA (mW a kI kL kZ u') t.heap) (mA a)) 0 0 (mA a) := by
  refine Met.ofW (cc := bM_has) (maxL := 4) (ret := (some .boolean)) (by decide +kernel) rfl ?_
  intro p e s m args below meth c s₁ B1 hml hv
  obtain ⟨rfl, hP, hK, hD0⟩ := hv
  have hx := B1.exec
  have hb := B1.bytes
  have hr := B1.returns
  have hA : ∀ w ∈ wA, w.before ([.ref (a 0), .int (nI x), .int (nI i), .int (nI y)] : List Value).toArray s = true := fun w h => atoms_spec (ws := wM_has :: wA) B1.pre w (List.mem_cons_of_mem _ h)
  have hown : s.vm.findClass RcM = some m.cls := findClass_of_methodNamed B1.named
  have hlocks := B1.notSynchronized
  have hS : va_S (mA a) s.heap s.heap [] := va_S.rf
  have hl := lv_entry ([.ref (a 0), .int (nI x), .int (nI i), .int (nI y)]) (n := 4) (Nat.le_of_ble_eq_true rfl)
  rw [lg_entry_eq]
  generalize (lg_sl ([.ref (a 0), .int (nI x), .int (nI i), .int (nI y)]) ++ List.replicate (4 - (lg_sl ([.ref (a 0), .int (nI x), .int (nI i), .int (nI y)])).length) Slot.unset).toArray = ls at hl ⊢
  have hl : lv_has ls 4 [(0, .ref (a 0)), (1, .int (nI x)), (2, .int (nI i)), (3, .int (nI y))] := hl
  refine tq_gen (fun R Q hRe hQe => ?_)
  have hRf : 5 ≤ R.frames := by rw [hRe]; exact Nat.le_of_ble_eq_true rfl
  have hRl : 118 ≤ R.locals := by rw [hRe]; exact Nat.le_of_ble_eq_true rfl
  have hRc : 0 ≤ R.cells := by rw [hRe]; exact Nat.le_of_ble_eq_true rfl
  have hRs : 0 ≤ R.slots := by rw [hRe]; exact Nat.le_of_ble_eq_true rfl
  have hD := mA_D hD0
  have hta := hin.1
  have hN := mt_N hta
  have t1 : m_th (u.2.2 1) (nI x) = true := th_t (by omega)
  have t2 : m_th 6 (nI i) = true := th_t (by omega)
  have t3 : m_th (u.2.2 1) (nI y) = true := th_t (by omega)
  refine lv_aload_n hx hb dM_has_0 rfl (lv_at hl 0 rfl) ?_
  refine lv_aload_n hx hb dM_has_1 rfl (lv_at hl 0 rfl) ?_
  refine lv_iload_n hx hb dM_has_2 rfl (lv_at hl 1 rfl) ?_
  refine ks_rv ⟨hx, hb, hml, hown, hA⟩ (m_isThere l D a kI kL kZ u (nI x) (by omega)) (kw_M_66 hA rfl rfl ⟨Nat.le_trans (Nat.le_of_ble_eq_true rfl) hRf, Nat.le_trans (Nat.le_of_ble_eq_true rfl) hRl⟩) hK hP hS 0 5 rfl rfl rfl hl.1 (Nat.le_of_ble_eq_true rfl) ⟨by omega, by omega⟩ dM_has_3 rfl (fun H locs hP hS => ?_)
  refine tq_i (y := bI (m_th (u.2.2 1) (nI x))) rfl ?_
  refine tq_bf hx hb dM_has_6 (tgt := 24) (by decide) (fun h6 => ?_) (fun h6 => ?_)
  · exact absurd h6 (by rw [t1]; decide)
  · refine lv_iload_n hx hb dM_has_9 rfl (lv_at hl 2 rfl) ?_
    refine ks_s ⟨hx, hb, hml, hown, hA⟩ (m_isRole l (nI i)) (kw_M_74 hA rfl rfl ⟨Nat.le_trans (Nat.le_of_ble_eq_true rfl) hRf, Nat.le_trans (Nat.le_of_ble_eq_true rfl) hRl⟩) hP hS rfl hl.1 (Nat.le_of_ble_eq_true rfl) ⟨by omega, by omega⟩ dM_has_10 rfl (fun H locs hP hS => ?_)
    refine tq_bf hx hb dM_has_13 (tgt := 24) (by decide) (fun h13 => ?_) (fun h13 => ?_)
    · exact absurd h13 (by rw [t2]; decide)
    · refine lv_aload_n hx hb dM_has_16 rfl (lv_at hl 0 rfl) ?_
      refine lv_iload_n hx hb dM_has_17 rfl (lv_at hl 3 rfl) ?_
      refine ks_rv ⟨hx, hb, hml, hown, hA⟩ (m_isThere l D a kI kL kZ u (nI y) (by omega)) (kw_M_66 hA rfl rfl ⟨Nat.le_trans (Nat.le_of_ble_eq_true rfl) hRf, Nat.le_trans (Nat.le_of_ble_eq_true rfl) hRl⟩) hK hP hS 0 5 rfl rfl rfl hl.1 (Nat.le_of_ble_eq_true rfl) ⟨by omega, by omega⟩ dM_has_18 rfl (fun H locs hP hS => ?_)
      refine tq_i (y := bI (m_th (u.2.2 1) (nI y))) rfl ?_
      refine tq_bt hx hb dM_has_21 (tgt := 28) (by decide) (fun h21 => ?_) (fun h21 => ?_)
      · refine lv_iconst (v := nI 0) hx hb dM_has_28 (by decide +kernel) ?_
        refine ks_i (wf := mW a kI kL kZ) (u := u) ⟨hx, hb, hml, hown, hA⟩ (m_fails0 l D a kI kL kZ u ) (kw_M_70 hA rfl rfl ⟨Nat.le_trans (Nat.le_of_ble_eq_true rfl) hRf, Nat.le_trans (Nat.le_of_ble_eq_true rfl) hRl⟩) hK hP hD hS (fun _ h => h) (fun u' => mW_adr u') 0 5 rfl rfl rfl hl.1 (Nat.le_of_ble_eq_true rfl) ⟨by omega, by omega⟩ dM_has_29 rfl (fun r1 u1 H locs hu1 hP hD hS => ?_)
        refine tq_i hu1.1 ?_
        have hinu1 : m_inv u1 N kd fa fb T so xa xb xc F M rs := by rw [hu1.2]; exact hin
        have hNu1 := mt_N hinu1.1
        have hzu1 : u1.2.2 0 = 0 := by rw [hu1.2]; rfl
        refine tq_zeq hx hb dM_has_32 (tgt := 37) (by decide) (by omega) (fun h32 => ?_) (fun h32 => ?_)
        · refine lv_aload_n hx hb dM_has_37 rfl (lv_at hl 0 rfl) ?_
          refine ks_v (wf := mW a kI kL kZ) (u := u1) ⟨hx, hb, hml, hown, hA⟩ (m_close l D a kI kL kZ u1 N kd fa fb T so xa xb xc hinu1.1 F hinu1.2.1 hinu1.2.2.1 hinu1.2.2.2.1 hinu1.2.2.2.2.1 hinu1.2.2.2.2.2.1) (kw_M_127 hA rfl rfl ⟨Nat.le_trans (Nat.le_of_ble_eq_true rfl) hRf, Nat.le_trans (Nat.le_of_ble_eq_true rfl) hRl⟩) hK hP hD hS (fun _ h => h) (fun u' => mW_adr u') 0 5 rfl rfl rfl hl.1 (Nat.le_of_ble_eq_true rfl) ⟨by omega, by omega⟩ dM_has_38 rfl (fun u2 H locs hu2 hP hD hS => ?_)
          have hinu2 := cls_inv hinu1 hu2
          have hNu2 := mt_N hinu2.1
          have hzu2 : u2.2.2 0 = 0 := (hu2.2.1 0 (by decide) (by decide)).trans hzu1
          have hc3 := hu2.2.2.1
          have hfl := hu2.2.2.2.2
          refine lv_aload_n hx hb dM_has_41 rfl (lv_at hl 0 rfl) ?_
          refine gf_M_42 (v := .ref (a 10)) hx hb hA hown hK hP 0 rfl rfl dM_has_42 ?_
          refine lv_iload_n hx hb dM_has_45 rfl (lv_at hl 1 rfl) ?_
          refine lv_iconst (v := nI 1) hx hb dM_has_46 (by decide +kernel) ?_
          refine k_in ⟨hx, hb, hml, hown, hA⟩ (kw_M_84 hA rfl rfl ⟨Nat.le_trans (Nat.le_of_ble_eq_true rfl) hRf, Nat.le_trans (Nat.le_of_ble_eq_true rfl) hRl⟩) hK hP hS 10 1 rfl rfl (by omega) (by omega) (by decide) hl.1 (Nat.le_of_ble_eq_true rfl) ⟨by omega, by omega⟩ dM_has_47 (fun H locs hP hS => ?_)
          refine tq_bt hx hb dM_has_50 (tgt := 63) (by decide) (fun h50 => ?_) (fun h50 => ?_)
          · have hB : (u2.1 0 x 1 || m_mt u2 (160 * i + x) y) = true := by rw [h50]; rfl
            refine lv_iconst (v := nI 1) hx hb dM_has_63 (by decide +kernel) ?_
            refine lv_goto hx hb dM_has_64 (tgt := 68) (by decide) ?_
            subst hQe
            exact W.zret (v := nI 1) (ty := .boolean) hx hb hr rfl (fun t ht hW => ⟨⟨_, u2, rfl, ⟨by rw [hB]; rfl, hinu2, hzu2, hc3⟩, tq_hp ht hP⟩, hS.F ht⟩) hS.2.2 dM_has_68
          · refine lv_aload_n hx hb dM_has_53 rfl (lv_at hl 0 rfl) ?_
            refine lv_iload_n hx hb dM_has_54 rfl (lv_at hl 2 rfl) ?_
            refine lv_iload_n hx hb dM_has_55 rfl (lv_at hl 1 rfl) ?_
            refine lv_iload_n hx hb dM_has_56 rfl (lv_at hl 3 rfl) ?_
            refine ks_rv ⟨hx, hb, hml, hown, hA⟩ (m_meets l D a kI kL kZ u2 i x y (by omega) (by omega) (by omega)) (kw_M_110 hA rfl rfl ⟨Nat.le_trans (Nat.le_of_ble_eq_true rfl) hRf, Nat.le_trans (Nat.le_of_ble_eq_true rfl) hRl⟩) hK hP hS 0 5 rfl rfl rfl hl.1 (Nat.le_of_ble_eq_true rfl) ⟨by omega, by omega⟩ dM_has_57 rfl (fun H locs hP hS => ?_)
            refine tq_i (y := bI (m_mt u2 (160 * i + x) y)) rfl ?_
            refine tq_bf hx hb dM_has_60 (tgt := 67) (by decide) (fun h60 => ?_) (fun h60 => ?_)
            · have hB : (u2.1 0 x 1 || m_mt u2 (160 * i + x) y) = false := by rw [h50, h60]; rfl
              refine lv_iconst (v := nI 0) hx hb dM_has_67 (by decide +kernel) ?_
              subst hQe
              exact W.zret (v := nI 0) (ty := .boolean) hx hb hr rfl (fun t ht hW => ⟨⟨_, u2, rfl, ⟨by rw [hB]; rfl, hinu2, hzu2, hc3⟩, tq_hp ht hP⟩, hS.F ht⟩) hS.2.2 dM_has_68
            · have hB : (u2.1 0 x 1 || m_mt u2 (160 * i + x) y) = true := by rw [h50, h60]; rfl
              refine lv_iconst (v := nI 1) hx hb dM_has_63 (by decide +kernel) ?_
              refine lv_goto hx hb dM_has_64 (tgt := 68) (by decide) ?_
              subst hQe
              exact W.zret (v := nI 1) (ty := .boolean) hx hb hr rfl (fun t ht hW => ⟨⟨_, u2, rfl, ⟨by rw [hB]; rfl, hinu2, hzu2, hc3⟩, tq_hp ht hP⟩, hS.F ht⟩) hS.2.2 dM_has_68
        · omega
      · exact absurd h21 (by rw [t3]; decide)
