/-! The model: follow, close. Written by wip/whole/gen/genM3.py. -/
theorem tq_nzv (b : Bool) : vp_nar .boolean (bI b) = bI b := by cases b <;> rfl
set_option maxHeartbeats 4000000 in
set_option maxRecDepth 100000 in
/-- m_follow0 -/
theorem m_follow0 (l : Launch) (D : va_G) (a : Nat → Nat) (kI kL kZ : ClassId) (u : sU) (N : Nat) (kd fa fb : Nat → Nat) (T : Nat) (so xa xb xc : Nat → Nat) (hta : m_tab u N kd fa fb T so xa xb xc) (U : Nat → Prop) (hu9 : m_use u T U) (hrg : m_rng u) (hm4 : u.2.2 4 ≤ 1) : Met l yM_follow (wM_follow :: wA) ({ frames := 3, cells := 0, slots := 0, locals := 74 }) (va_Pc [.ref (a 0), .int (-1), .int (nI 0)] (tq_wB D vwA (mW a kI kL kZ u) (sT kI kL kZ))) (va_Qv (fun (u' : sU) => u'.2.1 = u.2.1 ∧ (∀ j, ¬ j = 4 → u'.2.2 j = u.2.2 j) ∧ u'.2.2 4 ≤ 1 ∧ m_ok u' N kd fa fb so xa xb xc U ∧ m_clo u' N kd fa fb so xa xb xc U) (fun u' t => va_P D vwA (mW a kI kL kZ u') t.heap) (mA a)) 0 0 (mA a) := by
  refine Met.ofW (cc := bM_follow) (maxL := 4) (ret := none) (by decide +kernel) rfl ?_
  intro p e s m args below meth c s₁ B1 hml hv
  obtain ⟨rfl, hP, hK, hD0⟩ := hv
  have hx := B1.exec
  have hb := B1.bytes
  have hr := B1.returns
  have hA : ∀ w ∈ wA, w.before ([.ref (a 0), .int (-1), .int (nI 0)] : List Value).toArray s = true := fun w h => atoms_spec (ws := wM_follow :: wA) B1.pre w (List.mem_cons_of_mem _ h)
  have hown : s.vm.findClass RcM = some m.cls := findClass_of_methodNamed B1.named
  have hlocks := B1.notSynchronized
  have hS : va_S (mA a) s.heap s.heap [] := va_S.rf
  have hl := lv_entry ([.ref (a 0), .int (-1), .int (nI 0)]) (n := 4) (Nat.le_of_ble_eq_true rfl)
  rw [lg_entry_eq]
  generalize (lg_sl ([.ref (a 0), .int (-1), .int (nI 0)]) ++ List.replicate (4 - (lg_sl ([.ref (a 0), .int (-1), .int (nI 0)])).length) Slot.unset).toArray = ls at hl ⊢
  have hl : lv_has ls 4 [(0, .ref (a 0)), (1, .int (-1)), (2, .int (nI 0))] := hl
  refine tq_gen (fun R Q hRe hQe => ?_)
  have hRf : 3 ≤ R.frames := by rw [hRe]; exact Nat.le_of_ble_eq_true rfl
  have hRl : 74 ≤ R.locals := by rw [hRe]; exact Nat.le_of_ble_eq_true rfl
  have hRc : 0 ≤ R.cells := by rw [hRe]; exact Nat.le_of_ble_eq_true rfl
  have hRs : 0 ≤ R.slots := by rw [hRe]; exact Nat.le_of_ble_eq_true rfl
  have hD := mA_D hD0
  have hN := mt_N hta
  have htz : m_tab (m_zer u) N kd fa fb T so xa xb xc := hta
  have hP : va_P D vwA (mX a kI kL kZ u (bw_z 3 (u.1 0) 0) (bw_z 3 (u.1 1) 0) (bw 3 (u.1 2))) s.heap := by rw [bw_z0, bw_z0]; exact hP
  have hD : va_D (mA a) (mX a kI kL kZ u (bw_z 3 (u.1 0) 0) (bw_z 3 (u.1 1) 0) (bw 3 (u.1 2))) := by rw [bw_z0, bw_z0]; exact hD
  refine lv_iconst (v := nI 0) hx hb dM_follow_0 (by decide +kernel) ?_
  refine lv_istore_n (lv' := [(3, .int (nI 0)), (0, .ref (a 0)), (1, .int (-1)), (2, .int (nI 0))]) hx hb dM_follow_1 rfl hl (by decide) rfl (fun ls hl => ?_)
  have lp : ∀ (fu : Nat) (n : Nat) (ls : Array Slot) (H : Heap) (locs : List Loc), n ≤ 480 → va_P D vwA (mX a kI kL kZ u (bw_z 3 (u.1 0) n) (bw_z 3 (u.1 1) n) (bw 3 (u.1 2))) H → va_D (mA a) (mX a kI kL kZ u (bw_z 3 (u.1 0) n) (bw_z 3 (u.1 1) n) (bw 3 (u.1 2))) → va_S (mA a) s.heap H locs → 480 - n < fu → lv_has ls 4 [(3, .int (nI n)), (0, .ref (a 0)), (1, .int (-1)), (2, .int (nI 0))] → W p l e R s m ([.ref (a 0), .int (-1), .int (nI 0)] : List Value).toArray below meth c H locs 0 0 Q (F0 m 2 ls []) := by
    intro fu
    induction fu with
    | zero => intros; omega
    | succ fu ih2 =>
      intro n  ls H locs g1 hP hD hS hfu hl
      refine lv_iload_n hx hb dM_follow_2 rfl (lv_at hl 0 rfl) ?_
      refine lv_sipush (v := nI 480) hx hb dM_follow_3 (by decide +kernel) ?_
      refine tq_ge hx hb dM_follow_6 (tgt := 29) (by decide) (by omega) (by omega) (fun h6 => ?_) (fun h6 => ?_)
      · rw [show n = 160 * 3 by omega, bz_e (B := u.1 0) (n := 160) (fun y b z => (hrg.1 y b z).1), bz_e (B := u.1 1) (n := 160) (fun y b z => (hrg.1 y b z).2), ← bw_z0 3 (u.1 2)] at hP hD
        refine lv_iconst (v := nI 0) hx hb dM_follow_29 (by decide +kernel) ?_
        refine lv_istore_n (lv' := [(3, .int (nI 0)), (0, .ref (a 0)), (1, .int (-1)), (2, .int (nI 0))]) hx hb dM_follow_30 rfl hl (by decide) rfl (fun ls hl => ?_)
        have lp2 : ∀ (fu : Nat) (n : Nat) (ls : Array Slot) (H : Heap) (locs : List Loc), n ≤ 2880 → va_P D vwA (mX a kI kL kZ u (bw 3 bF) (bw 3 bF) (bw_z 3 (u.1 2) n)) H → va_D (mA a) (mX a kI kL kZ u (bw 3 bF) (bw 3 bF) (bw_z 3 (u.1 2) n)) → va_S (mA a) s.heap H locs → 2880 - n < fu → lv_has ls 4 [(3, .int (nI n)), (0, .ref (a 0)), (1, .int (-1)), (2, .int (nI 0))] → W p l e R s m ([.ref (a 0), .int (-1), .int (nI 0)] : List Value).toArray below meth c H locs 0 0 Q (F0 m 31 ls []) := by
          intro fu
          induction fu with
          | zero => intros; omega
          | succ fu ih31 =>
            intro n  ls H locs g1 hP hD hS hfu hl
            refine lv_iload_n hx hb dM_follow_31 rfl (lv_at hl 0 rfl) ?_
            refine lv_sipush (v := nI 2880) hx hb dM_follow_32 (by decide +kernel) ?_
            refine tq_ge hx hb dM_follow_35 (tgt := 51) (by decide) (by omega) (by omega) (fun h35 => ?_) (fun h35 => ?_)
            · rw [show n = 960 * 3 by omega, bz_e (B := u.1 2) (n := 960) (fun y b z => hrg.2 y b z)] at hP hD
              have hP : va_P D vwA (mW a kI kL kZ (m_zer u)) H := hP
              have hD : va_D (mA a) (mW a kI kL kZ (m_zer u)) := hD
              refine lv_iconst (v := nI 0) hx hb dM_follow_51 (by decide +kernel) ?_
              refine lv_istore_n (lv' := [(3, .int (nI 0)), (0, .ref (a 0)), (1, .int (-1)), (2, .int (nI 0))]) hx hb dM_follow_52 rfl hl (by decide) rfl (fun ls hl => ?_)
              have lp3 : ∀ (fu : Nat) (n : Nat) (v : sU) (ls : Array Slot) (H : Heap) (locs : List Loc), m_ext (m_zer u) v → m_ok v N kd fa fb so xa xb xc U → (∀ x, x < n → v.1 0 x x = true ∧ v.1 0 x 0 = true) → n ≤ N → va_P D vwA (mW a kI kL kZ v) H → va_D (mA a) (mW a kI kL kZ v) → va_S (mA a) s.heap H locs → N - n < fu → lv_has ls 4 [(3, .int (nI n)), (0, .ref (a 0)), (1, .int (-1)), (2, .int (nI 0))] → W p l e R s m ([.ref (a 0), .int (-1), .int (nI 0)] : List Value).toArray below meth c H locs 0 0 Q (F0 m 53 ls []) := by
                intro fu
                induction fu with
                | zero => intros; omega
                | succ fu ih53 =>
                  intro n v ls H locs g0 g2 g3 g4 hP hD hS hfu hl
                  have hv3 := mt_N (me_tab htz g0)
                  refine lv_iload_n hx hb dM_follow_53 rfl (lv_at hl 0 rfl) ?_
                  refine lv_aload_n hx hb dM_follow_54 rfl (lv_at hl 1 rfl) ?_
                  refine gf_M_7 (v := .int (nI (v.2.2 1))) hx hb hA hown hK hP 0 rfl rfl dM_follow_55 ?_
                  refine tq_ge hx hb dM_follow_58 (tgt := 79) (by decide) (by omega) (by omega) (fun h58 => ?_) (fun h58 => ?_)
                  · refine lv_aload_n hx hb dM_follow_79 rfl (lv_at hl 1 rfl) ?_
                    refine lv_iconst (v := nI 1) hx hb dM_follow_80 (by decide +kernel) ?_
                    refine pf_M_92 (v := .int (nI 1)) hx hb hA hown hK hP hD hS 0 rfl rfl rfl (Nat.le_of_ble_eq_true rfl) dM_follow_81 (fun H locs hP hD hS => ?_)
                    have hP : va_P D vwA (mW a kI kL kZ (v.1, v.2.1, va_up v.2.2 4 1)) H := hP
                    have hD : va_D (mA a) (mW a kI kL kZ (v.1, v.2.1, va_up v.2.2 4 1)) := hD
                    have hP : va_P D vwA (mW a kI kL kZ (m_m v 1)) H := hP
                    have hD : va_D (mA a) (mW a kI kL kZ (m_m v 1)) := hD
                    have lp4 : ∀ (fu : Nat)  (w9 : sU) (ls : Array Slot) (H : Heap) (locs : List Loc), w9.2.1 = u.2.1 → (∀ j, ¬ j = 4 → w9.2.2 j = u.2.2 j) → w9.2.2 4 ≤ 1 → m_ok w9 N kd fa fb so xa xb xc U → (∀ x, x < N → w9.1 0 x x = true ∧ w9.1 0 x 0 = true) → (w9.2.2 4 = 0 → ∀ x, x < N → m_cX w9.1 N kd fa fb so xa xb xc U x) → va_P D vwA (mW a kI kL kZ w9) H → va_D (mA a) (mW a kI kL kZ w9) → va_S (mA a) s.heap H locs → 2 * m_ms w9 + w9.2.2 4 < fu → lv_has ls 4 [(0, .ref (a 0)), (1, .int (-1)), (2, .int (nI 0))] → W p l e R s m ([.ref (a 0), .int (-1), .int (nI 0)] : List Value).toArray below meth c H locs 0 0 Q (F0 m 84 ls []) := by
                      intro fu
                      induction fu with
                      | zero => intros; omega
                      | succ fu ih84 =>
                        intro  w9 ls H locs k1 k2 k3 k4 k5 k6 hP hD hS hfu hl
                        have t9 : m_tab w9 N kd fa fb T so xa xb xc := tab_of hta k1 (k2 1 (by decide)) (k2 2 (by decide))
                        have n9 := mt_N t9
                        have u9 : m_use w9 T U := use_of hu9 k1
                        refine lv_aload_n hx hb dM_follow_84 rfl (lv_at hl 0 rfl) ?_
                        refine gf_M_92 (v := .int (nI (w9.2.2 4))) hx hb hA hown hK hP 0 rfl rfl dM_follow_85 ?_
                        refine tq_zeq hx hb dM_follow_88 (tgt := 146) (by decide) (by omega) (fun h88 => ?_) (fun h88 => ?_)
                        · subst hQe
                          exact W.vret hx hb hr (fun t ht hW => ⟨⟨w9, rfl, ⟨k1, k2, k3, k4, k5, k6 h88⟩, tq_hp ht hP⟩, hS.F ht⟩) hS.2.2 dM_follow_146
                        · refine lv_iload_n hx hb dM_follow_91 rfl (lv_at hl 1 rfl) ?_
                          refine lv_if_lt hx hb dM_follow_92 (tgt := 107) (by decide) (fun h92 => ?_) (fun h92 => ?_)
                          · refine lv_aload_n hx hb dM_follow_107 rfl (lv_at hl 0 rfl) ?_
                            refine lv_iconst (v := nI 0) hx hb dM_follow_108 (by decide +kernel) ?_
                            refine pf_M_92 (v := .int (nI 0)) hx hb hA hown hK hP hD hS 0 rfl rfl rfl (Nat.le_of_ble_eq_true rfl) dM_follow_109 (fun H locs hP hD hS => ?_)
                            have hP : va_P D vwA (mW a kI kL kZ (w9.1, w9.2.1, va_up w9.2.2 4 0)) H := hP
                            have hD : va_D (mA a) (mW a kI kL kZ (w9.1, w9.2.1, va_up w9.2.2 4 0)) := hD
                            have hP : va_P D vwA (mW a kI kL kZ (m_m w9 0)) H := hP
                            have hD : va_D (mA a) (mW a kI kL kZ (m_m w9 0)) := hD
                            refine lv_iconst (v := nI 0) hx hb dM_follow_112 (by decide +kernel) ?_
                            refine lv_istore_n (lv' := [(3, .int (nI 0)), (0, .ref (a 0)), (1, .int (-1)), (2, .int (nI 0))]) hx hb dM_follow_113 rfl hl (by decide) rfl (fun ls hl => ?_)
                            have lp5 : ∀ (fu : Nat) (j : Nat) (v : sU) (ls : Array Slot) (H : Heap) (locs : List Loc), m_ext (m_m w9 0) v → m_ok v N kd fa fb so xa xb xc U → (v.1 = w9.1 → ∀ x, 0 ≤ x → x < j → m_cX w9.1 N kd fa fb so xa xb xc U x) → j ≤ N → va_P D vwA (mW a kI kL kZ v) H → va_D (mA a) (mW a kI kL kZ v) → va_S (mA a) s.heap H locs → N - j < fu → lv_has ls 4 [(3, .int (nI j)), (0, .ref (a 0)), (1, .int (-1)), (2, .int (nI 0))] → W p l e R s m ([.ref (a 0), .int (-1), .int (nI 0)] : List Value).toArray below meth c H locs 0 0 Q (F0 m 114 ls []) := by
                              intro fu
                              induction fu with
                              | zero => intros; omega
                              | succ fu ih114 =>
                                intro j v ls H locs l1 l2 l3 l4 hP hD hS hfu hl
                                have tv : m_tab v N kd fa fb T so xa xb xc := me_tab (show m_tab (m_m w9 0) N kd fa fb T so xa xb xc from t9) l1
                                have uv : m_use v T U := me_use (show m_use (m_m w9 0) T U from u9) l1
                                have nv := mt_N tv
                                have fv : v.2.2 4 ≤ 1 := me_4 l1 (Nat.zero_le _)
                                refine lv_iload_n hx hb dM_follow_114 rfl (lv_at hl 0 rfl) ?_
                                refine lv_aload_n hx hb dM_follow_115 rfl (lv_at hl 1 rfl) ?_
                                refine gf_M_7 (v := .int (nI (v.2.2 1))) hx hb hA hown hK hP 0 rfl rfl dM_follow_116 ?_
                                refine tq_ge hx hb dM_follow_119 (tgt := 143) (by decide) (by omega) (by omega) (fun h119 => ?_) (fun h119 => ?_)
                                · have hms := pass_ms l1 h88
                                  refine lv_goto hx hb dM_follow_143 (tgt := 84) (by decide) ?_
                                  exact ih84 v ls H locs (l1.1.trans k1) (fun j z => (l1.2.1 j z).trans ((va_up_ne _ _ z).trans (k2 j z))) (me_4 l1 (Nat.zero_le _)) l2 (fun x z => ⟨l1.2.2.1 _ _ _ (k5 x z).1, l1.2.2.1 _ _ _ (k5 x z).2⟩) (pass_c l1 (fun e x z1 z2 => l3 e x z1 (by omega))) hP hD hS (by omega) (lv_sub hl [1, 2, 3] rfl)
                                · refine lv_aload_n hx hb dM_follow_122 rfl (lv_at hl 1 rfl) ?_
                                  refine lv_iload_n hx hb dM_follow_123 rfl (lv_at hl 0 rfl) ?_
                                  refine ks_v (wf := mW a kI kL kZ) (u := v) ⟨hx, hb, hml, hown, hA⟩ (m_byAxioms l D a kI kL kZ v N kd fa fb T so xa xb xc tv U uv l2 fv j (by omega)) (kw_M_114 hA rfl rfl ⟨Nat.le_trans (Nat.le_of_ble_eq_true rfl) hRf, Nat.le_trans (Nat.le_of_ble_eq_true rfl) hRl⟩) hK hP hD hS (fun _ h => h) (fun u' => mW_adr u') 0 5 rfl rfl rfl hl.1 (Nat.le_of_ble_eq_true rfl) ⟨by omega, by omega⟩ dM_follow_124 rfl (fun u1 H locs hu1 hP hD hS => ?_)
                                  have ca := hu1
                                  have t_ca := me_tab tv ca.1
                                  have u_ca := me_use uv ca.1
                                  have f_ca := me_4 ca.1 fv
                                  have n_ca := mt_N t_ca
                                  refine lv_aload_n hx hb dM_follow_127 rfl (lv_at hl 1 rfl) ?_
                                  refine lv_iload_n hx hb dM_follow_128 rfl (lv_at hl 0 rfl) ?_
                                  refine ks_v (wf := mW a kI kL kZ) (u := u1) ⟨hx, hb, hml, hown, hA⟩ (m_byDescriptions l D a kI kL kZ u1 N kd fa fb T so xa xb xc t_ca U u_ca ca.2.1 f_ca j (by omega)) (kw_M_118 hA rfl rfl ⟨Nat.le_trans (Nat.le_of_ble_eq_true rfl) hRf, Nat.le_trans (Nat.le_of_ble_eq_true rfl) hRl⟩) hK hP hD hS (fun _ h => h) (fun u' => mW_adr u') 0 5 rfl rfl rfl hl.1 (Nat.le_of_ble_eq_true rfl) ⟨by omega, by omega⟩ dM_follow_129 rfl (fun u2 H locs hu2 hP hD hS => ?_)
                                  have cb := hu2
                                  have t_cb := me_tab t_ca cb.1
                                  have u_cb := me_use u_ca cb.1
                                  have f_cb := me_4 cb.1 f_ca
                                  have n_cb := mt_N t_cb
                                  refine lv_aload_n hx hb dM_follow_132 rfl (lv_at hl 1 rfl) ?_
                                  refine lv_iload_n hx hb dM_follow_133 rfl (lv_at hl 0 rfl) ?_
                                  refine ks_v (wf := mW a kI kL kZ) (u := u2) ⟨hx, hb, hml, hown, hA⟩ (m_byNothing l D a kI kL kZ u2 N kd fa fb T so xa xb xc t_cb U u_cb cb.2.1 f_cb j (by omega)) (kw_M_121 hA rfl rfl ⟨Nat.le_trans (Nat.le_of_ble_eq_true rfl) hRf, Nat.le_trans (Nat.le_of_ble_eq_true rfl) hRl⟩) hK hP hD hS (fun _ h => h) (fun u' => mW_adr u') 0 5 rfl rfl rfl hl.1 (Nat.le_of_ble_eq_true rfl) ⟨by omega, by omega⟩ dM_follow_134 rfl (fun u3 H locs hu3 hP hD hS => ?_)
                                  have cc9 := hu3
                                  have t_cc9 := me_tab t_cb cc9.1
                                  have u_cc9 := me_use u_cb cc9.1
                                  have f_cc9 := me_4 cc9.1 f_cb
                                  have n_cc9 := mt_N t_cc9
                                  refine lv_iinc (k := 0) (lv' := [(3, .int (nI (j + 1))), (0, .ref (a 0)), (1, .int (-1)), (2, .int (nI 0))]) hx hb dM_follow_137 hl rfl (nI_1 _) (by decide) rfl (fun ls hl => ?_)
                                  refine lv_goto hx hb dM_follow_140 (tgt := 114) (by decide) ?_
                                  exact ih114 (j + 1) u3 ls H locs (me_trans l1 (me_trans ca.1 (me_trans cb.1 cc9.1))) cc9.2.1 (pass_s (u := m_m w9 0) (C := fun B x => m_cX B N kd fa fb so xa xb xc U x) l1 (me_trans ca.1 (me_trans cb.1 cc9.1)) l3 (fun e => by
                                      obtain ⟨q1, q2⟩ := me_sand ca.1 (me_trans cb.1 cc9.1) e
                                      obtain ⟨q3, q4⟩ := me_sand cb.1 cc9.1 q2
                                      refine ⟨ca.2.2 q1, ?_, ?_⟩
                                      · rw [← q1]
                                        exact cb.2.2 q3
                                      · rw [← q1, ← q3]
                                        exact cc9.2.2 q4)) (by omega) hP hD hS (by omega) (lv_sub hl [0, 1, 2, 3] rfl)
                            exact lp5 _ 0 (m_m w9 0) ls _ _ (me_refl _) k4 (fun _ x _ z => by omega) (by omega) hP hD hS (Nat.lt_succ_self _) (lv_sub hl [0, 1, 2, 3] rfl)
                          · exact absurd h92 (by decide)
                    exact lp4 _ (m_m v 1) ls _ _ g0.1 (fun j z => (va_up_ne _ _ z).trans (g0.2.1 j z)) (Nat.le_refl _) g2 (fun x z => g3 x (by omega)) (fun z => absurd (show (1 : Nat) = 0 from z) (by decide)) hP hD hS (Nat.lt_succ_self _) (lv_sub hl [1, 2, 3] rfl)
                  · refine lv_aload_n hx hb dM_follow_61 rfl (lv_at hl 1 rfl) ?_
                    refine lv_iload_n hx hb dM_follow_62 rfl (lv_at hl 0 rfl) ?_
                    refine lv_iload_n hx hb dM_follow_63 rfl (lv_at hl 0 rfl) ?_
                    refine ks_v (wf := mW a kI kL kZ) (u := v) ⟨hx, hb, hml, hown, hA⟩ (m_add0 l D a kI kL kZ v n n (by omega) (by omega)) (kw_M_107 hA rfl rfl ⟨Nat.le_trans (Nat.le_of_ble_eq_true rfl) hRf, Nat.le_trans (Nat.le_of_ble_eq_true rfl) hRl⟩) hK hP hD hS (fun _ h => h) (fun u' => mW_adr u') 0 5 rfl rfl rfl hl.1 (Nat.le_of_ble_eq_true rfl) ⟨by omega, by omega⟩ dM_follow_64 rfl (fun u4 H locs hu4 hP hD hS => ?_)
                    have ad := add_of hu4 (show n < N by omega) (show n < N by omega) hN.2.2.1 g2 (ru_0 (by omega)).1
                    have hm1 := mt_N (me_tab htz (me_trans g0 ad.1))
                    refine lv_aload_n hx hb dM_follow_67 rfl (lv_at hl 1 rfl) ?_
                    refine lv_iload_n hx hb dM_follow_68 rfl (lv_at hl 0 rfl) ?_
                    refine lv_iconst (v := nI 0) hx hb dM_follow_69 (by decide +kernel) ?_
                    refine ks_v (wf := mW a kI kL kZ) (u := u4) ⟨hx, hb, hml, hown, hA⟩ (m_add0 l D a kI kL kZ u4 n 0 (by omega) (by omega)) (kw_M_107 hA rfl rfl ⟨Nat.le_trans (Nat.le_of_ble_eq_true rfl) hRf, Nat.le_trans (Nat.le_of_ble_eq_true rfl) hRl⟩) hK hP hD hS (fun _ h => h) (fun u' => mW_adr u') 0 5 rfl rfl rfl hl.1 (Nat.le_of_ble_eq_true rfl) ⟨by omega, by omega⟩ dM_follow_70 rfl (fun u5 H locs hu5 hP hD hS => ?_)
                    have ad2 := add_of hu5 (show n < N by omega) (show 0 < N by omega) hN.2.2.1 ad.2.1 (ru_0 (by omega)).2
                    refine lv_iinc (k := 0) (lv' := [(3, .int (nI (n + 1))), (0, .ref (a 0)), (1, .int (-1)), (2, .int (nI 0))]) hx hb dM_follow_73 hl rfl (nI_1 _) (by decide) rfl (fun ls hl => ?_)
                    refine lv_goto hx hb dM_follow_76 (tgt := 53) (by decide) ?_
                    exact ih53 (n + 1) u5 ls H locs (me_trans g0 (me_trans ad.1 ad2.1)) ad2.2.1 (fun x hx => by
                        by_cases c : x = n
                        · subst c
                          exact ⟨ad2.1.2.2.1 _ _ _ ad.2.2.2.1, ad2.2.2.2.1⟩
                        · exact ⟨ad2.1.2.2.1 _ _ _ (ad.1.2.2.1 _ _ _ (g3 x (by omega)).1), ad2.1.2.2.1 _ _ _ (ad.1.2.2.1 _ _ _ (g3 x (by omega)).2)⟩) (by omega) hP hD hS (by omega) (lv_sub hl [0, 1, 2, 3] rfl)
              exact lp3 _ 0 (m_zer u) ls _ _ (me_refl _) ok_zer (fun x z => absurd z (Nat.not_lt_zero x)) (by omega) hP hD hS (Nat.lt_succ_self _) (lv_sub hl [0, 1, 2, 3] rfl)
            · refine lv_aload_n hx hb dM_follow_38 rfl (lv_at hl 1 rfl) ?_
              refine gf_M_49 (v := .ref (a 12)) hx hb hA hown hK hP 0 rfl rfl dM_follow_39 ?_
              refine lv_iload_n hx hb dM_follow_42 rfl (lv_at hl 0 rfl) ?_
              refine lv_lconst (v := 0) hx hb dM_follow_43 (by decide +kernel) ?_
              refine tq_last hx hb hK hP hD hS 12 1 rfl rfl (by omega) (by omega) dM_follow_44 (fun H locs hP hD hS => ?_)
              have hP : va_P D vwA (mX a kI kL kZ u (bw 3 bF) (bw 3 bF) (vp_updL (bw_z 3 (u.1 2) n) n 0)) H := hP
              have hD : va_D (mA a) (mX a kI kL kZ u (bw 3 bF) (bw 3 bF) (vp_updL (bw_z 3 (u.1 2) n) n 0)) := hD
              rw [bw_zs 3 (u.1 2) n] at hP hD
              refine lv_iinc (k := 0) (lv' := [(3, .int (nI (n + 1))), (0, .ref (a 0)), (1, .int (-1)), (2, .int (nI 0))]) hx hb dM_follow_45 hl rfl (nI_1 _) (by decide) rfl (fun ls hl => ?_)
              refine lv_goto hx hb dM_follow_48 (tgt := 31) (by decide) ?_
              exact ih31 (n + 1) ls H locs (by omega) hP hD hS (by omega) (lv_sub hl [0, 1, 2, 3] rfl)
        exact lp2 _ 0 ls _ _ (by omega) hP hD hS (Nat.lt_succ_self _) (lv_sub hl [0, 1, 2, 3] rfl)
      · refine lv_aload_n hx hb dM_follow_9 rfl (lv_at hl 1 rfl) ?_
        refine gf_M_42 (v := .ref (a 10)) hx hb hA hown hK hP 0 rfl rfl dM_follow_10 ?_
        refine lv_iload_n hx hb dM_follow_13 rfl (lv_at hl 0 rfl) ?_
        refine lv_lconst (v := 0) hx hb dM_follow_14 (by decide +kernel) ?_
        refine tq_last hx hb hK hP hD hS 10 1 rfl rfl (by omega) (by omega) dM_follow_15 (fun H locs hP hD hS => ?_)
        have hP : va_P D vwA (mX a kI kL kZ u (vp_updL (bw_z 3 (u.1 0) n) n 0) (bw_z 3 (u.1 1) n) (bw 3 (u.1 2))) H := hP
        have hD : va_D (mA a) (mX a kI kL kZ u (vp_updL (bw_z 3 (u.1 0) n) n 0) (bw_z 3 (u.1 1) n) (bw 3 (u.1 2))) := hD
        refine lv_aload_n hx hb dM_follow_16 rfl (lv_at hl 1 rfl) ?_
        refine gf_M_46 (v := .ref (a 11)) hx hb hA hown hK hP 0 rfl rfl dM_follow_17 ?_
        refine lv_iload_n hx hb dM_follow_20 rfl (lv_at hl 0 rfl) ?_
        refine lv_lconst (v := 0) hx hb dM_follow_21 (by decide +kernel) ?_
        refine tq_last hx hb hK hP hD hS 11 1 rfl rfl (by omega) (by omega) dM_follow_22 (fun H locs hP hD hS => ?_)
        have hP : va_P D vwA (mX a kI kL kZ u (vp_updL (bw_z 3 (u.1 0) n) n 0) (vp_updL (bw_z 3 (u.1 1) n) n 0) (bw 3 (u.1 2))) H := hP
        have hD : va_D (mA a) (mX a kI kL kZ u (vp_updL (bw_z 3 (u.1 0) n) n 0) (vp_updL (bw_z 3 (u.1 1) n) n 0) (bw 3 (u.1 2))) := hD
        rw [bw_zs 3 (u.1 0) n, bw_zs 3 (u.1 1) n] at hP hD
        refine lv_iinc (k := 0) (lv' := [(3, .int (nI (n + 1))), (0, .ref (a 0)), (1, .int (-1)), (2, .int (nI 0))]) hx hb dM_follow_23 hl rfl (nI_1 _) (by decide) rfl (fun ls hl => ?_)
        refine lv_goto hx hb dM_follow_26 (tgt := 2) (by decide) ?_
        exact ih2 (n + 1) ls H locs (by omega) hP hD hS (by omega) (lv_sub hl [0, 1, 2, 3] rfl)
  exact lp _ 0 ls _ _ (by omega) hP hD hS (Nat.lt_succ_self _) (lv_sub hl [0, 1, 2, 3] rfl)
set_option maxHeartbeats 4000000 in
set_option maxRecDepth 100000 in
/-- m_follow -/
theorem m_follow (l : Launch) (D : va_G) (a : Nat → Nat) (kI kL kZ : ClassId) (u : sU) (N : Nat) (kd fa fb : Nat → Nat) (T : Nat) (so xa xb xc : Nat → Nat) (hta : m_tab u N kd fa fb T so xa xb xc) (U : Nat → Prop) (hu9 : m_use u T U) (hrg : m_rng u) (hm4 : u.2.2 4 ≤ 1) (d d2 : Nat) (hd : d < N) (hd2 : d2 < N) : Met l yM_follow (wM_follow :: wA) ({ frames := 3, cells := 0, slots := 0, locals := 74 }) (va_Pc [.ref (a 0), .int (nI d), .int (nI d2)] (tq_wB D vwA (mW a kI kL kZ u) (sT kI kL kZ))) (va_Qv (fun (u' : sU) => u'.2.1 = u.2.1 ∧ (∀ j, ¬ j = 4 → u'.2.2 j = u.2.2 j) ∧ u'.2.2 4 ≤ 1 ∧ m_ok u' N kd fa fb so xa xb xc U ∧ (m_clo u' N kd fa fb so xa xb xc U ∨ u'.1 0 d d2 = true)) (fun u' t => va_P D vwA (mW a kI kL kZ u') t.heap) (mA a)) 0 0 (mA a) := by
  refine Met.ofW (cc := bM_follow) (maxL := 4) (ret := none) (by decide +kernel) rfl ?_
  intro p e s m args below meth c s₁ B1 hml hv
  obtain ⟨rfl, hP, hK, hD0⟩ := hv
  have hx := B1.exec
  have hb := B1.bytes
  have hr := B1.returns
  have hA : ∀ w ∈ wA, w.before ([.ref (a 0), .int (nI d), .int (nI d2)] : List Value).toArray s = true := fun w h => atoms_spec (ws := wM_follow :: wA) B1.pre w (List.mem_cons_of_mem _ h)
  have hown : s.vm.findClass RcM = some m.cls := findClass_of_methodNamed B1.named
  have hlocks := B1.notSynchronized
  have hS : va_S (mA a) s.heap s.heap [] := va_S.rf
  have hl := lv_entry ([.ref (a 0), .int (nI d), .int (nI d2)]) (n := 4) (Nat.le_of_ble_eq_true rfl)
  rw [lg_entry_eq]
  generalize (lg_sl ([.ref (a 0), .int (nI d), .int (nI d2)]) ++ List.replicate (4 - (lg_sl ([.ref (a 0), .int (nI d), .int (nI d2)])).length) Slot.unset).toArray = ls at hl ⊢
  have hl : lv_has ls 4 [(0, .ref (a 0)), (1, .int (nI d)), (2, .int (nI d2))] := hl
  refine tq_gen (fun R Q hRe hQe => ?_)
  have hRf : 3 ≤ R.frames := by rw [hRe]; exact Nat.le_of_ble_eq_true rfl
  have hRl : 74 ≤ R.locals := by rw [hRe]; exact Nat.le_of_ble_eq_true rfl
  have hRc : 0 ≤ R.cells := by rw [hRe]; exact Nat.le_of_ble_eq_true rfl
  have hRs : 0 ≤ R.slots := by rw [hRe]; exact Nat.le_of_ble_eq_true rfl
  have hD := mA_D hD0
  have hN := mt_N hta
  have htz : m_tab (m_zer u) N kd fa fb T so xa xb xc := hta
  have hP : va_P D vwA (mX a kI kL kZ u (bw_z 3 (u.1 0) 0) (bw_z 3 (u.1 1) 0) (bw 3 (u.1 2))) s.heap := by rw [bw_z0, bw_z0]; exact hP
  have hD : va_D (mA a) (mX a kI kL kZ u (bw_z 3 (u.1 0) 0) (bw_z 3 (u.1 1) 0) (bw 3 (u.1 2))) := by rw [bw_z0, bw_z0]; exact hD
  refine lv_iconst (v := nI 0) hx hb dM_follow_0 (by decide +kernel) ?_
  refine lv_istore_n (lv' := [(3, .int (nI 0)), (0, .ref (a 0)), (1, .int (nI d)), (2, .int (nI d2))]) hx hb dM_follow_1 rfl hl (by decide) rfl (fun ls hl => ?_)
  have lp : ∀ (fu : Nat) (n : Nat) (ls : Array Slot) (H : Heap) (locs : List Loc), n ≤ 480 → va_P D vwA (mX a kI kL kZ u (bw_z 3 (u.1 0) n) (bw_z 3 (u.1 1) n) (bw 3 (u.1 2))) H → va_D (mA a) (mX a kI kL kZ u (bw_z 3 (u.1 0) n) (bw_z 3 (u.1 1) n) (bw 3 (u.1 2))) → va_S (mA a) s.heap H locs → 480 - n < fu → lv_has ls 4 [(3, .int (nI n)), (0, .ref (a 0)), (1, .int (nI d)), (2, .int (nI d2))] → W p l e R s m ([.ref (a 0), .int (nI d), .int (nI d2)] : List Value).toArray below meth c H locs 0 0 Q (F0 m 2 ls []) := by
    intro fu
    induction fu with
    | zero => intros; omega
    | succ fu ih2 =>
      intro n  ls H locs g1 hP hD hS hfu hl
      refine lv_iload_n hx hb dM_follow_2 rfl (lv_at hl 0 rfl) ?_
      refine lv_sipush (v := nI 480) hx hb dM_follow_3 (by decide +kernel) ?_
      refine tq_ge hx hb dM_follow_6 (tgt := 29) (by decide) (by omega) (by omega) (fun h6 => ?_) (fun h6 => ?_)
      · rw [show n = 160 * 3 by omega, bz_e (B := u.1 0) (n := 160) (fun y b z => (hrg.1 y b z).1), bz_e (B := u.1 1) (n := 160) (fun y b z => (hrg.1 y b z).2), ← bw_z0 3 (u.1 2)] at hP hD
        refine lv_iconst (v := nI 0) hx hb dM_follow_29 (by decide +kernel) ?_
        refine lv_istore_n (lv' := [(3, .int (nI 0)), (0, .ref (a 0)), (1, .int (nI d)), (2, .int (nI d2))]) hx hb dM_follow_30 rfl hl (by decide) rfl (fun ls hl => ?_)
        have lp2 : ∀ (fu : Nat) (n : Nat) (ls : Array Slot) (H : Heap) (locs : List Loc), n ≤ 2880 → va_P D vwA (mX a kI kL kZ u (bw 3 bF) (bw 3 bF) (bw_z 3 (u.1 2) n)) H → va_D (mA a) (mX a kI kL kZ u (bw 3 bF) (bw 3 bF) (bw_z 3 (u.1 2) n)) → va_S (mA a) s.heap H locs → 2880 - n < fu → lv_has ls 4 [(3, .int (nI n)), (0, .ref (a 0)), (1, .int (nI d)), (2, .int (nI d2))] → W p l e R s m ([.ref (a 0), .int (nI d), .int (nI d2)] : List Value).toArray below meth c H locs 0 0 Q (F0 m 31 ls []) := by
          intro fu
          induction fu with
          | zero => intros; omega
          | succ fu ih31 =>
            intro n  ls H locs g1 hP hD hS hfu hl
            refine lv_iload_n hx hb dM_follow_31 rfl (lv_at hl 0 rfl) ?_
            refine lv_sipush (v := nI 2880) hx hb dM_follow_32 (by decide +kernel) ?_
            refine tq_ge hx hb dM_follow_35 (tgt := 51) (by decide) (by omega) (by omega) (fun h35 => ?_) (fun h35 => ?_)
            · rw [show n = 960 * 3 by omega, bz_e (B := u.1 2) (n := 960) (fun y b z => hrg.2 y b z)] at hP hD
              have hP : va_P D vwA (mW a kI kL kZ (m_zer u)) H := hP
              have hD : va_D (mA a) (mW a kI kL kZ (m_zer u)) := hD
              refine lv_iconst (v := nI 0) hx hb dM_follow_51 (by decide +kernel) ?_
              refine lv_istore_n (lv' := [(3, .int (nI 0)), (0, .ref (a 0)), (1, .int (nI d)), (2, .int (nI d2))]) hx hb dM_follow_52 rfl hl (by decide) rfl (fun ls hl => ?_)
              have lp3 : ∀ (fu : Nat) (n : Nat) (v : sU) (ls : Array Slot) (H : Heap) (locs : List Loc), m_ext (m_zer u) v → m_ok v N kd fa fb so xa xb xc U → (∀ x, x < n → v.1 0 x x = true ∧ v.1 0 x 0 = true) → n ≤ N → va_P D vwA (mW a kI kL kZ v) H → va_D (mA a) (mW a kI kL kZ v) → va_S (mA a) s.heap H locs → N - n < fu → lv_has ls 4 [(3, .int (nI n)), (0, .ref (a 0)), (1, .int (nI d)), (2, .int (nI d2))] → W p l e R s m ([.ref (a 0), .int (nI d), .int (nI d2)] : List Value).toArray below meth c H locs 0 0 Q (F0 m 53 ls []) := by
                intro fu
                induction fu with
                | zero => intros; omega
                | succ fu ih53 =>
                  intro n v ls H locs g0 g2 g3 g4 hP hD hS hfu hl
                  have hv3 := mt_N (me_tab htz g0)
                  refine lv_iload_n hx hb dM_follow_53 rfl (lv_at hl 0 rfl) ?_
                  refine lv_aload_n hx hb dM_follow_54 rfl (lv_at hl 1 rfl) ?_
                  refine gf_M_7 (v := .int (nI (v.2.2 1))) hx hb hA hown hK hP 0 rfl rfl dM_follow_55 ?_
                  refine tq_ge hx hb dM_follow_58 (tgt := 79) (by decide) (by omega) (by omega) (fun h58 => ?_) (fun h58 => ?_)
                  · refine lv_aload_n hx hb dM_follow_79 rfl (lv_at hl 1 rfl) ?_
                    refine lv_iconst (v := nI 1) hx hb dM_follow_80 (by decide +kernel) ?_
                    refine pf_M_92 (v := .int (nI 1)) hx hb hA hown hK hP hD hS 0 rfl rfl rfl (Nat.le_of_ble_eq_true rfl) dM_follow_81 (fun H locs hP hD hS => ?_)
                    have hP : va_P D vwA (mW a kI kL kZ (v.1, v.2.1, va_up v.2.2 4 1)) H := hP
                    have hD : va_D (mA a) (mW a kI kL kZ (v.1, v.2.1, va_up v.2.2 4 1)) := hD
                    have hP : va_P D vwA (mW a kI kL kZ (m_m v 1)) H := hP
                    have hD : va_D (mA a) (mW a kI kL kZ (m_m v 1)) := hD
                    have lp4 : ∀ (fu : Nat)  (w9 : sU) (ls : Array Slot) (H : Heap) (locs : List Loc), w9.2.1 = u.2.1 → (∀ j, ¬ j = 4 → w9.2.2 j = u.2.2 j) → w9.2.2 4 ≤ 1 → m_ok w9 N kd fa fb so xa xb xc U → (∀ x, x < N → w9.1 0 x x = true ∧ w9.1 0 x 0 = true) → (w9.2.2 4 = 0 → ∀ x, x < N → m_cX w9.1 N kd fa fb so xa xb xc U x) → va_P D vwA (mW a kI kL kZ w9) H → va_D (mA a) (mW a kI kL kZ w9) → va_S (mA a) s.heap H locs → 2 * m_ms w9 + w9.2.2 4 < fu → lv_has ls 4 [(0, .ref (a 0)), (1, .int (nI d)), (2, .int (nI d2))] → W p l e R s m ([.ref (a 0), .int (nI d), .int (nI d2)] : List Value).toArray below meth c H locs 0 0 Q (F0 m 84 ls []) := by
                      intro fu
                      induction fu with
                      | zero => intros; omega
                      | succ fu ih84 =>
                        intro  w9 ls H locs k1 k2 k3 k4 k5 k6 hP hD hS hfu hl
                        have t9 : m_tab w9 N kd fa fb T so xa xb xc := tab_of hta k1 (k2 1 (by decide)) (k2 2 (by decide))
                        have n9 := mt_N t9
                        have u9 : m_use w9 T U := use_of hu9 k1
                        refine lv_aload_n hx hb dM_follow_84 rfl (lv_at hl 0 rfl) ?_
                        refine gf_M_92 (v := .int (nI (w9.2.2 4))) hx hb hA hown hK hP 0 rfl rfl dM_follow_85 ?_
                        refine tq_zeq hx hb dM_follow_88 (tgt := 146) (by decide) (by omega) (fun h88 => ?_) (fun h88 => ?_)
                        · subst hQe
                          exact W.vret hx hb hr (fun t ht hW => ⟨⟨w9, rfl, ⟨k1, k2, k3, k4, by first | exact Or.inl ⟨k5, k6 h88⟩ | exact Or.inr h104⟩, tq_hp ht hP⟩, hS.F ht⟩) hS.2.2 dM_follow_146
                        · refine lv_iload_n hx hb dM_follow_91 rfl (lv_at hl 1 rfl) ?_
                          refine lv_if_lt hx hb dM_follow_92 (tgt := 107) (by decide) (fun h92 => ?_) (fun h92 => ?_)
                          · exact absurd h92 (nI_nn (by omega))
                          · refine lv_aload_n hx hb dM_follow_95 rfl (lv_at hl 0 rfl) ?_
                            refine gf_M_42 (v := .ref (a 10)) hx hb hA hown hK hP 0 rfl rfl dM_follow_96 ?_
                            refine lv_iload_n hx hb dM_follow_99 rfl (lv_at hl 1 rfl) ?_
                            refine lv_iload_n hx hb dM_follow_100 rfl (lv_at hl 2 rfl) ?_
                            refine k_in ⟨hx, hb, hml, hown, hA⟩ (kw_M_84 hA rfl rfl ⟨Nat.le_trans (Nat.le_of_ble_eq_true rfl) hRf, Nat.le_trans (Nat.le_of_ble_eq_true rfl) hRl⟩) hK hP hS 10 1 rfl rfl (by omega) (by omega) (by decide) hl.1 (Nat.le_of_ble_eq_true rfl) ⟨by omega, by omega⟩ dM_follow_101 (fun H locs hP hS => ?_)
                            refine tq_bt hx hb dM_follow_104 (tgt := 146) (by decide) (fun h104 => ?_) (fun h104 => ?_)
                            · subst hQe
                              exact W.vret hx hb hr (fun t ht hW => ⟨⟨w9, rfl, ⟨k1, k2, k3, k4, by first | exact Or.inl ⟨k5, k6 h88⟩ | exact Or.inr h104⟩, tq_hp ht hP⟩, hS.F ht⟩) hS.2.2 dM_follow_146
                            · refine lv_aload_n hx hb dM_follow_107 rfl (lv_at hl 0 rfl) ?_
                              refine lv_iconst (v := nI 0) hx hb dM_follow_108 (by decide +kernel) ?_
                              refine pf_M_92 (v := .int (nI 0)) hx hb hA hown hK hP hD hS 0 rfl rfl rfl (Nat.le_of_ble_eq_true rfl) dM_follow_109 (fun H locs hP hD hS => ?_)
                              have hP : va_P D vwA (mW a kI kL kZ (w9.1, w9.2.1, va_up w9.2.2 4 0)) H := hP
                              have hD : va_D (mA a) (mW a kI kL kZ (w9.1, w9.2.1, va_up w9.2.2 4 0)) := hD
                              have hP : va_P D vwA (mW a kI kL kZ (m_m w9 0)) H := hP
                              have hD : va_D (mA a) (mW a kI kL kZ (m_m w9 0)) := hD
                              refine lv_iconst (v := nI 0) hx hb dM_follow_112 (by decide +kernel) ?_
                              refine lv_istore_n (lv' := [(3, .int (nI 0)), (0, .ref (a 0)), (1, .int (nI d)), (2, .int (nI d2))]) hx hb dM_follow_113 rfl hl (by decide) rfl (fun ls hl => ?_)
                              have lp5 : ∀ (fu : Nat) (j : Nat) (v : sU) (ls : Array Slot) (H : Heap) (locs : List Loc), m_ext (m_m w9 0) v → m_ok v N kd fa fb so xa xb xc U → (v.1 = w9.1 → ∀ x, 0 ≤ x → x < j → m_cX w9.1 N kd fa fb so xa xb xc U x) → j ≤ N → va_P D vwA (mW a kI kL kZ v) H → va_D (mA a) (mW a kI kL kZ v) → va_S (mA a) s.heap H locs → N - j < fu → lv_has ls 4 [(3, .int (nI j)), (0, .ref (a 0)), (1, .int (nI d)), (2, .int (nI d2))] → W p l e R s m ([.ref (a 0), .int (nI d), .int (nI d2)] : List Value).toArray below meth c H locs 0 0 Q (F0 m 114 ls []) := by
                                intro fu
                                induction fu with
                                | zero => intros; omega
                                | succ fu ih114 =>
                                  intro j v ls H locs l1 l2 l3 l4 hP hD hS hfu hl
                                  have tv : m_tab v N kd fa fb T so xa xb xc := me_tab (show m_tab (m_m w9 0) N kd fa fb T so xa xb xc from t9) l1
                                  have uv : m_use v T U := me_use (show m_use (m_m w9 0) T U from u9) l1
                                  have nv := mt_N tv
                                  have fv : v.2.2 4 ≤ 1 := me_4 l1 (Nat.zero_le _)
                                  refine lv_iload_n hx hb dM_follow_114 rfl (lv_at hl 0 rfl) ?_
                                  refine lv_aload_n hx hb dM_follow_115 rfl (lv_at hl 1 rfl) ?_
                                  refine gf_M_7 (v := .int (nI (v.2.2 1))) hx hb hA hown hK hP 0 rfl rfl dM_follow_116 ?_
                                  refine tq_ge hx hb dM_follow_119 (tgt := 143) (by decide) (by omega) (by omega) (fun h119 => ?_) (fun h119 => ?_)
                                  · have hms := pass_ms l1 h88
                                    refine lv_goto hx hb dM_follow_143 (tgt := 84) (by decide) ?_
                                    exact ih84 v ls H locs (l1.1.trans k1) (fun j z => (l1.2.1 j z).trans ((va_up_ne _ _ z).trans (k2 j z))) (me_4 l1 (Nat.zero_le _)) l2 (fun x z => ⟨l1.2.2.1 _ _ _ (k5 x z).1, l1.2.2.1 _ _ _ (k5 x z).2⟩) (pass_c l1 (fun e x z1 z2 => l3 e x z1 (by omega))) hP hD hS (by omega) (lv_sub hl [1, 2, 3] rfl)
                                  · refine lv_aload_n hx hb dM_follow_122 rfl (lv_at hl 1 rfl) ?_
                                    refine lv_iload_n hx hb dM_follow_123 rfl (lv_at hl 0 rfl) ?_
                                    refine ks_v (wf := mW a kI kL kZ) (u := v) ⟨hx, hb, hml, hown, hA⟩ (m_byAxioms l D a kI kL kZ v N kd fa fb T so xa xb xc tv U uv l2 fv j (by omega)) (kw_M_114 hA rfl rfl ⟨Nat.le_trans (Nat.le_of_ble_eq_true rfl) hRf, Nat.le_trans (Nat.le_of_ble_eq_true rfl) hRl⟩) hK hP hD hS (fun _ h => h) (fun u' => mW_adr u') 0 5 rfl rfl rfl hl.1 (Nat.le_of_ble_eq_true rfl) ⟨by omega, by omega⟩ dM_follow_124 rfl (fun u1 H locs hu1 hP hD hS => ?_)
                                    have ca := hu1
                                    have t_ca := me_tab tv ca.1
                                    have u_ca := me_use uv ca.1
                                    have f_ca := me_4 ca.1 fv
                                    have n_ca := mt_N t_ca
                                    refine lv_aload_n hx hb dM_follow_127 rfl (lv_at hl 1 rfl) ?_
                                    refine lv_iload_n hx hb dM_follow_128 rfl (lv_at hl 0 rfl) ?_
                                    refine ks_v (wf := mW a kI kL kZ) (u := u1) ⟨hx, hb, hml, hown, hA⟩ (m_byDescriptions l D a kI kL kZ u1 N kd fa fb T so xa xb xc t_ca U u_ca ca.2.1 f_ca j (by omega)) (kw_M_118 hA rfl rfl ⟨Nat.le_trans (Nat.le_of_ble_eq_true rfl) hRf, Nat.le_trans (Nat.le_of_ble_eq_true rfl) hRl⟩) hK hP hD hS (fun _ h => h) (fun u' => mW_adr u') 0 5 rfl rfl rfl hl.1 (Nat.le_of_ble_eq_true rfl) ⟨by omega, by omega⟩ dM_follow_129 rfl (fun u2 H locs hu2 hP hD hS => ?_)
                                    have cb := hu2
                                    have t_cb := me_tab t_ca cb.1
                                    have u_cb := me_use u_ca cb.1
                                    have f_cb := me_4 cb.1 f_ca
                                    have n_cb := mt_N t_cb
                                    refine lv_aload_n hx hb dM_follow_132 rfl (lv_at hl 1 rfl) ?_
                                    refine lv_iload_n hx hb dM_follow_133 rfl (lv_at hl 0 rfl) ?_
                                    refine ks_v (wf := mW a kI kL kZ) (u := u2) ⟨hx, hb, hml, hown, hA⟩ (m_byNothing l D a kI kL kZ u2 N kd fa fb T so xa xb xc t_cb U u_cb cb.2.1 f_cb j (by omega)) (kw_M_121 hA rfl rfl ⟨Nat.le_trans (Nat.le_of_ble_eq_true rfl) hRf, Nat.le_trans (Nat.le_of_ble_eq_true rfl) hRl⟩) hK hP hD hS (fun _ h => h) (fun u' => mW_adr u') 0 5 rfl rfl rfl hl.1 (Nat.le_of_ble_eq_true rfl) ⟨by omega, by omega⟩ dM_follow_134 rfl (fun u3 H locs hu3 hP hD hS => ?_)
                                    have cc9 := hu3
                                    have t_cc9 := me_tab t_cb cc9.1
                                    have u_cc9 := me_use u_cb cc9.1
                                    have f_cc9 := me_4 cc9.1 f_cb
                                    have n_cc9 := mt_N t_cc9
                                    refine lv_iinc (k := 0) (lv' := [(3, .int (nI (j + 1))), (0, .ref (a 0)), (1, .int (nI d)), (2, .int (nI d2))]) hx hb dM_follow_137 hl rfl (nI_1 _) (by decide) rfl (fun ls hl => ?_)
                                    refine lv_goto hx hb dM_follow_140 (tgt := 114) (by decide) ?_
                                    exact ih114 (j + 1) u3 ls H locs (me_trans l1 (me_trans ca.1 (me_trans cb.1 cc9.1))) cc9.2.1 (pass_s (u := m_m w9 0) (C := fun B x => m_cX B N kd fa fb so xa xb xc U x) l1 (me_trans ca.1 (me_trans cb.1 cc9.1)) l3 (fun e => by
                                        obtain ⟨q1, q2⟩ := me_sand ca.1 (me_trans cb.1 cc9.1) e
                                        obtain ⟨q3, q4⟩ := me_sand cb.1 cc9.1 q2
                                        refine ⟨ca.2.2 q1, ?_, ?_⟩
                                        · rw [← q1]
                                          exact cb.2.2 q3
                                        · rw [← q1, ← q3]
                                          exact cc9.2.2 q4)) (by omega) hP hD hS (by omega) (lv_sub hl [0, 1, 2, 3] rfl)
                              exact lp5 _ 0 (m_m w9 0) ls _ _ (me_refl _) k4 (fun _ x _ z => by omega) (by omega) hP hD hS (Nat.lt_succ_self _) (lv_sub hl [0, 1, 2, 3] rfl)
                    exact lp4 _ (m_m v 1) ls _ _ g0.1 (fun j z => (va_up_ne _ _ z).trans (g0.2.1 j z)) (Nat.le_refl _) g2 (fun x z => g3 x (by omega)) (fun z => absurd (show (1 : Nat) = 0 from z) (by decide)) hP hD hS (Nat.lt_succ_self _) (lv_sub hl [1, 2, 3] rfl)
                  · refine lv_aload_n hx hb dM_follow_61 rfl (lv_at hl 1 rfl) ?_
                    refine lv_iload_n hx hb dM_follow_62 rfl (lv_at hl 0 rfl) ?_
                    refine lv_iload_n hx hb dM_follow_63 rfl (lv_at hl 0 rfl) ?_
                    refine ks_v (wf := mW a kI kL kZ) (u := v) ⟨hx, hb, hml, hown, hA⟩ (m_add0 l D a kI kL kZ v n n (by omega) (by omega)) (kw_M_107 hA rfl rfl ⟨Nat.le_trans (Nat.le_of_ble_eq_true rfl) hRf, Nat.le_trans (Nat.le_of_ble_eq_true rfl) hRl⟩) hK hP hD hS (fun _ h => h) (fun u' => mW_adr u') 0 5 rfl rfl rfl hl.1 (Nat.le_of_ble_eq_true rfl) ⟨by omega, by omega⟩ dM_follow_64 rfl (fun u4 H locs hu4 hP hD hS => ?_)
                    have ad := add_of hu4 (show n < N by omega) (show n < N by omega) hN.2.2.1 g2 (ru_0 (by omega)).1
                    have hm1 := mt_N (me_tab htz (me_trans g0 ad.1))
                    refine lv_aload_n hx hb dM_follow_67 rfl (lv_at hl 1 rfl) ?_
                    refine lv_iload_n hx hb dM_follow_68 rfl (lv_at hl 0 rfl) ?_
                    refine lv_iconst (v := nI 0) hx hb dM_follow_69 (by decide +kernel) ?_
                    refine ks_v (wf := mW a kI kL kZ) (u := u4) ⟨hx, hb, hml, hown, hA⟩ (m_add0 l D a kI kL kZ u4 n 0 (by omega) (by omega)) (kw_M_107 hA rfl rfl ⟨Nat.le_trans (Nat.le_of_ble_eq_true rfl) hRf, Nat.le_trans (Nat.le_of_ble_eq_true rfl) hRl⟩) hK hP hD hS (fun _ h => h) (fun u' => mW_adr u') 0 5 rfl rfl rfl hl.1 (Nat.le_of_ble_eq_true rfl) ⟨by omega, by omega⟩ dM_follow_70 rfl (fun u5 H locs hu5 hP hD hS => ?_)
                    have ad2 := add_of hu5 (show n < N by omega) (show 0 < N by omega) hN.2.2.1 ad.2.1 (ru_0 (by omega)).2
                    refine lv_iinc (k := 0) (lv' := [(3, .int (nI (n + 1))), (0, .ref (a 0)), (1, .int (nI d)), (2, .int (nI d2))]) hx hb dM_follow_73 hl rfl (nI_1 _) (by decide) rfl (fun ls hl => ?_)
                    refine lv_goto hx hb dM_follow_76 (tgt := 53) (by decide) ?_
                    exact ih53 (n + 1) u5 ls H locs (me_trans g0 (me_trans ad.1 ad2.1)) ad2.2.1 (fun x hx => by
                        by_cases c : x = n
                        · subst c
                          exact ⟨ad2.1.2.2.1 _ _ _ ad.2.2.2.1, ad2.2.2.2.1⟩
                        · exact ⟨ad2.1.2.2.1 _ _ _ (ad.1.2.2.1 _ _ _ (g3 x (by omega)).1), ad2.1.2.2.1 _ _ _ (ad.1.2.2.1 _ _ _ (g3 x (by omega)).2)⟩) (by omega) hP hD hS (by omega) (lv_sub hl [0, 1, 2, 3] rfl)
              exact lp3 _ 0 (m_zer u) ls _ _ (me_refl _) ok_zer (fun x z => absurd z (Nat.not_lt_zero x)) (by omega) hP hD hS (Nat.lt_succ_self _) (lv_sub hl [0, 1, 2, 3] rfl)
            · refine lv_aload_n hx hb dM_follow_38 rfl (lv_at hl 1 rfl) ?_
              refine gf_M_49 (v := .ref (a 12)) hx hb hA hown hK hP 0 rfl rfl dM_follow_39 ?_
              refine lv_iload_n hx hb dM_follow_42 rfl (lv_at hl 0 rfl) ?_
              refine lv_lconst (v := 0) hx hb dM_follow_43 (by decide +kernel) ?_
              refine tq_last hx hb hK hP hD hS 12 1 rfl rfl (by omega) (by omega) dM_follow_44 (fun H locs hP hD hS => ?_)
              have hP : va_P D vwA (mX a kI kL kZ u (bw 3 bF) (bw 3 bF) (vp_updL (bw_z 3 (u.1 2) n) n 0)) H := hP
              have hD : va_D (mA a) (mX a kI kL kZ u (bw 3 bF) (bw 3 bF) (vp_updL (bw_z 3 (u.1 2) n) n 0)) := hD
              rw [bw_zs 3 (u.1 2) n] at hP hD
              refine lv_iinc (k := 0) (lv' := [(3, .int (nI (n + 1))), (0, .ref (a 0)), (1, .int (nI d)), (2, .int (nI d2))]) hx hb dM_follow_45 hl rfl (nI_1 _) (by decide) rfl (fun ls hl => ?_)
              refine lv_goto hx hb dM_follow_48 (tgt := 31) (by decide) ?_
              exact ih31 (n + 1) ls H locs (by omega) hP hD hS (by omega) (lv_sub hl [0, 1, 2, 3] rfl)
        exact lp2 _ 0 ls _ _ (by omega) hP hD hS (Nat.lt_succ_self _) (lv_sub hl [0, 1, 2, 3] rfl)
      · refine lv_aload_n hx hb dM_follow_9 rfl (lv_at hl 1 rfl) ?_
        refine gf_M_42 (v := .ref (a 10)) hx hb hA hown hK hP 0 rfl rfl dM_follow_10 ?_
        refine lv_iload_n hx hb dM_follow_13 rfl (lv_at hl 0 rfl) ?_
        refine lv_lconst (v := 0) hx hb dM_follow_14 (by decide +kernel) ?_
        refine tq_last hx hb hK hP hD hS 10 1 rfl rfl (by omega) (by omega) dM_follow_15 (fun H locs hP hD hS => ?_)
        have hP : va_P D vwA (mX a kI kL kZ u (vp_updL (bw_z 3 (u.1 0) n) n 0) (bw_z 3 (u.1 1) n) (bw 3 (u.1 2))) H := hP
        have hD : va_D (mA a) (mX a kI kL kZ u (vp_updL (bw_z 3 (u.1 0) n) n 0) (bw_z 3 (u.1 1) n) (bw 3 (u.1 2))) := hD
        refine lv_aload_n hx hb dM_follow_16 rfl (lv_at hl 1 rfl) ?_
        refine gf_M_46 (v := .ref (a 11)) hx hb hA hown hK hP 0 rfl rfl dM_follow_17 ?_
        refine lv_iload_n hx hb dM_follow_20 rfl (lv_at hl 0 rfl) ?_
        refine lv_lconst (v := 0) hx hb dM_follow_21 (by decide +kernel) ?_
        refine tq_last hx hb hK hP hD hS 11 1 rfl rfl (by omega) (by omega) dM_follow_22 (fun H locs hP hD hS => ?_)
        have hP : va_P D vwA (mX a kI kL kZ u (vp_updL (bw_z 3 (u.1 0) n) n 0) (vp_updL (bw_z 3 (u.1 1) n) n 0) (bw 3 (u.1 2))) H := hP
        have hD : va_D (mA a) (mX a kI kL kZ u (vp_updL (bw_z 3 (u.1 0) n) n 0) (vp_updL (bw_z 3 (u.1 1) n) n 0) (bw 3 (u.1 2))) := hD
        rw [bw_zs 3 (u.1 0) n, bw_zs 3 (u.1 1) n] at hP hD
        refine lv_iinc (k := 0) (lv' := [(3, .int (nI (n + 1))), (0, .ref (a 0)), (1, .int (nI d)), (2, .int (nI d2))]) hx hb dM_follow_23 hl rfl (nI_1 _) (by decide) rfl (fun ls hl => ?_)
        refine lv_goto hx hb dM_follow_26 (tgt := 2) (by decide) ?_
        exact ih2 (n + 1) ls H locs (by omega) hP hD hS (by omega) (lv_sub hl [0, 1, 2, 3] rfl)
  exact lp _ 0 ls _ _ (by omega) hP hD hS (Nat.lt_succ_self _) (lv_sub hl [0, 1, 2, 3] rfl)
set_option maxHeartbeats 4000000 in
set_option maxRecDepth 100000 in
/-- m_close -/
theorem m_close (l : Launch) (D : va_G) (a : Nat → Nat) (kI kL kZ : ClassId) (u : sU) (N : Nat) (kd fa fb : Nat → Nat) (T : Nat) (so xa xb xc : Nat → Nat) (hta : m_tab u N kd fa fb T so xa xb xc) (F : Nat → Prop) (hF : m_frc u T F) (hrg : m_rng u) (hm3 : u.2.2 3 ≤ 1) (hm4 : u.2.2 4 ≤ 1) (hcl : u.2.2 3 = 1 → m_use u T F ∧ m_ok u N kd fa fb so xa xb xc F ∧ m_clo u N kd fa fb so xa xb xc F) : Met l yM_close (wM_close :: wA) ({ frames := 4, cells := 0, slots := 0, locals := 97 }) (va_Pc [.ref (a 0)] (tq_wB D vwA (mW a kI kL kZ u) (sT kI kL kZ))) (va_Qv (fun (u' : sU) => (∀ i, ¬ i = 8 → u'.2.1 i = u.2.1 i) ∧ (∀ j, ¬ j = 3 → ¬ j = 4 → u'.2.2 j = u.2.2 j) ∧ u'.2.2 3 = 1 ∧ u'.2.2 4 ≤ 1 ∧ m_use u' T F ∧ m_ok u' N kd fa fb so xa xb xc F ∧ m_clo u' N kd fa fb so xa xb xc F) (fun u' t => va_P D vwA (mW a kI kL kZ u') t.heap) (mA a)) 0 0 (mA a) := by
  refine Met.ofW (cc := bM_close) (maxL := 2) (ret := none) (by decide +kernel) rfl ?_
  intro p e s m args below meth c s₁ B1 hml hv
  obtain ⟨rfl, hP, hK, hD0⟩ := hv
  have hx := B1.exec
  have hb := B1.bytes
  have hr := B1.returns
  have hA : ∀ w ∈ wA, w.before ([.ref (a 0)] : List Value).toArray s = true := fun w h => atoms_spec (ws := wM_close :: wA) B1.pre w (List.mem_cons_of_mem _ h)
  have hown : s.vm.findClass RcM = some m.cls := findClass_of_methodNamed B1.named
  have hlocks := B1.notSynchronized
  have hS : va_S (mA a) s.heap s.heap [] := va_S.rf
  have hl := lv_entry ([.ref (a 0)]) (n := 2) (Nat.le_of_ble_eq_true rfl)
  rw [lg_entry_eq]
  generalize (lg_sl ([.ref (a 0)]) ++ List.replicate (2 - (lg_sl ([.ref (a 0)])).length) Slot.unset).toArray = ls at hl ⊢
  have hl : lv_has ls 2 [(0, .ref (a 0))] := hl
  refine tq_gen (fun R Q hRe hQe => ?_)
  have hRf : 4 ≤ R.frames := by rw [hRe]; exact Nat.le_of_ble_eq_true rfl
  have hRl : 97 ≤ R.locals := by rw [hRe]; exact Nat.le_of_ble_eq_true rfl
  have hRc : 0 ≤ R.cells := by rw [hRe]; exact Nat.le_of_ble_eq_true rfl
  have hRs : 0 ≤ R.slots := by rw [hRe]; exact Nat.le_of_ble_eq_true rfl
  have hD := mA_D hD0
  have hN := mt_N hta
  have hP : va_P D vwA (mW a kI kL kZ (u.1, va_up u.2.1 8 (u.2.1 8), u.2.2)) s.heap := by rw [up_self]; exact hP
  have hD : va_D (mA a) (mW a kI kL kZ (u.1, va_up u.2.1 8 (u.2.1 8), u.2.2)) := by rw [up_self]; exact hD
  refine lv_aload_n hx hb dM_close_0 rfl (lv_at hl 0 rfl) ?_
  refine gf_M_58 (v := .int (nI (u.2.2 3))) hx hb hA hown hK hP 0 rfl rfl dM_close_1 ?_
  refine tq_zeq hx hb dM_close_4 (tgt := 8) (by decide) (by omega) (fun h4 => ?_) (fun h4 => ?_)
  · refine lv_iconst (v := nI 1) hx hb dM_close_8 (by decide +kernel) ?_
    refine lv_istore_n (lv' := [(1, .int (nI 1)), (0, .ref (a 0))]) hx hb dM_close_9 rfl hl (by decide) rfl (fun ls hl => ?_)
    have lp : ∀ (fu : Nat) (n : Nat) (f : Nat → Int32) (ls : Array Slot) (H : Heap) (locs : List Loc), (∀ k, 1 ≤ k → k < n → f k = bI (dB (F k))) → 1 ≤ n → n ≤ T + 1 → va_P D vwA (mW a kI kL kZ (u.1, va_up u.2.1 8 f, u.2.2)) H → va_D (mA a) (mW a kI kL kZ (u.1, va_up u.2.1 8 f, u.2.2)) → va_S (mA a) s.heap H locs → T + 1 - n < fu → lv_has ls 2 [(1, .int (nI n)), (0, .ref (a 0))] → W p l e R s m ([.ref (a 0)] : List Value).toArray below meth c H locs 0 0 Q (F0 m 10 ls []) := by
      intro fu
      induction fu with
      | zero => intros; omega
      | succ fu ih10 =>
        intro n f  ls H locs g1 g2 g3 hP hD hS hfu hl
        refine lv_iload_n hx hb dM_close_10 rfl (lv_at hl 0 rfl) ?_
        refine lv_aload_n hx hb dM_close_11 rfl (lv_at hl 1 rfl) ?_
        refine gf_M_77 (v := .int (nI (u.2.2 2))) hx hb hA hown hK hP 0 rfl rfl dM_close_12 ?_
        refine tq_gt hx hb dM_close_15 (tgt := 36) (by decide) (by omega) (by omega) (fun h15 => ?_) (fun h15 => ?_)
        · have tv : m_tab (u.1, va_up u.2.1 8 f, u.2.2) N kd fa fb T so xa xb xc := hta
          have uv : m_use (u.1, va_up u.2.1 8 f, u.2.2) T F := ⟨hF.1, fun k z1 z2 => (show f k = bI (dB (F k)) from g1 k z1 (by omega))⟩
          refine lv_aload_n hx hb dM_close_36 rfl (lv_at hl 1 rfl) ?_
          refine lv_iconst (v := (-1)) hx hb dM_close_37 (by decide +kernel) ?_
          refine lv_iconst (v := nI 0) hx hb dM_close_38 (by decide +kernel) ?_
          refine ks_v (wf := mW a kI kL kZ) (u := (u.1, va_up u.2.1 8 f, u.2.2)) ⟨hx, hb, hml, hown, hA⟩ (m_follow0 l D a kI kL kZ (u.1, va_up u.2.1 8 f, u.2.2) N kd fa fb T so xa xb xc tv F uv hrg hm4) (kw_M_124 hA rfl rfl ⟨Nat.le_trans (Nat.le_of_ble_eq_true rfl) hRf, Nat.le_trans (Nat.le_of_ble_eq_true rfl) hRl⟩) hK hP hD hS (fun _ h => h) (fun u' => mW_adr u') 0 5 rfl rfl rfl hl.1 (Nat.le_of_ble_eq_true rfl) ⟨by omega, by omega⟩ dM_close_39 rfl (fun u1 H locs hu1 hP hD hS => ?_)
          refine lv_aload_n hx hb dM_close_42 rfl (lv_at hl 1 rfl) ?_
          refine lv_iconst (v := nI 1) hx hb dM_close_43 (by decide +kernel) ?_
          refine pf_M_58 (v := .int (nI 1)) hx hb hA hown hK hP hD hS 0 rfl rfl rfl (Nat.le_of_ble_eq_true rfl) dM_close_44 (fun H locs hP hD hS => ?_)
          have hP : va_P D vwA (mW a kI kL kZ (u1.1, u1.2.1, va_up u1.2.2 3 1)) H := hP
          have hD : va_D (mA a) (mW a kI kL kZ (u1.1, u1.2.1, va_up u1.2.2 3 1)) := hD
          subst hQe
          exact W.vret hx hb hr (fun t ht hW => ⟨⟨(u1.1, u1.2.1, va_up u1.2.2 3 1), rfl, ⟨fun i z => by
              rw [show ((u1.1, u1.2.1, va_up u1.2.2 3 1)).2.1 = u1.2.1 from rfl, hu1.1]
              exact va_up_ne _ _ z, fun j z1 z2 => (va_up_ne _ _ z1).trans (hu1.2.1 j z2), rfl, hu1.2.2.1, use_of (use_of uv hu1.1) rfl, hu1.2.2.2.1, hu1.2.2.2.2⟩, tq_hp ht hP⟩, hS.F ht⟩) hS.2.2 dM_close_47
        · refine lv_aload_n hx hb dM_close_18 rfl (lv_at hl 1 rfl) ?_
          refine gf_M_39 (v := .ref (a 9)) hx hb hA hown hK hP 0 rfl rfl dM_close_19 ?_
          refine lv_iload_n hx hb dM_close_22 rfl (lv_at hl 0 rfl) ?_
          refine lv_aload_n hx hb dM_close_23 rfl (lv_at hl 1 rfl) ?_
          refine gf_M_35 (v := .ref (a 8)) hx hb hA hown hK hP 0 rfl rfl dM_close_24 ?_
          refine lv_iload_n hx hb dM_close_27 rfl (lv_at hl 0 rfl) ?_
          refine tq_zald hx hb hK hP 8 2 rfl rfl (by omega) (by omega) dM_close_28 ?_
          refine tq_i (hF.2 n (by omega) (by omega)) ?_
          refine tq_zast hx hb hK hP hD hS 9 2 rfl rfl (by omega) (by omega) (by first | rfl | decide | exact tq_nzv _) dM_close_29 (fun H locs hP hD hS => ?_)
          have hP : va_P D vwA (mW a kI kL kZ (u.1, va_up u.2.1 8 (upd f n (bI (dB (F n)))), u.2.2)) H := hP
          have hD : va_D (mA a) (mW a kI kL kZ (u.1, va_up u.2.1 8 (upd f n (bI (dB (F n)))), u.2.2)) := hD
          refine lv_iinc (k := 0) (lv' := [(1, .int (nI (n + 1))), (0, .ref (a 0))]) hx hb dM_close_30 hl rfl (nI_1 _) (by decide) rfl (fun ls hl => ?_)
          refine lv_goto hx hb dM_close_33 (tgt := 10) (by decide) ?_
          exact ih10 (n + 1) _ ls H locs (fun k z1 z2 => by
              by_cases c : k = n
              · subst c
                simp [upd]
              · rw [show ∀ y, upd f n y k = f k from fun y => by simp [upd, c]]
                exact g1 k z1 (by omega)) (by omega) (by omega) hP hD hS (by omega) (lv_sub hl [0, 1] rfl)
    exact lp _ 1 (u.2.1 8) ls _ _ (fun k z1 z2 => by omega) (by omega) (by omega) hP hD hS (Nat.lt_succ_self _) (lv_sub hl [0, 1] rfl)
  · rw [up_self] at hP
    subst hQe
    exact W.vret hx hb hr (fun t ht hW => ⟨⟨u, rfl, by
        have h31 : u.2.2 3 = 1 := by omega
        exact ⟨fun _ _ => rfl, fun _ _ _ => rfl, h31, hm4, hcl h31⟩, tq_hp ht hP⟩, hS.F ht⟩) hS.2.2 dM_close_7
