/-! The contract of Closure.catchUp. Written by wip/whole/gen/genclos7.py. -/
set_option maxHeartbeats 4000000 in
set_option maxRecDepth 100000 in
/-- Closure.catchUp -/
theorem c_catchUp (l : Launch) (D : va_G) (a : Nat → Nat) (kI kL kZ : ClassId) (u : sU) (N : Nat) (kd fa fb : Nat → Nat) (T : Nat) (so xa xb xc : Nat → Nat) (hc : s_cinv u N kd fa fb T so xa xb xc) : Met l yC_catchUp (wC_catchUp :: wA) ({ frames := 4, cells := 0, slots := 0, locals := 100 }) (va_Pc [.ref (a 3)] (tq_wB D vwA (sW a kI kL kZ u) (sT kI kL kZ))) (va_Qv (fun (u' : sU) => s_caught u u' N kd fa fb T so xa xb xc ∧ (u.2.2 6 = 0 → ∀ y b, u.1 0 y b = true → u'.1 0 y b = true)) (fun u' t => va_P D vwA (sW a kI kL kZ u') t.heap) (sA a)) 0 0 (sA a) := by
  refine Met.ofW (cc := bC_catchUp) (maxL := 2) (ret := none) (by decide +kernel) rfl ?_
  intro p e s m args below meth c s₁ B1 hml hv
  obtain ⟨rfl, hP, hK, hD0⟩ := hv
  have hx := B1.exec
  have hb := B1.bytes
  have hr := B1.returns
  have hA : ∀ w ∈ wA, w.before ([.ref (a 3)] : List Value).toArray s = true := fun w h => atoms_spec (ws := wC_catchUp :: wA) B1.pre w (List.mem_cons_of_mem _ h)
  have hown : s.vm.findClass RcC = some m.cls := findClass_of_methodNamed B1.named
  have hlocks := B1.notSynchronized
  have hS : va_S (sA a) s.heap s.heap [] := va_S.rf
  have hl := lv_entry ([.ref (a 3)]) (n := 2) (Nat.le_of_ble_eq_true rfl)
  rw [lg_entry_eq]
  generalize (lg_sl ([.ref (a 3)]) ++ List.replicate (2 - (lg_sl ([.ref (a 3)])).length) Slot.unset).toArray = ls at hl ⊢
  have hl : lv_has ls 2 [(0, .ref (a 3))] := hl
  refine tq_gen (fun R Q hRe hQe => ?_)
  have hRf : 4 ≤ R.frames := by rw [hRe]; exact Nat.le_of_ble_eq_true rfl
  have hRl : 100 ≤ R.locals := by rw [hRe]; exact Nat.le_of_ble_eq_true rfl
  have hRc : 0 ≤ R.cells := by rw [hRe]; exact Nat.le_of_ble_eq_true rfl
  have hRs : 0 ≤ R.slots := by rw [hRe]; exact Nat.le_of_ble_eq_true rfl
  have hD := sA_D hD0
  have htm := hc.1.1
  have htr := hc.1.2.1
  have hN := tm_N htm
  have hT : u.2.2 2 = T := hc.2.2.1.1
  have hTl := hc.2.2.1.2.1
  have h6 := hc.2.2.2.2.2.1
  refine lv_aload_n hx hb dC_catchUp_0 rfl (lv_at hl 0 rfl) ?_
  refine gf_C_53 (v := .int (nI (u.2.2 6))) hx hb hA hown hK hP 3 rfl rfl dC_catchUp_1 ?_
  refine tq_zeq hx hb dC_catchUp_4 (tgt := 11) (by decide) (by omega) (fun h4 => ?_) (fun h4 => ?_)
  · obtain ⟨U, hst⟩ := catch_0 hc h4
    have hT2 : u.2.2 2 = T := hT
    refine lv_aload_n hx hb dC_catchUp_11 rfl (lv_at hl 0 rfl) ?_
    refine gf_C_46 (v := .int (nI (u.2.2 4))) hx hb hA hown hK hP 3 rfl rfl dC_catchUp_12 ?_
    refine lv_istore_n (lv' := [(1, .int (nI (u.2.2 4))), (0, .ref (a 3))]) hx hb dC_catchUp_15 rfl hl (by decide) rfl (fun ls hl => ?_)
    have lp : ∀ (fu : Nat) (n : Nat) (v : sU) (ls : Array Slot) (H : Heap) (locs : List Loc), s_mid v N kd fa fb n → s_adm v n → s_told v so xa xb xc U → v.2 = u.2 → n ≤ N → (∀ y b, u.1 0 y b = true → v.1 0 y b = true) → va_P D vwA (sW a kI kL kZ v) H → va_D (sA a) (sW a kI kL kZ v) → va_S (sA a) s.heap H locs → N - n < fu → lv_has ls 2 [(1, .int (nI n)), (0, .ref (a 3))] → W p l e R s m ([.ref (a 3)] : List Value).toArray below meth c H locs 0 0 Q (F0 m 16 ls []) := by
      intro fu
      induction fu with
      | zero => intros; omega
      | succ fu ih16 =>
        intro n v ls H locs g1 g2 g3 g4 g5 g6 hP hD hS hfu hl
        refine lv_iload_n hx hb dC_catchUp_16 rfl (lv_at hl 0 rfl) ?_
        refine lv_aload_n hx hb dC_catchUp_17 rfl (lv_at hl 1 rfl) ?_
        refine gf_C_11 (v := .ref (a 1)) hx hb hA hown hK hP 3 rfl rfl dC_catchUp_18 ?_
        refine ks_rv ⟨hx, hb, hml, hown, hA⟩ (c_size l D a kI kL kZ v  ) (kw_C_82 hA rfl rfl ⟨Nat.le_trans (Nat.le_of_ble_eq_true rfl) hRf, Nat.le_trans (Nat.le_of_ble_eq_true rfl) hRl⟩) hK hP hS 1 1 rfl rfl rfl hl.1 (Nat.le_of_ble_eq_true rfl) ⟨by omega, by omega⟩ dC_catchUp_21 rfl (fun H locs hP hS => ?_)
        refine tq_i (congrArg nI (tm_N g1.1.1).1) ?_
        refine tq_ge hx hb dC_catchUp_24 (tgt := 70) (by decide) (by omega) (by omega) (fun h24 => ?_) (fun h24 => ?_)
        · refine lv_aload_n hx hb dC_catchUp_70 rfl (lv_at hl 1 rfl) ?_
          refine lv_aload_n hx hb dC_catchUp_71 rfl (lv_at hl 1 rfl) ?_
          refine gf_C_11 (v := .ref (a 1)) hx hb hA hown hK hP 3 rfl rfl dC_catchUp_72 ?_
          refine ks_rv ⟨hx, hb, hml, hown, hA⟩ (c_size l D a kI kL kZ v  ) (kw_C_82 hA rfl rfl ⟨Nat.le_trans (Nat.le_of_ble_eq_true rfl) hRf, Nat.le_trans (Nat.le_of_ble_eq_true rfl) hRl⟩) hK hP hS 1 1 rfl rfl rfl hl.1 (Nat.le_of_ble_eq_true rfl) ⟨by omega, by omega⟩ dC_catchUp_75 rfl (fun H locs hP hS => ?_)
          refine tq_i (congrArg nI (tm_N g1.1.1).1) ?_
          refine pf_C_46 (v := .int (nI N)) hx hb hA hown hK hP hD hS 3 rfl rfl rfl (Nat.le_of_ble_eq_true rfl) dC_catchUp_78 (fun H locs hP hD hS => ?_)
          have hP : va_P D vwA (sW a kI kL kZ (v.1, v.2.1, va_up v.2.2 4 N)) H := hP
          have hD : va_D (sA a) (sW a kI kL kZ (v.1, v.2.1, va_up v.2.2 4 N)) := hD
          refine lv_aload_n hx hb dC_catchUp_81 rfl (lv_at hl 1 rfl) ?_
          refine gf_C_50 (v := .int (nI (v.2.2 5))) hx hb hA hown hK hP 3 rfl rfl dC_catchUp_82 ?_
          refine lv_iconst (v := nI 1) hx hb dC_catchUp_85 (by decide +kernel) ?_
          refine tq_iadd hx hb dC_catchUp_86 ?_
          refine lv_istore_n (lv' := [(1, .int (nI ((v.2.2 5) + 1))), (0, .ref (a 3))]) hx hb dC_catchUp_87 rfl hl (by decide) rfl (fun ls hl => ?_)
          have lp : ∀ (fu : Nat) (q : Nat) (v2 : sU) (ls : Array Slot) (H : Heap) (locs : List Loc), s_mid v2 N kd fa fb N → s_told v2 so xa xb xc (x_upto u U (u.2.2 5) q) → v2.2 = (u.2.1, va_up u.2.2 4 N) → q ≤ T + 1 → u.2.2 5 < q → (∀ y b, u.1 0 y b = true → v2.1 0 y b = true) → va_P D vwA (sW a kI kL kZ v2) H → va_D (sA a) (sW a kI kL kZ v2) → va_S (sA a) s.heap H locs → T + 1 - q < fu → lv_has ls 2 [(1, .int (nI q)), (0, .ref (a 3))] → W p l e R s m ([.ref (a 3)] : List Value).toArray below meth c H locs 0 0 Q (F0 m 88 ls []) := by
            intro fu
            induction fu with
            | zero => intros; omega
            | succ fu ih88 =>
              intro q v2 ls H locs k1 k2 k3 k4 k5 k6 hP hD hS hfu hl
              have hE1 : v2.2.1 = u.2.1 := (congrArg Prod.fst k3).trans hst.2.2.2.2.2.1
              have hE2 : v2.2.2 2 = T := (congrFun (congrArg Prod.snd k3) 2).trans hT2
              refine lv_iload_n hx hb dC_catchUp_88 rfl (lv_at hl 0 rfl) ?_
              refine lv_aload_n hx hb dC_catchUp_89 rfl (lv_at hl 1 rfl) ?_
              refine gf_C_15 (v := .ref (a 2)) hx hb hA hown hK hP 3 rfl rfl dC_catchUp_90 ?_
              refine ks_rv ⟨hx, hb, hml, hown, hA⟩ (c_told l D a kI kL kZ v2  ) (kw_C_155 hA rfl rfl ⟨Nat.le_trans (Nat.le_of_ble_eq_true rfl) hRf, Nat.le_trans (Nat.le_of_ble_eq_true rfl) hRl⟩) hK hP hS 2 2 rfl rfl rfl hl.1 (Nat.le_of_ble_eq_true rfl) ⟨by omega, by omega⟩ dC_catchUp_93 rfl (fun H locs hP hS => ?_)
              refine tq_i (congrArg nI (show v2.2.2 2 = T from hE2)) ?_
              refine tq_gt hx hb dC_catchUp_96 (tgt := 121) (by decide) (by omega) (by omega) (fun h96 => ?_) (fun h96 => ?_)
              · refine lv_aload_n hx hb dC_catchUp_121 rfl (lv_at hl 1 rfl) ?_
                refine lv_aload_n hx hb dC_catchUp_122 rfl (lv_at hl 1 rfl) ?_
                refine gf_C_15 (v := .ref (a 2)) hx hb hA hown hK hP 3 rfl rfl dC_catchUp_123 ?_
                refine ks_rv ⟨hx, hb, hml, hown, hA⟩ (c_told l D a kI kL kZ v2  ) (kw_C_155 hA rfl rfl ⟨Nat.le_trans (Nat.le_of_ble_eq_true rfl) hRf, Nat.le_trans (Nat.le_of_ble_eq_true rfl) hRl⟩) hK hP hS 2 2 rfl rfl rfl hl.1 (Nat.le_of_ble_eq_true rfl) ⟨by omega, by omega⟩ dC_catchUp_126 rfl (fun H locs hP hS => ?_)
                refine tq_i (congrArg nI (show v2.2.2 2 = T from hE2)) ?_
                refine pf_C_50 (v := .int (nI T)) hx hb hA hown hK hP hD hS 3 rfl rfl rfl (Nat.le_of_ble_eq_true rfl) dC_catchUp_129 (fun H locs hP hD hS => ?_)
                have hP : va_P D vwA (sW a kI kL kZ (v2.1, v2.2.1, va_up v2.2.2 5 T)) H := hP
                have hD : va_D (sA a) (sW a kI kL kZ (v2.1, v2.2.1, va_up v2.2.2 5 T)) := hD
                subst hQe
                exact W.vret hx hb hr (fun t ht hW => ⟨⟨(v2.1, v2.2.1, va_up v2.2.2 5 T), rfl, ⟨catch_end hst hT k1 k2 k3 (by omega), fun z => k6⟩, tq_hp ht hP⟩, hS.F ht⟩) hS.2.2 dC_catchUp_132
              · refine lv_aload_n hx hb dC_catchUp_99 rfl (lv_at hl 1 rfl) ?_
                refine gf_C_15 (v := .ref (a 2)) hx hb hA hown hK hP 3 rfl rfl dC_catchUp_100 ?_
                refine lv_iload_n hx hb dC_catchUp_103 rfl (lv_at hl 0 rfl) ?_
                refine ks_rv ⟨hx, hb, hml, hown, hA⟩ (c_isInForce l D a kI kL kZ v2 (nI q) (by omega)) (kw_C_158 hA rfl rfl ⟨Nat.le_trans (Nat.le_of_ble_eq_true rfl) hRf, Nat.le_trans (Nat.le_of_ble_eq_true rfl) hRl⟩) hK hP hS 2 2 rfl rfl rfl hl.1 (Nat.le_of_ble_eq_true rfl) ⟨by omega, by omega⟩ dC_catchUp_104 rfl (fun H locs hP hS => ?_)
                refine tq_bf hx hb dC_catchUp_107 (tgt := 115) (by decide) (fun h107 => ?_) (fun h107 => ?_)
                · refine lv_iinc (k := 0) (lv' := [(1, .int (nI (q + 1))), (0, .ref (a 3))]) hx hb dC_catchUp_115 hl rfl (nI_1 _) (by decide) rfl (fun ls hl => ?_)
                  refine lv_goto hx hb dC_catchUp_118 (tgt := 88) (by decide) ?_
                  exact ih88 (q + 1) v2 ls H locs k1 (upto_no k2 (fun z => by rw [(inf_iff hE1 hE2 hT hTl (by omega) (by omega)).mpr z] at h107; cases h107)) k3 (by omega) (by omega) k6 hP hD hS (by omega) (lv_sub hl [0, 1] rfl)
                · refine lv_aload_n hx hb dC_catchUp_110 rfl (lv_at hl 1 rfl) ?_
                  refine lv_iload_n hx hb dC_catchUp_111 rfl (lv_at hl 0 rfl) ?_
                  refine ks_v (wf := sW a kI kL kZ) (u := v2) ⟨hx, hb, hml, hown, hA⟩ (c_hearK l D a kI kL kZ v2 N kd fa fb N T so xa xb xc (x_upto u U (u.2.2 5) q) k1 k2 (ax_of hc.2.2.1 hE1 (hE2.trans hT.symm)) q (by omega) (by omega)) (kw_C_161 hA rfl rfl ⟨Nat.le_trans (Nat.le_of_ble_eq_true rfl) hRf, Nat.le_trans (Nat.le_of_ble_eq_true rfl) hRl⟩) hK hP hD hS (fun _ h => h) (fun u' => sW_adr u') 3 3 rfl rfl rfl hl.1 (Nat.le_of_ble_eq_true rfl) ⟨by omega, by omega⟩ dC_catchUp_112 rfl (fun u1 H locs hu1 hP hD hS => ?_)
                  refine lv_iinc (k := 0) (lv' := [(1, .int (nI (q + 1))), (0, .ref (a 3))]) hx hb dC_catchUp_115 hl rfl (nI_1 _) (by decide) rfl (fun ls hl => ?_)
                  refine lv_goto hx hb dC_catchUp_118 (tgt := 88) (by decide) ?_
                  exact ih88 (q + 1) u1 ls H locs hu1.1 (upto_yes hu1.2.1 ((inf_iff hE1 hE2 hT hTl (by omega) (by omega)).mp h107) (by omega)) (hu1.2.2.1.trans k3) (by omega) (by omega) (fun y b z => hu1.2.2.2 _ _ (k6 y b z)) hP hD hS (by omega) (lv_sub hl [0, 1] rfl)
          have hnN : n = N := by omega
          subst hnN
          exact lp _ (v.2.2 5 + 1) (v.1, v.2.1, va_up v.2.2 4 n) ls _ _ g1 (by rw [g4]; exact upto_0 g3) (by rw [g4]) (by rw [g4]; have := hst.2.2.2.2.2.2.2.2.2; omega) (by rw [g4]; omega) g6 hP hD hS (Nat.lt_succ_self _) (lv_sub hl [0, 1] rfl)
        · refine lv_aload_n hx hb dC_catchUp_27 rfl (lv_at hl 1 rfl) ?_
          refine gf_C_11 (v := .ref (a 1)) hx hb hA hown hK hP 3 rfl rfl dC_catchUp_28 ?_
          refine lv_iload_n hx hb dC_catchUp_31 rfl (lv_at hl 0 rfl) ?_
          refine ks_rv ⟨hx, hb, hml, hown, hA⟩ (c_kind l D a kI kL kZ v n (by omega)) (kw_C_148 hA rfl rfl ⟨Nat.le_trans (Nat.le_of_ble_eq_true rfl) hRf, Nat.le_trans (Nat.le_of_ble_eq_true rfl) hRl⟩) hK hP hS 1 1 rfl rfl rfl hl.1 (Nat.le_of_ble_eq_true rfl) ⟨by omega, by omega⟩ dC_catchUp_32 rfl (fun H locs hP hS => ?_)
          refine lv_iconst (v := nI 2) hx hb dC_catchUp_35 (by decide +kernel) ?_
          refine lv_icmp_ne hx hb dC_catchUp_36 (tgt := 47) (by decide) (fun h36 => ?_) (fun h36 => ?_)
          · have hk2 : ¬ kd n = 2 := fun z => h36 ((tm_k g1.1.1 h24 (by decide)).mpr z)
            refine lv_aload_n hx hb dC_catchUp_47 rfl (lv_at hl 1 rfl) ?_
            refine gf_C_11 (v := .ref (a 1)) hx hb hA hown hK hP 3 rfl rfl dC_catchUp_48 ?_
            refine lv_iload_n hx hb dC_catchUp_51 rfl (lv_at hl 0 rfl) ?_
            refine ks_rv ⟨hx, hb, hml, hown, hA⟩ (c_kind l D a kI kL kZ v n (by omega)) (kw_C_148 hA rfl rfl ⟨Nat.le_trans (Nat.le_of_ble_eq_true rfl) hRf, Nat.le_trans (Nat.le_of_ble_eq_true rfl) hRl⟩) hK hP hS 1 1 rfl rfl rfl hl.1 (Nat.le_of_ble_eq_true rfl) ⟨by omega, by omega⟩ dC_catchUp_52 rfl (fun H locs hP hS => ?_)
            refine lv_iconst (v := nI 3) hx hb dC_catchUp_55 (by decide +kernel) ?_
            refine lv_icmp_ne hx hb dC_catchUp_56 (tgt := 64) (by decide) (fun h56 => ?_) (fun h56 => ?_)
            · have hk3 : ¬ kd n = 3 := fun z => h56 ((tm_k g1.1.1 h24 (by decide)).mpr z)
              refine lv_iinc (k := 0) (lv' := [(1, .int (nI (n + 1))), (0, .ref (a 3))]) hx hb dC_catchUp_64 hl rfl (nI_1 _) (by decide) rfl (fun ls hl => ?_)
              refine lv_goto hx hb dC_catchUp_67 (tgt := 16) (by decide) ?_
              exact ih16 (n + 1) v ls H locs (mid_skip g1 hk2 hk3) (fun y b z1 z2 => Nat.lt_succ_of_lt (g2 y b z1 z2)) g3 g4 (by omega) g6 hP hD hS (by omega) (lv_sub hl [0, 1] rfl)
            · have hk := (tm_k g1.1.1 h24 (by decide)).mp h56
              refine lv_aload_n hx hb dC_catchUp_59 rfl (lv_at hl 1 rfl) ?_
              refine lv_iload_n hx hb dC_catchUp_60 rfl (lv_at hl 0 rfl) ?_
              refine ks_v (wf := sW a kI kL kZ) (u := v) ⟨hx, hb, hml, hown, hA⟩ (c_admitSome l D a kI kL kZ v N kd fa fb g1.1.1 g1.1.2.1 n (by omega) hk) (kw_C_152 hA rfl rfl ⟨Nat.le_trans (Nat.le_of_ble_eq_true rfl) hRf, Nat.le_trans (Nat.le_of_ble_eq_true rfl) hRl⟩) hK hP hD hS (fun _ h => h) (fun u' => sW_adr u') 3 3 rfl rfl rfl hl.1 (Nat.le_of_ble_eq_true rfl) ⟨by omega, by omega⟩ dC_catchUp_61 rfl (fun u2 H locs hu2 hP hD hS => ?_)
              refine lv_iinc (k := 0) (lv' := [(1, .int (nI (n + 1))), (0, .ref (a 3))]) hx hb dC_catchUp_64 hl rfl (nI_1 _) (by decide) rfl (fun ls hl => ?_)
              refine lv_goto hx hb dC_catchUp_67 (tgt := 16) (by decide) ?_
              exact ih16 (n + 1) u2 ls H locs (mid_some g1 g2 h24 hk hu2.1 hu2.2.1 hu2.2.2) (adm_ext g2 hu2.1) (told_ext g3 hu2.1) (hu2.1.2.2.2.2.2.2.trans g4) (by omega) (fun y b z => hu2.1.1 _ _ (g6 y b z)) hP hD hS (by omega) (lv_sub hl [0, 1] rfl)
          · have hk := (tm_k g1.1.1 h24 (by decide)).mp h36
            refine lv_aload_n hx hb dC_catchUp_39 rfl (lv_at hl 1 rfl) ?_
            refine lv_iload_n hx hb dC_catchUp_40 rfl (lv_at hl 0 rfl) ?_
            refine ks_v (wf := sW a kI kL kZ) (u := v) ⟨hx, hb, hml, hown, hA⟩ (c_admitBoth l D a kI kL kZ v N kd fa fb g1.1.1 g1.1.2.1 n (by omega) hk) (kw_C_149 hA rfl rfl ⟨Nat.le_trans (Nat.le_of_ble_eq_true rfl) hRf, Nat.le_trans (Nat.le_of_ble_eq_true rfl) hRl⟩) hK hP hD hS (fun _ h => h) (fun u' => sW_adr u') 3 3 rfl rfl rfl hl.1 (Nat.le_of_ble_eq_true rfl) ⟨by omega, by omega⟩ dC_catchUp_41 rfl (fun u3 H locs hu3 hP hD hS => ?_)
            refine lv_goto hx hb dC_catchUp_44 (tgt := 64) (by decide) ?_
            refine lv_iinc (k := 0) (lv' := [(1, .int (nI (n + 1))), (0, .ref (a 3))]) hx hb dC_catchUp_64 hl rfl (nI_1 _) (by decide) rfl (fun ls hl => ?_)
            refine lv_goto hx hb dC_catchUp_67 (tgt := 16) (by decide) ?_
            exact ih16 (n + 1) u3 ls H locs (mid_both g1 g2 h24 hk hu3.1 hu3.2.1 hu3.2.2) (adm_ext g2 hu3.1) (told_ext g3 hu3.1) (hu3.1.2.2.2.2.2.2.trans g4) (by omega) (fun y b z => hu3.1.1 _ _ (g6 y b z)) hP hD hS (by omega) (lv_sub hl [0, 1] rfl)
    exact lp _ (u.2.2 4) u ls _ _ hst.1 hst.2.1 hst.2.2.1 rfl hst.2.2.2.2.2.2.2.2.1 (fun _ _ z => z) hP hD hS (Nat.lt_succ_self _) (lv_sub hl [0, 1] rfl)
  · refine lv_aload_n hx hb dC_catchUp_7 rfl (lv_at hl 0 rfl) ?_
    refine ks_v (wf := sW a kI kL kZ) (u := u) ⟨hx, hb, hml, hown, hA⟩ (c_forget l D a kI kL kZ u  (by omega)) (kw_C_145 hA rfl rfl ⟨Nat.le_trans (Nat.le_of_ble_eq_true rfl) hRf, Nat.le_trans (Nat.le_of_ble_eq_true rfl) hRl⟩) hK hP hD hS (fun _ h => h) (fun u' => sW_adr u') 3 3 rfl rfl rfl hl.1 (Nat.le_of_ble_eq_true rfl) ⟨by omega, by omega⟩ dC_catchUp_8 rfl (fun u4 H locs hu4 hP hD hS => ?_)
    obtain ⟨U, hst⟩ := catch_1 hc
    rw [← hu4] at hst
    have hT2 : u4.2.2 2 = T := (hst.2.2.2.2.2.2.1 2 (by decide) (by decide) (by decide)).trans hT
    refine lv_aload_n hx hb dC_catchUp_11 rfl (lv_at hl 0 rfl) ?_
    refine gf_C_46 (v := .int (nI (u4.2.2 4))) hx hb hA hown hK hP 3 rfl rfl dC_catchUp_12 ?_
    refine lv_istore_n (lv' := [(1, .int (nI (u4.2.2 4))), (0, .ref (a 3))]) hx hb dC_catchUp_15 rfl hl (by decide) rfl (fun ls hl => ?_)
    have lp : ∀ (fu : Nat) (n : Nat) (v : sU) (ls : Array Slot) (H : Heap) (locs : List Loc), s_mid v N kd fa fb n → s_adm v n → s_told v so xa xb xc U → v.2 = u4.2 → n ≤ N → (∀ y b, u4.1 0 y b = true → v.1 0 y b = true) → va_P D vwA (sW a kI kL kZ v) H → va_D (sA a) (sW a kI kL kZ v) → va_S (sA a) s.heap H locs → N - n < fu → lv_has ls 2 [(1, .int (nI n)), (0, .ref (a 3))] → W p l e R s m ([.ref (a 3)] : List Value).toArray below meth c H locs 0 0 Q (F0 m 16 ls []) := by
      intro fu
      induction fu with
      | zero => intros; omega
      | succ fu ih16 =>
        intro n v ls H locs g1 g2 g3 g4 g5 g6 hP hD hS hfu hl
        refine lv_iload_n hx hb dC_catchUp_16 rfl (lv_at hl 0 rfl) ?_
        refine lv_aload_n hx hb dC_catchUp_17 rfl (lv_at hl 1 rfl) ?_
        refine gf_C_11 (v := .ref (a 1)) hx hb hA hown hK hP 3 rfl rfl dC_catchUp_18 ?_
        refine ks_rv ⟨hx, hb, hml, hown, hA⟩ (c_size l D a kI kL kZ v  ) (kw_C_82 hA rfl rfl ⟨Nat.le_trans (Nat.le_of_ble_eq_true rfl) hRf, Nat.le_trans (Nat.le_of_ble_eq_true rfl) hRl⟩) hK hP hS 1 1 rfl rfl rfl hl.1 (Nat.le_of_ble_eq_true rfl) ⟨by omega, by omega⟩ dC_catchUp_21 rfl (fun H locs hP hS => ?_)
        refine tq_i (congrArg nI (tm_N g1.1.1).1) ?_
        refine tq_ge hx hb dC_catchUp_24 (tgt := 70) (by decide) (by omega) (by omega) (fun h24 => ?_) (fun h24 => ?_)
        · refine lv_aload_n hx hb dC_catchUp_70 rfl (lv_at hl 1 rfl) ?_
          refine lv_aload_n hx hb dC_catchUp_71 rfl (lv_at hl 1 rfl) ?_
          refine gf_C_11 (v := .ref (a 1)) hx hb hA hown hK hP 3 rfl rfl dC_catchUp_72 ?_
          refine ks_rv ⟨hx, hb, hml, hown, hA⟩ (c_size l D a kI kL kZ v  ) (kw_C_82 hA rfl rfl ⟨Nat.le_trans (Nat.le_of_ble_eq_true rfl) hRf, Nat.le_trans (Nat.le_of_ble_eq_true rfl) hRl⟩) hK hP hS 1 1 rfl rfl rfl hl.1 (Nat.le_of_ble_eq_true rfl) ⟨by omega, by omega⟩ dC_catchUp_75 rfl (fun H locs hP hS => ?_)
          refine tq_i (congrArg nI (tm_N g1.1.1).1) ?_
          refine pf_C_46 (v := .int (nI N)) hx hb hA hown hK hP hD hS 3 rfl rfl rfl (Nat.le_of_ble_eq_true rfl) dC_catchUp_78 (fun H locs hP hD hS => ?_)
          have hP : va_P D vwA (sW a kI kL kZ (v.1, v.2.1, va_up v.2.2 4 N)) H := hP
          have hD : va_D (sA a) (sW a kI kL kZ (v.1, v.2.1, va_up v.2.2 4 N)) := hD
          refine lv_aload_n hx hb dC_catchUp_81 rfl (lv_at hl 1 rfl) ?_
          refine gf_C_50 (v := .int (nI (v.2.2 5))) hx hb hA hown hK hP 3 rfl rfl dC_catchUp_82 ?_
          refine lv_iconst (v := nI 1) hx hb dC_catchUp_85 (by decide +kernel) ?_
          refine tq_iadd hx hb dC_catchUp_86 ?_
          refine lv_istore_n (lv' := [(1, .int (nI ((v.2.2 5) + 1))), (0, .ref (a 3))]) hx hb dC_catchUp_87 rfl hl (by decide) rfl (fun ls hl => ?_)
          have lp : ∀ (fu : Nat) (q : Nat) (v2 : sU) (ls : Array Slot) (H : Heap) (locs : List Loc), s_mid v2 N kd fa fb N → s_told v2 so xa xb xc (x_upto u U (u4.2.2 5) q) → v2.2 = (u4.2.1, va_up u4.2.2 4 N) → q ≤ T + 1 → u4.2.2 5 < q → (∀ y b, u4.1 0 y b = true → v2.1 0 y b = true) → va_P D vwA (sW a kI kL kZ v2) H → va_D (sA a) (sW a kI kL kZ v2) → va_S (sA a) s.heap H locs → T + 1 - q < fu → lv_has ls 2 [(1, .int (nI q)), (0, .ref (a 3))] → W p l e R s m ([.ref (a 3)] : List Value).toArray below meth c H locs 0 0 Q (F0 m 88 ls []) := by
            intro fu
            induction fu with
            | zero => intros; omega
            | succ fu ih88 =>
              intro q v2 ls H locs k1 k2 k3 k4 k5 k6 hP hD hS hfu hl
              have hE1 : v2.2.1 = u.2.1 := (congrArg Prod.fst k3).trans hst.2.2.2.2.2.1
              have hE2 : v2.2.2 2 = T := (congrFun (congrArg Prod.snd k3) 2).trans hT2
              refine lv_iload_n hx hb dC_catchUp_88 rfl (lv_at hl 0 rfl) ?_
              refine lv_aload_n hx hb dC_catchUp_89 rfl (lv_at hl 1 rfl) ?_
              refine gf_C_15 (v := .ref (a 2)) hx hb hA hown hK hP 3 rfl rfl dC_catchUp_90 ?_
              refine ks_rv ⟨hx, hb, hml, hown, hA⟩ (c_told l D a kI kL kZ v2  ) (kw_C_155 hA rfl rfl ⟨Nat.le_trans (Nat.le_of_ble_eq_true rfl) hRf, Nat.le_trans (Nat.le_of_ble_eq_true rfl) hRl⟩) hK hP hS 2 2 rfl rfl rfl hl.1 (Nat.le_of_ble_eq_true rfl) ⟨by omega, by omega⟩ dC_catchUp_93 rfl (fun H locs hP hS => ?_)
              refine tq_i (congrArg nI (show v2.2.2 2 = T from hE2)) ?_
              refine tq_gt hx hb dC_catchUp_96 (tgt := 121) (by decide) (by omega) (by omega) (fun h96 => ?_) (fun h96 => ?_)
              · refine lv_aload_n hx hb dC_catchUp_121 rfl (lv_at hl 1 rfl) ?_
                refine lv_aload_n hx hb dC_catchUp_122 rfl (lv_at hl 1 rfl) ?_
                refine gf_C_15 (v := .ref (a 2)) hx hb hA hown hK hP 3 rfl rfl dC_catchUp_123 ?_
                refine ks_rv ⟨hx, hb, hml, hown, hA⟩ (c_told l D a kI kL kZ v2  ) (kw_C_155 hA rfl rfl ⟨Nat.le_trans (Nat.le_of_ble_eq_true rfl) hRf, Nat.le_trans (Nat.le_of_ble_eq_true rfl) hRl⟩) hK hP hS 2 2 rfl rfl rfl hl.1 (Nat.le_of_ble_eq_true rfl) ⟨by omega, by omega⟩ dC_catchUp_126 rfl (fun H locs hP hS => ?_)
                refine tq_i (congrArg nI (show v2.2.2 2 = T from hE2)) ?_
                refine pf_C_50 (v := .int (nI T)) hx hb hA hown hK hP hD hS 3 rfl rfl rfl (Nat.le_of_ble_eq_true rfl) dC_catchUp_129 (fun H locs hP hD hS => ?_)
                have hP : va_P D vwA (sW a kI kL kZ (v2.1, v2.2.1, va_up v2.2.2 5 T)) H := hP
                have hD : va_D (sA a) (sW a kI kL kZ (v2.1, v2.2.1, va_up v2.2.2 5 T)) := hD
                subst hQe
                exact W.vret hx hb hr (fun t ht hW => ⟨⟨(v2.1, v2.2.1, va_up v2.2.2 5 T), rfl, ⟨catch_end hst hT k1 k2 k3 (by omega), fun z => (by omega)⟩, tq_hp ht hP⟩, hS.F ht⟩) hS.2.2 dC_catchUp_132
              · refine lv_aload_n hx hb dC_catchUp_99 rfl (lv_at hl 1 rfl) ?_
                refine gf_C_15 (v := .ref (a 2)) hx hb hA hown hK hP 3 rfl rfl dC_catchUp_100 ?_
                refine lv_iload_n hx hb dC_catchUp_103 rfl (lv_at hl 0 rfl) ?_
                refine ks_rv ⟨hx, hb, hml, hown, hA⟩ (c_isInForce l D a kI kL kZ v2 (nI q) (by omega)) (kw_C_158 hA rfl rfl ⟨Nat.le_trans (Nat.le_of_ble_eq_true rfl) hRf, Nat.le_trans (Nat.le_of_ble_eq_true rfl) hRl⟩) hK hP hS 2 2 rfl rfl rfl hl.1 (Nat.le_of_ble_eq_true rfl) ⟨by omega, by omega⟩ dC_catchUp_104 rfl (fun H locs hP hS => ?_)
                refine tq_bf hx hb dC_catchUp_107 (tgt := 115) (by decide) (fun h107 => ?_) (fun h107 => ?_)
                · refine lv_iinc (k := 0) (lv' := [(1, .int (nI (q + 1))), (0, .ref (a 3))]) hx hb dC_catchUp_115 hl rfl (nI_1 _) (by decide) rfl (fun ls hl => ?_)
                  refine lv_goto hx hb dC_catchUp_118 (tgt := 88) (by decide) ?_
                  exact ih88 (q + 1) v2 ls H locs k1 (upto_no k2 (fun z => by rw [(inf_iff hE1 hE2 hT hTl (by omega) (by omega)).mpr z] at h107; cases h107)) k3 (by omega) (by omega) k6 hP hD hS (by omega) (lv_sub hl [0, 1] rfl)
                · refine lv_aload_n hx hb dC_catchUp_110 rfl (lv_at hl 1 rfl) ?_
                  refine lv_iload_n hx hb dC_catchUp_111 rfl (lv_at hl 0 rfl) ?_
                  refine ks_v (wf := sW a kI kL kZ) (u := v2) ⟨hx, hb, hml, hown, hA⟩ (c_hearK l D a kI kL kZ v2 N kd fa fb N T so xa xb xc (x_upto u U (u4.2.2 5) q) k1 k2 (ax_of hc.2.2.1 hE1 (hE2.trans hT.symm)) q (by omega) (by omega)) (kw_C_161 hA rfl rfl ⟨Nat.le_trans (Nat.le_of_ble_eq_true rfl) hRf, Nat.le_trans (Nat.le_of_ble_eq_true rfl) hRl⟩) hK hP hD hS (fun _ h => h) (fun u' => sW_adr u') 3 3 rfl rfl rfl hl.1 (Nat.le_of_ble_eq_true rfl) ⟨by omega, by omega⟩ dC_catchUp_112 rfl (fun u5 H locs hu5 hP hD hS => ?_)
                  refine lv_iinc (k := 0) (lv' := [(1, .int (nI (q + 1))), (0, .ref (a 3))]) hx hb dC_catchUp_115 hl rfl (nI_1 _) (by decide) rfl (fun ls hl => ?_)
                  refine lv_goto hx hb dC_catchUp_118 (tgt := 88) (by decide) ?_
                  exact ih88 (q + 1) u5 ls H locs hu5.1 (upto_yes hu5.2.1 ((inf_iff hE1 hE2 hT hTl (by omega) (by omega)).mp h107) (by omega)) (hu5.2.2.1.trans k3) (by omega) (by omega) (fun y b z => hu5.2.2.2 _ _ (k6 y b z)) hP hD hS (by omega) (lv_sub hl [0, 1] rfl)
          have hnN : n = N := by omega
          subst hnN
          exact lp _ (v.2.2 5 + 1) (v.1, v.2.1, va_up v.2.2 4 n) ls _ _ g1 (by rw [g4]; exact upto_0 g3) (by rw [g4]) (by rw [g4]; have := hst.2.2.2.2.2.2.2.2.2; omega) (by rw [g4]; omega) g6 hP hD hS (Nat.lt_succ_self _) (lv_sub hl [0, 1] rfl)
        · refine lv_aload_n hx hb dC_catchUp_27 rfl (lv_at hl 1 rfl) ?_
          refine gf_C_11 (v := .ref (a 1)) hx hb hA hown hK hP 3 rfl rfl dC_catchUp_28 ?_
          refine lv_iload_n hx hb dC_catchUp_31 rfl (lv_at hl 0 rfl) ?_
          refine ks_rv ⟨hx, hb, hml, hown, hA⟩ (c_kind l D a kI kL kZ v n (by omega)) (kw_C_148 hA rfl rfl ⟨Nat.le_trans (Nat.le_of_ble_eq_true rfl) hRf, Nat.le_trans (Nat.le_of_ble_eq_true rfl) hRl⟩) hK hP hS 1 1 rfl rfl rfl hl.1 (Nat.le_of_ble_eq_true rfl) ⟨by omega, by omega⟩ dC_catchUp_32 rfl (fun H locs hP hS => ?_)
          refine lv_iconst (v := nI 2) hx hb dC_catchUp_35 (by decide +kernel) ?_
          refine lv_icmp_ne hx hb dC_catchUp_36 (tgt := 47) (by decide) (fun h36 => ?_) (fun h36 => ?_)
          · have hk2 : ¬ kd n = 2 := fun z => h36 ((tm_k g1.1.1 h24 (by decide)).mpr z)
            refine lv_aload_n hx hb dC_catchUp_47 rfl (lv_at hl 1 rfl) ?_
            refine gf_C_11 (v := .ref (a 1)) hx hb hA hown hK hP 3 rfl rfl dC_catchUp_48 ?_
            refine lv_iload_n hx hb dC_catchUp_51 rfl (lv_at hl 0 rfl) ?_
            refine ks_rv ⟨hx, hb, hml, hown, hA⟩ (c_kind l D a kI kL kZ v n (by omega)) (kw_C_148 hA rfl rfl ⟨Nat.le_trans (Nat.le_of_ble_eq_true rfl) hRf, Nat.le_trans (Nat.le_of_ble_eq_true rfl) hRl⟩) hK hP hS 1 1 rfl rfl rfl hl.1 (Nat.le_of_ble_eq_true rfl) ⟨by omega, by omega⟩ dC_catchUp_52 rfl (fun H locs hP hS => ?_)
            refine lv_iconst (v := nI 3) hx hb dC_catchUp_55 (by decide +kernel) ?_
            refine lv_icmp_ne hx hb dC_catchUp_56 (tgt := 64) (by decide) (fun h56 => ?_) (fun h56 => ?_)
            · have hk3 : ¬ kd n = 3 := fun z => h56 ((tm_k g1.1.1 h24 (by decide)).mpr z)
              refine lv_iinc (k := 0) (lv' := [(1, .int (nI (n + 1))), (0, .ref (a 3))]) hx hb dC_catchUp_64 hl rfl (nI_1 _) (by decide) rfl (fun ls hl => ?_)
              refine lv_goto hx hb dC_catchUp_67 (tgt := 16) (by decide) ?_
              exact ih16 (n + 1) v ls H locs (mid_skip g1 hk2 hk3) (fun y b z1 z2 => Nat.lt_succ_of_lt (g2 y b z1 z2)) g3 g4 (by omega) g6 hP hD hS (by omega) (lv_sub hl [0, 1] rfl)
            · have hk := (tm_k g1.1.1 h24 (by decide)).mp h56
              refine lv_aload_n hx hb dC_catchUp_59 rfl (lv_at hl 1 rfl) ?_
              refine lv_iload_n hx hb dC_catchUp_60 rfl (lv_at hl 0 rfl) ?_
              refine ks_v (wf := sW a kI kL kZ) (u := v) ⟨hx, hb, hml, hown, hA⟩ (c_admitSome l D a kI kL kZ v N kd fa fb g1.1.1 g1.1.2.1 n (by omega) hk) (kw_C_152 hA rfl rfl ⟨Nat.le_trans (Nat.le_of_ble_eq_true rfl) hRf, Nat.le_trans (Nat.le_of_ble_eq_true rfl) hRl⟩) hK hP hD hS (fun _ h => h) (fun u' => sW_adr u') 3 3 rfl rfl rfl hl.1 (Nat.le_of_ble_eq_true rfl) ⟨by omega, by omega⟩ dC_catchUp_61 rfl (fun u6 H locs hu6 hP hD hS => ?_)
              refine lv_iinc (k := 0) (lv' := [(1, .int (nI (n + 1))), (0, .ref (a 3))]) hx hb dC_catchUp_64 hl rfl (nI_1 _) (by decide) rfl (fun ls hl => ?_)
              refine lv_goto hx hb dC_catchUp_67 (tgt := 16) (by decide) ?_
              exact ih16 (n + 1) u6 ls H locs (mid_some g1 g2 h24 hk hu6.1 hu6.2.1 hu6.2.2) (adm_ext g2 hu6.1) (told_ext g3 hu6.1) (hu6.1.2.2.2.2.2.2.trans g4) (by omega) (fun y b z => hu6.1.1 _ _ (g6 y b z)) hP hD hS (by omega) (lv_sub hl [0, 1] rfl)
          · have hk := (tm_k g1.1.1 h24 (by decide)).mp h36
            refine lv_aload_n hx hb dC_catchUp_39 rfl (lv_at hl 1 rfl) ?_
            refine lv_iload_n hx hb dC_catchUp_40 rfl (lv_at hl 0 rfl) ?_
            refine ks_v (wf := sW a kI kL kZ) (u := v) ⟨hx, hb, hml, hown, hA⟩ (c_admitBoth l D a kI kL kZ v N kd fa fb g1.1.1 g1.1.2.1 n (by omega) hk) (kw_C_149 hA rfl rfl ⟨Nat.le_trans (Nat.le_of_ble_eq_true rfl) hRf, Nat.le_trans (Nat.le_of_ble_eq_true rfl) hRl⟩) hK hP hD hS (fun _ h => h) (fun u' => sW_adr u') 3 3 rfl rfl rfl hl.1 (Nat.le_of_ble_eq_true rfl) ⟨by omega, by omega⟩ dC_catchUp_41 rfl (fun u7 H locs hu7 hP hD hS => ?_)
            refine lv_goto hx hb dC_catchUp_44 (tgt := 64) (by decide) ?_
            refine lv_iinc (k := 0) (lv' := [(1, .int (nI (n + 1))), (0, .ref (a 3))]) hx hb dC_catchUp_64 hl rfl (nI_1 _) (by decide) rfl (fun ls hl => ?_)
            refine lv_goto hx hb dC_catchUp_67 (tgt := 16) (by decide) ?_
            exact ih16 (n + 1) u7 ls H locs (mid_both g1 g2 h24 hk hu7.1 hu7.2.1 hu7.2.2) (adm_ext g2 hu7.1) (told_ext g3 hu7.1) (hu7.1.2.2.2.2.2.2.trans g4) (by omega) (fun y b z => hu7.1.1 _ _ (g6 y b z)) hP hD hS (by omega) (lv_sub hl [0, 1] rfl)
    exact lp _ (u4.2.2 4) u4 ls _ _ hst.1 hst.2.1 hst.2.2.1 rfl hst.2.2.2.2.2.2.2.2.1 (fun _ _ z => z) hP hD hS (Nat.lt_succ_self _) (lv_sub hl [0, 1] rfl)
