/-! TermServer: reasonBefore, why. Written by wip/whole/gen/genS3.py. -/
set_option maxHeartbeats 4000000 in
set_option maxRecDepth 100000 in
/-- c_reasonBefore -/
theorem c_reasonBefore (l : Launch) (D : va_G) (a : Nat → Nat) (kI kL kZ : ClassId) (u : sU) (N : Nat) (kd fa fb : Nat → Nat) (T : Nat) (so xa xb xc : Nat → Nat) (hc : s_cinv u N kd fa fb T so xa xb xc) (rs : Nat → Nat) (L d k : Nat) (hL : 1 ≤ L) (hL2 : L ≤ T + 1) (hd : d < N) (hk : k < N) (hM : u.2.2 7 ≤ 100) (hrs : ∀ i, i < u.2.2 7 → u.2.1 9 i = nI (rs i) ∧ x_inf u (rs i)) (hbl : b_Bel N kd fa fb so xa xb xc (x_upto u (x_rs rs (u.2.2 7)) 0 L) d k) : Met l yS_reasonBefore (wS_reasonBefore :: wA) ({ frames := 5, cells := 0, slots := 0, locals := 127 }) (va_Pc [.ref (a 0), .int (nI L), .int (nI d), .int (nI k)] (tq_wB D vwA (sW a kI kL kZ u) (sT kI kL kZ))) (va_Qi (fun r (u' : sU) => q_rb u N kd fa fb so xa xb xc (x_rs rs (u.2.2 7)) L d k r ∧ s_cinv u' N kd fa fb T so xa xb xc ∧ u'.2 = (s_forget u).2) (fun u' t => va_P D vwA (sW a kI kL kZ u') t.heap) (sA a)) 0 0 (sA a) := by
  refine Met.ofW (cc := bS_reasonBefore) (maxL := 5) (ret := (some .int)) (by decide +kernel) rfl ?_
  intro p e s m args below meth c s₁ B1 hml hv
  obtain ⟨rfl, hP, hK, hD0⟩ := hv
  have hx := B1.exec
  have hb := B1.bytes
  have hr := B1.returns
  have hA : ∀ w ∈ wA, w.before ([.ref (a 0), .int (nI L), .int (nI d), .int (nI k)] : List Value).toArray s = true := fun w h => atoms_spec (ws := wS_reasonBefore :: wA) B1.pre w (List.mem_cons_of_mem _ h)
  have hown : s.vm.findClass RcS = some m.cls := findClass_of_methodNamed B1.named
  have hlocks := B1.notSynchronized
  have hS : va_S (sA a) s.heap s.heap [] := va_S.rf
  have hl := lv_entry ([.ref (a 0), .int (nI L), .int (nI d), .int (nI k)]) (n := 5) (Nat.le_of_ble_eq_true rfl)
  rw [lg_entry_eq]
  generalize (lg_sl ([.ref (a 0), .int (nI L), .int (nI d), .int (nI k)]) ++ List.replicate (5 - (lg_sl ([.ref (a 0), .int (nI L), .int (nI d), .int (nI k)])).length) Slot.unset).toArray = ls at hl ⊢
  have hl : lv_has ls 5 [(0, .ref (a 0)), (1, .int (nI L)), (2, .int (nI d)), (3, .int (nI k))] := hl
  refine tq_gen (fun R Q hRe hQe => ?_)
  have hRf : 5 ≤ R.frames := by rw [hRe]; exact Nat.le_of_ble_eq_true rfl
  have hRl : 127 ≤ R.locals := by rw [hRe]; exact Nat.le_of_ble_eq_true rfl
  have hRc : 0 ≤ R.cells := by rw [hRe]; exact Nat.le_of_ble_eq_true rfl
  have hRs : 0 ≤ R.slots := by rw [hRe]; exact Nat.le_of_ble_eq_true rfl
  have hD := sA_D hD0

  have hN := tm_N hc.1.1
  have hT1 := hc.2.2.1.1
  have hT2 := hc.2.2.1.2.1
  have hRi : ∀ j, x_rs rs (u.2.2 7) j → x_inf u j := fun j ⟨i, z1, z2⟩ => z2 ▸ (hrs i z1).2
  have hRr : ∀ j, x_rs rs (u.2.2 7) j → so j = 3 → xa j < 6 ∧ xb j < 6 := fun j z => ax_rng hc.2.2.1 j (hRi j z)
  refine lv_aload_n hx hb dS_reasonBefore_0 rfl (lv_at hl 0 rfl) ?_
  refine gf_S_28 (v := .ref (a 3)) hx hb hA hown hK hP 0 rfl rfl dS_reasonBefore_1 ?_
  refine ks_v (wf := sW a kI kL kZ) (u := u) ⟨hx, hb, hml, hown, hA⟩ (c_forget l D a kI kL kZ u  (by omega)) (kw_S_142 hA rfl rfl ⟨Nat.le_trans (Nat.le_of_ble_eq_true rfl) hRf, Nat.le_trans (Nat.le_of_ble_eq_true rfl) hRl⟩) hK hP hD hS (fun _ h => h) (fun u' => sW_adr u') 3 3 rfl rfl rfl hl.1 (Nat.le_of_ble_eq_true rfl) ⟨by omega, by omega⟩ dS_reasonBefore_4 rfl (fun u1 H locs hu1 hP hD hS => ?_)
  refine lv_aload_n hx hb dS_reasonBefore_7 rfl (lv_at hl 0 rfl) ?_
  refine gf_S_28 (v := .ref (a 3)) hx hb hA hown hK hP 0 rfl rfl dS_reasonBefore_8 ?_
  refine lv_iload_n hx hb dS_reasonBefore_11 rfl (lv_at hl 2 rfl) ?_
  refine ks_v (wf := sW a kI kL kZ) (u := u1) ⟨hx, hb, hml, hown, hA⟩ (c_begin l D a kI kL kZ u1 d (by omega)) (kw_S_145 hA rfl rfl ⟨Nat.le_trans (Nat.le_of_ble_eq_true rfl) hRf, Nat.le_trans (Nat.le_of_ble_eq_true rfl) hRl⟩) hK hP hD hS (fun _ h => h) (fun u' => sW_adr u') 3 3 rfl rfl rfl hl.1 (Nat.le_of_ble_eq_true rfl) ⟨by omega, by omega⟩ dS_reasonBefore_12 rfl (fun u2 H locs hu2 hP hD hS => ?_)
  rw [hu1] at hu2
  refine lv_iconst (v := nI 0) hx hb dS_reasonBefore_15 (by decide +kernel) ?_
  refine lv_istore (lv' := [(4, .int (nI 0)), (0, .ref (a 0)), (1, .int (nI L)), (2, .int (nI d)), (3, .int (nI k))]) hx hb dS_reasonBefore_16 hl (by decide) rfl (fun ls hl => ?_)
  have lp : ∀ (fu : Nat) (n : Nat) (v : sU) (ls : Array Slot) (H : Heap) (locs : List Loc), s_mid v N kd fa fb N → s_told v so xa xb xc (x_rs rs n) → v.2 = (s_forget u).2 → v.1 0 (d * 7 + 6) d = true → n ≤ u.2.2 7 → va_P D vwA (sW a kI kL kZ v) H → va_D (sA a) (sW a kI kL kZ v) → va_S (sA a) s.heap H locs → u.2.2 7 - n < fu → lv_has ls 5 [(4, .int (nI n)), (0, .ref (a 0)), (1, .int (nI L)), (2, .int (nI d)), (3, .int (nI k))] → W p l e R s m ([.ref (a 0), .int (nI L), .int (nI d), .int (nI k)] : List Value).toArray below meth c H locs 0 0 Q (F0 m 18 ls []) := by
    intro fu
    induction fu with
    | zero => intros; omega
    | succ fu ih18 =>
      intro n v ls H locs g1 g2 g3 g4 g5 hP hD hS hfu hl
      have hE0 : v.2.1 = (s_forget u).2.1 := congrArg Prod.fst g3
      have hE1 : v.2.1 = u.2.1 := hE0
      have hE2 : v.2.2 2 = T := (congrFun (congrArg Prod.snd g3) 2).trans hT1
      have hE7 : v.2.2 7 = u.2.2 7 := congrFun (congrArg Prod.snd g3) 7
      refine lv_iload hx hb dS_reasonBefore_18 (lv_at hl 0 rfl) ?_
      refine lv_aload_n hx hb dS_reasonBefore_20 rfl (lv_at hl 1 rfl) ?_
      refine gf_S_36 (v := .int (nI (v.2.2 7))) hx hb hA hown hK hP 0 rfl rfl dS_reasonBefore_21 ?_
      refine tq_ge hx hb dS_reasonBefore_24 (tgt := 47) (by decide) (by omega) (by omega) (fun h24 => ?_) (fun h24 => ?_)
      · have hn7 : n = u.2.2 7 := by omega
        rw [hn7] at g2
        refine lv_aload_n hx hb dS_reasonBefore_47 rfl (lv_at hl 1 rfl) ?_
        refine gf_S_28 (v := .ref (a 3)) hx hb hA hown hK hP 0 rfl rfl dS_reasonBefore_48 ?_
        refine ks_v (wf := sW a kI kL kZ) (u := v) ⟨hx, hb, hml, hown, hA⟩ (c_saturate l D a kI kL kZ v N kd fa fb g1.1 g1.2.1 g1.2.2.1 ) (kw_S_151 hA rfl rfl ⟨Nat.le_trans (Nat.le_of_ble_eq_true rfl) hRf, Nat.le_trans (Nat.le_of_ble_eq_true rfl) hRl⟩) hK hP hD hS (fun _ h => h) (fun u' => sW_adr u') 3 3 rfl rfl rfl hl.1 (Nat.le_of_ble_eq_true rfl) ⟨by omega, by omega⟩ dS_reasonBefore_51 rfl (fun u3 H locs hu3 hP hD hS => ?_)
        have hG := good_of g1 g2 g4 hu3
        have hE3 : u3.2 = (s_forget u).2 := hu3.2.2.2.2.1.2.2.trans g3
        refine lv_aload_n hx hb dS_reasonBefore_54 rfl (lv_at hl 1 rfl) ?_
        refine gf_S_28 (v := .ref (a 3)) hx hb hA hown hK hP 0 rfl rfl dS_reasonBefore_55 ?_
        refine lv_iload_n hx hb dS_reasonBefore_58 rfl (lv_at hl 3 rfl) ?_
        refine lv_iload_n hx hb dS_reasonBefore_59 rfl (lv_at hl 4 rfl) ?_
        refine ks_rv ⟨hx, hb, hml, hown, hA⟩ (c_covers l D a kI kL kZ u3 d k (by omega) (by omega)) (kw_S_75 hA rfl rfl ⟨Nat.le_trans (Nat.le_of_ble_eq_true rfl) hRf, Nat.le_trans (Nat.le_of_ble_eq_true rfl) hRl⟩) hK hP hS 3 3 rfl rfl rfl hl.1 (Nat.le_of_ble_eq_true rfl) ⟨by omega, by omega⟩ dS_reasonBefore_60 rfl (fun H locs hP hS => ?_)
        refine tq_i (y := bI (s_cv u3 d k)) rfl ?_
        refine tq_bf hx hb dS_reasonBefore_63 (tgt := 68) (by decide) (fun h63 => ?_) (fun h63 => ?_)
        · refine lv_iconst (v := nI 1) hx hb dS_reasonBefore_68 (by decide +kernel) ?_
          refine lv_istore (lv' := [(4, .int (nI 1)), (0, .ref (a 0)), (1, .int (nI L)), (2, .int (nI d)), (3, .int (nI k))]) hx hb dS_reasonBefore_69 hl (by decide) rfl (fun ls hl => ?_)
          have lp : ∀ (fu : Nat) (q : Nat) (v2 : sU) (ls : Array Slot) (H : Heap) (locs : List Loc), s_good v2 N kd fa fb so xa xb xc (x_upto u (x_rs rs (u.2.2 7)) 0 q) d → v2.2 = (s_forget u).2 → 1 ≤ q → q ≤ L → ¬ b_Bel N kd fa fb so xa xb xc (x_upto u (x_rs rs (u.2.2 7)) 0 q) d k → va_P D vwA (sW a kI kL kZ v2) H → va_D (sA a) (sW a kI kL kZ v2) → va_S (sA a) s.heap H locs → L + 1 - q < fu → lv_has ls 5 [(4, .int (nI q)), (0, .ref (a 0)), (1, .int (nI L)), (2, .int (nI d)), (3, .int (nI k))] → W p l e R s m ([.ref (a 0), .int (nI L), .int (nI d), .int (nI k)] : List Value).toArray below meth c H locs 0 0 Q (F0 m 71 ls []) := by
            intro fu
            induction fu with
            | zero => intros; omega
            | succ fu ih71 =>
              intro q v2 ls H locs k1 k3 k4 k5 k6 hP hD hS hfu hl
              have hE0 : v2.2.1 = (s_forget u).2.1 := congrArg Prod.fst k3
              have hE1 : v2.2.1 = u.2.1 := hE0
              have hE2 : v2.2.2 2 = T := (congrFun (congrArg Prod.snd k3) 2).trans hT1
              have hE7 : v2.2.2 7 = u.2.2 7 := congrFun (congrArg Prod.snd k3) 7
              refine lv_iload hx hb dS_reasonBefore_71 (lv_at hl 0 rfl) ?_
              refine lv_iload_n hx hb dS_reasonBefore_73 rfl (lv_at hl 2 rfl) ?_
              refine tq_ge hx hb dS_reasonBefore_74 (tgt := 126) (by decide) (by omega) (by omega) (fun h74 => ?_) (fun h74 => ?_)
              · exact absurd hbl (by rw [show L = q by omega]; exact k6)
              · refine lv_aload_n hx hb dS_reasonBefore_77 rfl (lv_at hl 1 rfl) ?_
                refine gf_S_19 (v := .ref (a 2)) hx hb hA hown hK hP 0 rfl rfl dS_reasonBefore_78 ?_
                refine lv_iload hx hb dS_reasonBefore_81 (lv_at hl 0 rfl) ?_
                refine ks_rv ⟨hx, hb, hml, hown, hA⟩ (c_isInForce l D a kI kL kZ v2 (nI q) (by omega)) (kw_S_62 hA rfl rfl ⟨Nat.le_trans (Nat.le_of_ble_eq_true rfl) hRf, Nat.le_trans (Nat.le_of_ble_eq_true rfl) hRl⟩) hK hP hS 2 2 rfl rfl rfl hl.1 (Nat.le_of_ble_eq_true rfl) ⟨by omega, by omega⟩ dS_reasonBefore_83 rfl (fun H locs hP hS => ?_)
                refine tq_bf hx hb dS_reasonBefore_86 (tgt := 120) (by decide) (fun h86 => ?_) (fun h86 => ?_)
                · have hni : ¬ x_inf u q := fun z => by rw [(inf_iff hE1 hE2 hT1 hT2 (by omega) (by omega)).mpr z] at h86; cases h86
                  refine lv_iinc (k := 0) (lv' := [(4, .int (nI (q + 1))), (0, .ref (a 0)), (1, .int (nI L)), (2, .int (nI d)), (3, .int (nI k))]) hx hb dS_reasonBefore_120 hl rfl (nI_1 _) (by decide) rfl (fun ls hl => ?_)
                  refine lv_goto hx hb dS_reasonBefore_123 (tgt := 71) (by decide) ?_
                  exact ih71 (q + 1) v2 ls H locs (good_congr k1 (upto_n hni)) k3 (by omega) (by omega) (fun z => k6 ((bel_congr (upto_n hni)).mpr z)) hP hD hS (by omega) (lv_sub hl [0, 1, 2, 3, 4] rfl)
                · have hin := (inf_iff hE1 hE2 hT1 hT2 (by omega) (by omega)).mp h86
                  refine lv_aload_n hx hb dS_reasonBefore_89 rfl (lv_at hl 1 rfl) ?_
                  refine gf_S_28 (v := .ref (a 3)) hx hb hA hown hK hP 0 rfl rfl dS_reasonBefore_90 ?_
                  refine lv_iload hx hb dS_reasonBefore_93 (lv_at hl 0 rfl) ?_
                  refine ks_v (wf := sW a kI kL kZ) (u := v2) ⟨hx, hb, hml, hown, hA⟩ (c_hearK l D a kI kL kZ v2 N kd fa fb N T so xa xb xc (x_upto u (x_rs rs (u.2.2 7)) 0 q) k1.1 k1.2.2.1 (ax_of hc.2.2.1 hE1 (hE2.trans hT1.symm)) q (by omega) (by omega)) (kw_S_148 hA rfl rfl ⟨Nat.le_trans (Nat.le_of_ble_eq_true rfl) hRf, Nat.le_trans (Nat.le_of_ble_eq_true rfl) hRl⟩) hK hP hD hS (fun _ h => h) (fun u' => sW_adr u') 3 3 rfl rfl rfl hl.1 (Nat.le_of_ble_eq_true rfl) ⟨by omega, by omega⟩ dS_reasonBefore_95 rfl (fun u4 H locs hu4 hP hD hS => ?_)
                  refine lv_aload_n hx hb dS_reasonBefore_98 rfl (lv_at hl 1 rfl) ?_
                  refine gf_S_28 (v := .ref (a 3)) hx hb hA hown hK hP 0 rfl rfl dS_reasonBefore_99 ?_
                  refine ks_v (wf := sW a kI kL kZ) (u := u4) ⟨hx, hb, hml, hown, hA⟩ (c_saturate l D a kI kL kZ u4 N kd fa fb hu4.1.1 hu4.1.2.1 hu4.1.2.2.1 ) (kw_S_151 hA rfl rfl ⟨Nat.le_trans (Nat.le_of_ble_eq_true rfl) hRf, Nat.le_trans (Nat.le_of_ble_eq_true rfl) hRl⟩) hK hP hD hS (fun _ h => h) (fun u' => sW_adr u') 3 3 rfl rfl rfl hl.1 (Nat.le_of_ble_eq_true rfl) ⟨by omega, by omega⟩ dS_reasonBefore_102 rfl (fun u5 H locs hu5 hP hD hS => ?_)
                  have hG2 := good_of hu4.1 (upto_yes hu4.2.1 hin (by omega)) (hu4.2.2.2 _ _ k1.2.2.2) hu5
                  have hE4 : u5.2 = (s_forget u).2 := hu5.2.2.2.2.1.2.2.trans (hu4.2.2.1.trans k3)
                  have hRr2 : ∀ j, x_upto u (x_rs rs (u.2.2 7)) 0 (q + 1) j → so j = 3 → xa j < 6 ∧ xb j < 6 := fun j z => ax_rng hc.2.2.1 j (upto_inf hRi j z)
                  refine lv_aload_n hx hb dS_reasonBefore_105 rfl (lv_at hl 1 rfl) ?_
                  refine gf_S_28 (v := .ref (a 3)) hx hb hA hown hK hP 0 rfl rfl dS_reasonBefore_106 ?_
                  refine lv_iload_n hx hb dS_reasonBefore_109 rfl (lv_at hl 3 rfl) ?_
                  refine lv_iload_n hx hb dS_reasonBefore_110 rfl (lv_at hl 4 rfl) ?_
                  refine ks_rv ⟨hx, hb, hml, hown, hA⟩ (c_covers l D a kI kL kZ u5 d k (by omega) (by omega)) (kw_S_75 hA rfl rfl ⟨Nat.le_trans (Nat.le_of_ble_eq_true rfl) hRf, Nat.le_trans (Nat.le_of_ble_eq_true rfl) hRl⟩) hK hP hS 3 3 rfl rfl rfl hl.1 (Nat.le_of_ble_eq_true rfl) ⟨by omega, by omega⟩ dS_reasonBefore_111 rfl (fun H locs hP hS => ?_)
                  refine tq_i (y := bI (s_cv u5 d k)) rfl ?_
                  refine tq_bf hx hb dS_reasonBefore_114 (tgt := 120) (by decide) (fun h114 => ?_) (fun h114 => ?_)
                  · refine lv_iinc (k := 0) (lv' := [(4, .int (nI (q + 1))), (0, .ref (a 0)), (1, .int (nI L)), (2, .int (nI d)), (3, .int (nI k))]) hx hb dS_reasonBefore_120 hl rfl (nI_1 _) (by decide) rfl (fun ls hl => ?_)
                    refine lv_goto hx hb dS_reasonBefore_123 (tgt := 71) (by decide) ?_
                    exact ih71 (q + 1) u5 ls H locs hG2 hE4 (by omega) (by omega) (good_f hG2 hRr2 hk h114) hP hD hS (by omega) (lv_sub hl [0, 1, 2, 3, 4] rfl)
                  · refine lv_iload hx hb dS_reasonBefore_117 (lv_at hl 0 rfl) ?_
                    subst hQe
                    exact W.iret (v := nI q) hx hb hr (fun t ht hW => ⟨⟨_, u5, rfl, ⟨Or.inr ⟨q, k4, by omega, hin, k6, (good_bel hG2 hRr2 hk).mp h114, rfl⟩, good_cinv hc hG2 (upto_inf hRi) hE4, hE4⟩, tq_hp ht hP⟩, hS.F ht⟩) hS.2.2 dS_reasonBefore_119
          exact lp _ 1 u3 ls _ _ (good_congr hG upto_1) hE3 (by omega) hL (fun z => good_f hG hRr hk h63 ((bel_congr upto_1).mpr z)) hP hD hS (Nat.lt_succ_self _) (lv_sub hl [0, 1, 2, 3, 4] rfl)
        · refine lv_iconst (v := (-1)) hx hb dS_reasonBefore_66 (by decide +kernel) ?_
          subst hQe
          exact W.iret (v := (-1)) hx hb hr (fun t ht hW => ⟨⟨_, u3, rfl, ⟨Or.inl ⟨rfl, (good_bel hG hRr hk).mp h63⟩, good_cinv hc hG hRi hE3, hE3⟩, tq_hp ht hP⟩, hS.F ht⟩) hS.2.2 dS_reasonBefore_67
      · refine lv_aload_n hx hb dS_reasonBefore_27 rfl (lv_at hl 1 rfl) ?_
        refine gf_S_28 (v := .ref (a 3)) hx hb hA hown hK hP 0 rfl rfl dS_reasonBefore_28 ?_
        refine lv_aload_n hx hb dS_reasonBefore_31 rfl (lv_at hl 1 rfl) ?_
        refine gf_S_32 (v := .ref (a 4)) hx hb hA hown hK hP 0 rfl rfl dS_reasonBefore_32 ?_
        refine lv_iload hx hb dS_reasonBefore_35 (lv_at hl 0 rfl) ?_
        have hri := (hrs n (by omega)).2
        have hri1 := hri.1
        have hri2 := hri.2.1
        refine tq_iald hx hb hK hP 4 0 rfl rfl (by omega) (by omega) dS_reasonBefore_37 ?_
        refine tq_i ((congrFun (congrFun hE1 9) n).trans (hrs n (by omega)).1) ?_
        refine ks_v (wf := sW a kI kL kZ) (u := v) ⟨hx, hb, hml, hown, hA⟩ (c_hearK l D a kI kL kZ v N kd fa fb N T so xa xb xc (x_rs rs n) g1 g2 (ax_of hc.2.2.1 hE1 (hE2.trans hT1.symm)) (rs n) (by omega) (by omega)) (kw_S_148 hA rfl rfl ⟨Nat.le_trans (Nat.le_of_ble_eq_true rfl) hRf, Nat.le_trans (Nat.le_of_ble_eq_true rfl) hRl⟩) hK hP hD hS (fun _ h => h) (fun u' => sW_adr u') 3 3 rfl rfl rfl hl.1 (Nat.le_of_ble_eq_true rfl) ⟨by omega, by omega⟩ dS_reasonBefore_38 rfl (fun u6 H locs hu6 hP hD hS => ?_)
        refine lv_iinc (k := 0) (lv' := [(4, .int (nI (n + 1))), (0, .ref (a 0)), (1, .int (nI L)), (2, .int (nI d)), (3, .int (nI k))]) hx hb dS_reasonBefore_41 hl rfl (nI_1 _) (by decide) rfl (fun ls hl => ?_)
        refine lv_goto hx hb dS_reasonBefore_44 (tgt := 18) (by decide) ?_
        exact ih18 (n + 1) u6 ls H locs hu6.1 (rs_s hu6.2.1) (hu6.2.2.1.trans g3) (hu6.2.2.2 _ _ g4) (by omega) hP hD hS (by omega) (lv_sub hl [0, 1, 2, 3, 4] rfl)
  exact lp _ 0 u2 ls _ _ (mid_begin (forget_mid hc.1 N) hd hu2) (rs_0 (told_ext (forget_told hc.1 so xa xb xc) hu2.1)) hu2.1.2.2.2.2.2.2 (begin_d hu2.2) (by omega) hP hD hS (Nat.lt_succ_self _) (lv_sub hl [0, 1, 2, 3, 4] rfl)
set_option maxHeartbeats 4000000 in
set_option maxRecDepth 100000 in
/-- c_why -/
theorem c_why (l : Launch) (D : va_G) (a : Nat → Nat) (kI kL kZ : ClassId) (u : sU) (N : Nat) (kd fa fb : Nat → Nat) (T : Nat) (so xa xb xc : Nat → Nat) (hc : s_cinv u N kd fa fb T so xa xb xc) (d k : Nat) (hd : d < N) (hk : k < N) : Met l yS_why (wS_why :: wA) ({ frames := 6, cells := 0, slots := 0, locals := 151 }) (va_Pc [.ref (a 0), .int (nI d), .int (nI k)] (tq_wB D vwA (sW a kI kL kZ u) (sT kI kL kZ))) (va_Qi (fun r (u' : sU) => (¬ b_Bel N kd fa fb so xa xb xc (x_inf u) d k ∧ r = -1 ∧ u'.2.2 7 = 0 ∨ b_Bel N kd fa fb so xa xb xc (x_inf u) d k ∧ r = nI (u'.2.2 7) ∧ q_wf u u' N kd fa fb so xa xb xc T d k) ∧ s_cinv u' N kd fa fb T so xa xb xc ∧ s_keep u u') (fun u' t => va_P D vwA (sW a kI kL kZ u') t.heap) (sA a)) 0 0 (sA a) := by
  refine Met.ofW (cc := bS_why) (maxL := 5) (ret := (some .int)) (by decide +kernel) rfl ?_
  intro p e s m args below meth c s₁ B1 hml hv
  obtain ⟨rfl, hP, hK, hD0⟩ := hv
  have hx := B1.exec
  have hb := B1.bytes
  have hr := B1.returns
  have hA : ∀ w ∈ wA, w.before ([.ref (a 0), .int (nI d), .int (nI k)] : List Value).toArray s = true := fun w h => atoms_spec (ws := wS_why :: wA) B1.pre w (List.mem_cons_of_mem _ h)
  have hown : s.vm.findClass RcS = some m.cls := findClass_of_methodNamed B1.named
  have hlocks := B1.notSynchronized
  have hS : va_S (sA a) s.heap s.heap [] := va_S.rf
  have hl := lv_entry ([.ref (a 0), .int (nI d), .int (nI k)]) (n := 5) (Nat.le_of_ble_eq_true rfl)
  rw [lg_entry_eq]
  generalize (lg_sl ([.ref (a 0), .int (nI d), .int (nI k)]) ++ List.replicate (5 - (lg_sl ([.ref (a 0), .int (nI d), .int (nI k)])).length) Slot.unset).toArray = ls at hl ⊢
  have hl : lv_has ls 5 [(0, .ref (a 0)), (1, .int (nI d)), (2, .int (nI k))] := hl
  refine tq_gen (fun R Q hRe hQe => ?_)
  have hRf : 6 ≤ R.frames := by rw [hRe]; exact Nat.le_of_ble_eq_true rfl
  have hRl : 151 ≤ R.locals := by rw [hRe]; exact Nat.le_of_ble_eq_true rfl
  have hRc : 0 ≤ R.cells := by rw [hRe]; exact Nat.le_of_ble_eq_true rfl
  have hRs : 0 ≤ R.slots := by rw [hRe]; exact Nat.le_of_ble_eq_true rfl
  have hD := sA_D hD0

  have hN := tm_N hc.1.1
  have hT1 := hc.2.2.1.1
  have hT2 := hc.2.2.1.2.1
  refine lv_aload_n hx hb dS_why_0 rfl (lv_at hl 0 rfl) ?_
  refine lv_iload_n hx hb dS_why_1 rfl (lv_at hl 1 rfl) ?_
  refine ks_rn ⟨hx, hb, hml, hown, hA⟩ (c_checkTerm l D a kI kL kZ u d (by omega) (by omega)) (kw_S_44 hA rfl rfl ⟨Nat.le_trans (Nat.le_of_ble_eq_true rfl) hRf, Nat.le_trans (Nat.le_of_ble_eq_true rfl) hRl⟩) hK hP hS 0 4 rfl rfl rfl hl.1 (Nat.le_of_ble_eq_true rfl) ⟨by omega, by omega⟩ dS_why_2 rfl (fun H locs hP hS => ?_)
  refine lv_aload_n hx hb dS_why_5 rfl (lv_at hl 0 rfl) ?_
  refine lv_iload_n hx hb dS_why_6 rfl (lv_at hl 2 rfl) ?_
  refine ks_rn ⟨hx, hb, hml, hown, hA⟩ (c_checkTerm l D a kI kL kZ u k (by omega) (by omega)) (kw_S_44 hA rfl rfl ⟨Nat.le_trans (Nat.le_of_ble_eq_true rfl) hRf, Nat.le_trans (Nat.le_of_ble_eq_true rfl) hRl⟩) hK hP hS 0 4 rfl rfl rfl hl.1 (Nat.le_of_ble_eq_true rfl) ⟨by omega, by omega⟩ dS_why_7 rfl (fun H locs hP hS => ?_)
  refine lv_aload_n hx hb dS_why_10 rfl (lv_at hl 0 rfl) ?_
  refine lv_iconst (v := nI 0) hx hb dS_why_11 (by decide +kernel) ?_
  refine pf_S_36 (v := .int (nI 0)) hx hb hA hown hK hP hD hS 0 rfl rfl rfl (Nat.le_of_ble_eq_true rfl) dS_why_12 (fun H locs hP hD hS => ?_)
  have hP : va_P D vwA (sW a kI kL kZ (u.1, u.2.1, va_up u.2.2 7 0)) H := hP
  have hD : va_D (sA a) (sW a kI kL kZ (u.1, u.2.1, va_up u.2.2 7 0)) := hD
  refine lv_aload_n hx hb dS_why_15 rfl (lv_at hl 0 rfl) ?_
  refine gf_S_28 (v := .ref (a 3)) hx hb hA hown hK hP 0 rfl rfl dS_why_16 ?_
  refine lv_iload_n hx hb dS_why_19 rfl (lv_at hl 1 rfl) ?_
  refine ks_v (wf := sW a kI kL kZ) (u := (u.1, u.2.1, va_up u.2.2 7 0)) ⟨hx, hb, hml, hown, hA⟩ (c_place l D a kI kL kZ (u.1, u.2.1, va_up u.2.2 7 0) N kd fa fb T so xa xb xc (cinv_7 hc) d (by omega)) (kw_S_72 hA rfl rfl ⟨Nat.le_trans (Nat.le_of_ble_eq_true rfl) hRf, Nat.le_trans (Nat.le_of_ble_eq_true rfl) hRl⟩) hK hP hD hS (fun _ h => h) (fun u' => sW_adr u') 3 3 rfl rfl rfl hl.1 (Nat.le_of_ble_eq_true rfl) ⟨by omega, by omega⟩ dS_why_20 rfl (fun u1 H locs hu1 hP hD hS => ?_)
  have hkf := keep_full hu1.1
  have hz1 : u1.2.2 2 = T := (hkf.1.2 2 (by decide) (by decide) (by decide) (by decide)).trans hT1
  refine lv_aload_n hx hb dS_why_23 rfl (lv_at hl 0 rfl) ?_
  refine gf_S_28 (v := .ref (a 3)) hx hb hA hown hK hP 0 rfl rfl dS_why_24 ?_
  refine lv_iload_n hx hb dS_why_27 rfl (lv_at hl 1 rfl) ?_
  refine lv_iload_n hx hb dS_why_28 rfl (lv_at hl 2 rfl) ?_
  refine ks_rv ⟨hx, hb, hml, hown, hA⟩ (c_covers l D a kI kL kZ u1 d k (by omega) (by omega)) (kw_S_75 hA rfl rfl ⟨Nat.le_trans (Nat.le_of_ble_eq_true rfl) hRf, Nat.le_trans (Nat.le_of_ble_eq_true rfl) hRl⟩) hK hP hS 3 3 rfl rfl rfl hl.1 (Nat.le_of_ble_eq_true rfl) ⟨by omega, by omega⟩ dS_why_29 rfl (fun H locs hP hS => ?_)
  refine tq_i (y := bI (s_cv u1 d k)) rfl ?_
  refine tq_bt hx hb dS_why_32 (tgt := 37) (by decide) (fun h32 => ?_) (fun h32 => ?_)
  · have hyb : b_Bel N kd fa fb so xa xb xc (x_inf u) d k := (full_bel (cinv_7 hc) hu1.1 hu1.2.1 hk).mp h32
    refine lv_aload_n hx hb dS_why_37 rfl (lv_at hl 0 rfl) ?_
    refine gf_S_19 (v := .ref (a 2)) hx hb hA hown hK hP 0 rfl rfl dS_why_38 ?_
    refine ks_rv ⟨hx, hb, hml, hown, hA⟩ (c_told l D a kI kL kZ u1  ) (kw_S_103 hA rfl rfl ⟨Nat.le_trans (Nat.le_of_ble_eq_true rfl) hRf, Nat.le_trans (Nat.le_of_ble_eq_true rfl) hRl⟩) hK hP hS 2 2 rfl rfl rfl hl.1 (Nat.le_of_ble_eq_true rfl) ⟨by omega, by omega⟩ dS_why_41 rfl (fun H locs hP hS => ?_)
    refine tq_i (congrArg nI hz1) ?_
    refine lv_iconst (v := nI 1) hx hb dS_why_44 (by decide +kernel) ?_
    refine tq_iadd hx hb dS_why_45 ?_
    refine lv_istore_n (lv' := [(3, .int (nI (T + 1))), (0, .ref (a 0)), (1, .int (nI d)), (2, .int (nI k))]) hx hb dS_why_46 rfl hl (by decide) rfl (fun ls hl => ?_)
    refine lv_iconst (v := nI 0) hx hb dS_why_47 (by decide +kernel) ?_
    refine lv_istore (lv' := [(4, .int (nI 0)), (3, .int (nI (T + 1))), (0, .ref (a 0)), (1, .int (nI d)), (2, .int (nI k))]) hx hb dS_why_48 hl (by decide) rfl (fun ls hl => ?_)
    have lp : ∀ (fu : Nat) (x : Int32) (n : Nat) (v : sU) (ls : Array Slot) (H : Heap) (locs : List Loc), s_cinv v N kd fa fb T so xa xb xc → s_keep u v → q_wh u v N kd fa fb so xa xb xc T d k n x → n ≤ 100 → va_P D vwA (sW a kI kL kZ v) H → va_D (sA a) (sW a kI kL kZ v) → va_S (sA a) s.heap H locs → 100 - n < fu → lv_has ls 5 [(4, .int (nI n)), (3, .int x), (0, .ref (a 0)), (1, .int (nI d)), (2, .int (nI k))] → W p l e R s m ([.ref (a 0), .int (nI d), .int (nI k)] : List Value).toArray below meth c H locs 0 0 Q (F0 m 50 ls []) := by
      intro fu
      induction fu with
      | zero => intros; omega
      | succ fu ih50 =>
        intro x n v ls H locs g1 g2 g3 g4 hP hD hS hfu hl
        refine lv_iload hx hb dS_why_50 (lv_at hl 0 rfl) ?_
        refine lv_bipush (v := nI 100) hx hb dS_why_52 (by decide +kernel) ?_
        refine tq_ge hx hb dS_why_54 (tgt := 101) (by decide) (by omega) (by omega) (fun h54 => ?_) (fun h54 => ?_)
        · have hfin := wh_fin1 hT1 hT2 g3 h54
          refine lv_aload_n hx hb dS_why_101 rfl (lv_at hl 2 rfl) ?_
          refine gf_S_36 (v := .int (nI (v.2.2 7))) hx hb hA hown hK hP 0 rfl rfl dS_why_102 ?_
          subst hQe
          exact W.iret (v := nI (v.2.2 7)) hx hb hr (fun t ht hW => ⟨⟨_, v, rfl, ⟨Or.inr ⟨hyb, rfl, hfin⟩, g1, g2⟩, tq_hp ht hP⟩, hS.F ht⟩) hS.2.2 dS_why_105
        · refine lv_iload_n hx hb dS_why_57 rfl (lv_at hl 1 rfl) ?_
          refine lv_iconst (v := (-1)) hx hb dS_why_58 (by decide +kernel) ?_
          refine lv_icmp_eq hx hb dS_why_59 (tgt := 101) (by decide) (fun h59 => ?_) (fun h59 => ?_)
          · have hfin := wh_fin2 hT2 g3 h59
            refine lv_aload_n hx hb dS_why_101 rfl (lv_at hl 2 rfl) ?_
            refine gf_S_36 (v := .int (nI (v.2.2 7))) hx hb hA hown hK hP 0 rfl rfl dS_why_102 ?_
            subst hQe
            exact W.iret (v := nI (v.2.2 7)) hx hb hr (fun t ht hW => ⟨⟨_, v, rfl, ⟨Or.inr ⟨hyb, rfl, hfin⟩, g1, g2⟩, tq_hp ht hP⟩, hS.F ht⟩) hS.2.2 dS_why_105
          · obtain ⟨L, rs, rfl, hw1, hw2⟩ := wh_L g3 h59
            have hpre := wh_pre g2 hw1 hw2
            have hw7 := hw1.1
            have hwL := hw2.2.1
            refine lv_aload_n hx hb dS_why_62 rfl (lv_at hl 2 rfl) ?_
            refine lv_iload_n hx hb dS_why_63 rfl (lv_at hl 1 rfl) ?_
            refine lv_iload_n hx hb dS_why_64 rfl (lv_at hl 3 rfl) ?_
            refine lv_iload_n hx hb dS_why_65 rfl (lv_at hl 4 rfl) ?_
            refine ks_i (wf := sW a kI kL kZ) (u := v) ⟨hx, hb, hml, hown, hA⟩ (c_reasonBefore l D a kI kL kZ v N kd fa fb T so xa xb xc g1 rs L d k hw2.1 hw2.2.1 hd hk (by omega) hpre.1 hpre.2) (kw_S_106 hA rfl rfl ⟨Nat.le_trans (Nat.le_of_ble_eq_true rfl) hRf, Nat.le_trans (Nat.le_of_ble_eq_true rfl) hRl⟩) hK hP hD hS (fun _ h => h) (fun u' => sW_adr u') 0 4 rfl rfl rfl hl.1 (Nat.le_of_ble_eq_true rfl) ⟨by omega, by omega⟩ dS_why_66 rfl (fun r2 u2 H locs hu2 hP hD hS => ?_)
            have hk2 := keep_forget g2 hu2.2.2
            refine lv_istore_n (lv' := [(3, .int r2), (4, .int (nI n)), (0, .ref (a 0)), (1, .int (nI d)), (2, .int (nI k))]) hx hb dS_why_69 rfl hl (by decide) rfl (fun ls hl => ?_)
            refine lv_iload_n hx hb dS_why_70 rfl (lv_at hl 0 rfl) ?_
            refine lv_iconst (v := (-1)) hx hb dS_why_71 (by decide +kernel) ?_
            refine lv_icmp_eq hx hb dS_why_72 (tgt := 95) (by decide) (fun h72 => ?_) (fun h72 => ?_)
            · refine lv_iinc (k := 1) (lv' := [(4, .int (nI (n + 1))), (3, .int r2), (0, .ref (a 0)), (1, .int (nI d)), (2, .int (nI k))]) hx hb dS_why_95 hl rfl (nI_1 _) (by decide) rfl (fun ls hl => ?_)
              refine lv_goto hx hb dS_why_98 (tgt := 50) (by decide) ?_
              exact ih50 r2 (n + 1) u2 ls H locs hu2.2.1 hk2.1 (wh_stop hT1 hT2 g2 hw1 hw2 hu2.1 hk2.2.1 hk2.2.2 h72) (by omega) hP hD hS (by omega) (lv_sub hl [0, 1, 2, 3, 4] rfl)
            · obtain ⟨q, hq1, hq2, hq3, hq4, hq5, rfl⟩ := wh_q hu2.1 h72
              have hw8 := hk2.2.1
              refine lv_aload_n hx hb dS_why_75 rfl (lv_at hl 2 rfl) ?_
              refine gf_S_32 (v := .ref (a 4)) hx hb hA hown hK hP 0 rfl rfl dS_why_76 ?_
              refine lv_aload_n hx hb dS_why_79 rfl (lv_at hl 2 rfl) ?_
              refine gf_S_36 (v := .int (nI (u2.2.2 7))) hx hb hA hown hK hP 0 rfl rfl dS_why_80 ?_
              refine lv_iload_n hx hb dS_why_83 rfl (lv_at hl 0 rfl) ?_
              refine tq_iast hx hb hK hP hD hS 4 0 rfl rfl (by omega) (by omega) dS_why_84 (fun H locs hP hD hS => ?_)
              have hP : va_P D vwA (sW a kI kL kZ (u2.1, va_up u2.2.1 9 (upd (u2.2.1 9) (u2.2.2 7) (nI q)), u2.2.2)) H := hP
              have hD : va_D (sA a) (sW a kI kL kZ (u2.1, va_up u2.2.1 9 (upd (u2.2.1 9) (u2.2.2 7) (nI q)), u2.2.2)) := hD
              refine lv_aload_n hx hb dS_why_85 rfl (lv_at hl 2 rfl) ?_
              refine lv_dup hx hb dS_why_86 rfl ?_
              refine gf_S_36 (v := .int (nI (u2.2.2 7))) hx hb hA hown hK hP 0 rfl rfl dS_why_87 ?_
              refine lv_iconst (v := nI 1) hx hb dS_why_90 (by decide +kernel) ?_
              refine tq_iadd hx hb dS_why_91 ?_
              refine pf_S_36 (v := .int (nI ((u2.2.2 7) + 1))) hx hb hA hown hK hP hD hS 0 rfl rfl rfl (Nat.le_of_ble_eq_true rfl) dS_why_92 (fun H locs hP hD hS => ?_)
              have hP : va_P D vwA (sW a kI kL kZ (u2.1, va_up u2.2.1 9 (upd (u2.2.1 9) (u2.2.2 7) (nI q)), va_up u2.2.2 7 ((u2.2.2 7) + 1))) H := hP
              have hD : va_D (sA a) (sW a kI kL kZ (u2.1, va_up u2.2.1 9 (upd (u2.2.1 9) (u2.2.2 7) (nI q)), va_up u2.2.2 7 ((u2.2.2 7) + 1))) := hD
              refine lv_iinc (k := 1) (lv' := [(4, .int (nI (n + 1))), (3, .int (nI q)), (0, .ref (a 0)), (1, .int (nI d)), (2, .int (nI k))]) hx hb dS_why_95 hl rfl (nI_1 _) (by decide) rfl (fun ls hl => ?_)
              refine lv_goto hx hb dS_why_98 (tgt := 50) (by decide) ?_
              exact ih50 (nI q) (n + 1) (u2.1, va_up u2.2.1 9 (upd (u2.2.1 9) (u2.2.2 7) (nI q)), va_up u2.2.2 7 ((u2.2.2 7) + 1)) ls H locs (cinv_79 hu2.2.1) (keep_79 hk2.1) (wh_next hT1 g2 hw1 hw2 hk2.2.1 hk2.2.2 hq1 hq2 hq3 hq4 hq5) (by omega) hP hD hS (by omega) (lv_sub hl [0, 1, 2, 3, 4] rfl)
    exact lp _ (nI (T + 1)) 0 u1 ls _ _ (full_cinv (cinv_7 hc) hu1.1) hkf.1 (Or.inl ⟨T + 1, fun _ => 0, rfl, ⟨hkf.2, fun j z => absurd z (Nat.not_lt_zero j), rfl⟩, wy_0 hT1 ((full_bel (cinv_7 hc) hu1.1 hu1.2.1 hk).mp h32)⟩) (by omega) hP hD hS (Nat.lt_succ_self _) (lv_sub hl [0, 1, 2, 3, 4] rfl)
  · have hnb : ¬ b_Bel N kd fa fb so xa xb xc (x_inf u) d k := fun z => by rw [show s_cv u1 d k = true from (full_bel (cinv_7 hc) hu1.1 hu1.2.1 hk).mpr z] at h32; cases h32
    refine lv_iconst (v := (-1)) hx hb dS_why_35 (by decide +kernel) ?_
    subst hQe
    exact W.iret (v := (-1)) hx hb hr (fun t ht hW => ⟨⟨_, u1, rfl, ⟨Or.inl ⟨hnb, rfl, hkf.2⟩, full_cinv (cinv_7 hc) hu1.1, hkf.1⟩, tq_hp ht hP⟩, hS.F ht⟩) hS.2.2 dS_why_36
