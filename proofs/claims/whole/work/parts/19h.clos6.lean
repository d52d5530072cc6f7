/-! The contract of Closure.saturate. Written by wip/whole/gen/genclos6.py. -/
set_option maxHeartbeats 4000000 in
set_option maxRecDepth 100000 in
/-- Closure.saturate -/
theorem c_saturate (l : Launch) (D : va_G) (a : Nat → Nat) (kI kL kZ : ClassId) (u : sU) (N : Nat) (kd fa fb : Nat → Nat) (hbas0 : s_bas u N kd fa fb) (hsat : s_sat u N kd fa fb) (hfr : ∀ y b, u.1 2 y b = true → u.1 3 0 y = true) : Met l yC_saturate (wC_saturate :: wA) ({ frames := 4, cells := 0, slots := 0, locals := 102 }) (va_Pc [.ref (a 3)] (tq_wB D vwA (sW a kI kL kZ u) (sT kI kL kZ))) (va_Qv (fun (u' : sU) => s_done u u' N kd fa fb) (fun u' t => va_P D vwA (sW a kI kL kZ u') t.heap) (sA a)) 0 0 (sA a) := by
  refine Met.ofW (cc := bC_saturate) (maxL := 6) (ret := none) (by decide +kernel) rfl ?_
  intro p e s m args below meth c s₁ B1 hml hv
  obtain ⟨rfl, hP, hK, hD0⟩ := hv
  have hx := B1.exec
  have hb := B1.bytes
  have hr := B1.returns
  have hA : ∀ w ∈ wA, w.before ([.ref (a 3)] : List Value).toArray s = true := fun w h => atoms_spec (ws := wC_saturate :: wA) B1.pre w (List.mem_cons_of_mem _ h)
  have hown : s.vm.findClass RcC = some m.cls := findClass_of_methodNamed B1.named
  have hlocks := B1.notSynchronized
  have hS : va_S (sA a) s.heap s.heap [] := va_S.rf
  have hl := lv_entry ([.ref (a 3)]) (n := 6) (Nat.le_of_ble_eq_true rfl)
  rw [lg_entry_eq]
  generalize (lg_sl ([.ref (a 3)]) ++ List.replicate (6 - (lg_sl ([.ref (a 3)])).length) Slot.unset).toArray = ls at hl ⊢
  have hl : lv_has ls 6 [(0, .ref (a 3))] := hl
  refine tq_gen (fun R Q hRe hQe => ?_)
  have hRf : 4 ≤ R.frames := by rw [hRe]; exact Nat.le_of_ble_eq_true rfl
  have hRl : 102 ≤ R.locals := by rw [hRe]; exact Nat.le_of_ble_eq_true rfl
  have hRc : 0 ≤ R.cells := by rw [hRe]; exact Nat.le_of_ble_eq_true rfl
  have hRs : 0 ≤ R.slots := by rw [hRe]; exact Nat.le_of_ble_eq_true rfl
  have hD := sA_D hD0
  have htm := hbas0.1
  have htr := hbas0.2.1
  have hN := tm_N htm
  refine lv_iconst (v := nI 0) hx hb dC_saturate_0 (by decide +kernel) ?_
  refine lv_istore_n (lv' := [(1, .int (nI 0)), (0, .ref (a 3))]) hx hb dC_saturate_1 rfl hl (by decide) rfl (fun ls hl => ?_)
  have lp : ∀ (fu : Nat) (n : Nat) (v : sU) (ls : Array Slot) (H : Heap) (locs : List Loc), s_out u v N kd fa fb (179200 - n) → n ≤ 179200 → va_P D vwA (sW a kI kL kZ v) H → va_D (sA a) (sW a kI kL kZ v) → va_S (sA a) s.heap H locs → 179200 - n < fu → lv_has ls 6 [(1, .int (nI n)), (0, .ref (a 3))] → W p l e R s m ([.ref (a 3)] : List Value).toArray below meth c H locs 0 0 Q (F0 m 2 ls []) := by
    intro fu
    induction fu with
    | zero => intros; omega
    | succ fu ih2 =>
      intro n v ls H locs g1 g2 hP hD hS hfu hl
      refine lv_iload_n hx hb dC_saturate_2 rfl (lv_at hl 0 rfl) ?_
      refine lv_ldc hx hb hown (hA _ mct_C_119) dC_saturate_3 ?_
      refine tq_i (show (179200 : Int32) = nI 179200 from (by decide +kernel)) ?_
      refine tq_ge hx hb dC_saturate_5 (tgt := 197) (by decide) (by omega) (by omega) (fun h5 => ?_) (fun h5 => ?_)
      · subst hQe
        exact W.vret hx hb hr (fun t ht hW => ⟨⟨v, rfl, out_done g1 (fun y hy => mu_0 (by have := g1.2.2.2.1; omega) hy), tq_hp ht hP⟩, hS.F ht⟩) hS.2.2 dC_saturate_197
      · refine lv_aload_n hx hb dC_saturate_8 rfl (lv_at hl 1 rfl) ?_
        refine gf_C_34 (v := .ref (a 20)) hx hb hA hown hK hP 3 rfl rfl dC_saturate_9 ?_
        refine lv_iconst (v := nI 0) hx hb dC_saturate_12 (by decide +kernel) ?_
        refine lv_iconst (v := nI 0) hx hb dC_saturate_13 (by decide +kernel) ?_
        refine k_next ⟨hx, hb, hml, hown, hA⟩ (kw_C_69 hA rfl rfl ⟨Nat.le_trans (Nat.le_of_ble_eq_true rfl) hRf, Nat.le_trans (Nat.le_of_ble_eq_true rfl) hRl⟩) hK hP hS 20 21 1 rfl rfl rfl (by decide) (by omega) (by decide) (by decide) (by omega) (by omega) hl.1 (Nat.le_of_ble_eq_true rfl) ⟨by omega, by omega⟩ dC_saturate_14 (fun r1 H locs hr1 hP hS => ?_)
        refine lv_istore_n (lv' := [(2, .int (nI r1)), (1, .int (nI n)), (0, .ref (a 3))]) hx hb dC_saturate_17 rfl hl (by decide) rfl (fun ls hl => ?_)
        have hlt1 := hr1.2.1
        refine lv_iload_n hx hb dC_saturate_18 rfl (lv_at hl 0 rfl) ?_
        refine lv_sipush (v := nI 1120) hx hb dC_saturate_19 (by decide +kernel) ?_
        refine tq_lt hx hb dC_saturate_22 (tgt := 26) (by decide) (by omega) (by omega) (fun h22 => ?_) (fun h22 => ?_)
        · have hfr1 := hr1.2.2.2 h22
          obtain ⟨x, i, hi7, rfl⟩ : ∃ x i, i < 7 ∧ r1 = x * 7 + i := ⟨r1 / 7, r1 % 7, Nat.mod_lt _ (by decide), by omega⟩
          refine lv_aload_n hx hb dC_saturate_26 rfl (lv_at hl 2 rfl) ?_
          refine gf_C_34 (v := .ref (a 20)) hx hb hA hown hK hP 3 rfl rfl dC_saturate_27 ?_
          refine lv_iconst (v := nI 0) hx hb dC_saturate_30 (by decide +kernel) ?_
          refine lv_iload_n hx hb dC_saturate_31 rfl (lv_at hl 0 rfl) ?_
          refine k_drop ⟨hx, hb, hml, hown, hA⟩ (kw_C_120 hA rfl rfl ⟨Nat.le_trans (Nat.le_of_ble_eq_true rfl) hRf, Nat.le_trans (Nat.le_of_ble_eq_true rfl) hRl⟩) hK hP hD hS 20 21 1 rfl rfl (by decide) rfl (by omega) (by omega) (by decide) (by decide) hl.1 (Nat.le_of_ble_eq_true rfl) ⟨by omega, by omega⟩ dC_saturate_32 (fun H locs hP hD hS => ?_)
          have hP : va_P D vwA (sW a kI kL kZ (va_up v.1 3 (tm_drop (v.1 3) 0 (x * 7 + i)), v.2.1, v.2.2)) H := hP
          have hD : va_D (sA a) (sW a kI kL kZ (va_up v.1 3 (tm_drop (v.1 3) 0 (x * 7 + i)), v.2.1, v.2.2)) := hD
          refine lv_iload_n hx hb dC_saturate_35 rfl (lv_at hl 0 rfl) ?_
          refine lv_bipush (v := nI 7) hx hb dC_saturate_36 (by decide +kernel) ?_
          refine tq_idiv hx hb dC_saturate_38 (by omega) (by omega) (by omega) ?_
          refine tq_i (congrArg nI (show (x * 7 + i) / 7 = x by omega)) ?_
          refine lv_istore_n (lv' := [(3, .int (nI x)), (2, .int (nI (x * 7 + i))), (1, .int (nI n)), (0, .ref (a 3))]) hx hb dC_saturate_39 rfl hl (by decide) rfl (fun ls hl => ?_)
          refine lv_iload_n hx hb dC_saturate_40 rfl (lv_at hl 1 rfl) ?_
          refine lv_bipush (v := nI 7) hx hb dC_saturate_41 (by decide +kernel) ?_
          refine tq_irem hx hb dC_saturate_43 (by omega) (by omega) (by omega) ?_
          refine tq_i (congrArg nI (show (x * 7 + i) % 7 = i by omega)) ?_
          refine lv_istore (lv' := [(4, .int (nI i)), (3, .int (nI x)), (2, .int (nI (x * 7 + i))), (1, .int (nI n)), (0, .ref (a 3))]) hx hb dC_saturate_44 hl (by decide) rfl (fun ls hl => ?_)
          refine lv_aload_n hx hb dC_saturate_46 rfl (lv_at hl 4 rfl) ?_
          refine gf_C_31 (v := .ref (a 18)) hx hb hA hown hK hP 3 rfl rfl dC_saturate_47 ?_
          refine lv_iload_n hx hb dC_saturate_50 rfl (lv_at hl 2 rfl) ?_
          refine lv_iconst (v := nI 0) hx hb dC_saturate_51 (by decide +kernel) ?_
          refine k_next ⟨hx, hb, hml, hown, hA⟩ (kw_C_69 hA rfl rfl ⟨Nat.le_trans (Nat.le_of_ble_eq_true rfl) hRf, Nat.le_trans (Nat.le_of_ble_eq_true rfl) hRl⟩) hK hP hS 18 19 1 rfl rfl rfl (by decide) (by omega) (by decide) (by decide) (by omega) (by omega) hl.1 (Nat.le_of_ble_eq_true rfl) ⟨by omega, by omega⟩ dC_saturate_52 (fun r2 H locs hr2 hP hS => ?_)
          refine lv_istore (lv' := [(5, .int (nI r2)), (4, .int (nI i)), (3, .int (nI x)), (2, .int (nI (x * 7 + i))), (1, .int (nI n)), (0, .ref (a 3))]) hx hb dC_saturate_55 hl (by decide) rfl (fun ls hl => ?_)
          have lp : ∀ (fu : Nat) (r : Nat) (v2 : sU) (ls : Array Slot) (H : Heap) (locs : List Loc), s_in u v2 N kd fa fb (x * 7 + i) r (179199 - n) → (r < 160 → v2.1 2 (x * 7 + i) r = true) → r < 224 → va_P D vwA (sW a kI kL kZ v2) H → va_D (sA a) (sW a kI kL kZ v2) → va_S (sA a) s.heap H locs → 224 - r < fu → lv_has ls 6 [(5, .int (nI r)), (4, .int (nI i)), (3, .int (nI x)), (2, .int (nI (x * 7 + i))), (1, .int (nI n)), (0, .ref (a 3))] → W p l e R s m ([.ref (a 3)] : List Value).toArray below meth c H locs 0 0 Q (F0 m 57 ls []) := by
            intro fu
            induction fu with
            | zero => intros; omega
            | succ fu ih57 =>
              intro r v2 ls H locs k1 k2 k3 hP hD hS hfu hl
              refine lv_iload hx hb dC_saturate_57 (lv_at hl 0 rfl) ?_
              refine lv_sipush (v := nI 160) hx hb dC_saturate_59 (by decide +kernel) ?_
              refine tq_ge hx hb dC_saturate_62 (tgt := 191) (by decide) (by omega) (by omega) (fun h62 => ?_) (fun h62 => ?_)
              · refine lv_iinc (k := 4) (lv' := [(1, .int (nI (n + 1))), (5, .int (nI r)), (4, .int (nI i)), (3, .int (nI x)), (2, .int (nI (x * 7 + i))), (0, .ref (a 3))]) hx hb dC_saturate_191 hl rfl (nI_1 _) (by decide) rfl (fun ls hl => ?_)
                refine lv_goto hx hb dC_saturate_194 (tgt := 2) (by decide) ?_
                exact ih2 (n + 1) v2 ls H locs (by have h9 := in_exit k1 h62; rw [show 179200 - (n + 1) = 179199 - n by omega]; exact h9) (by omega) hP hD hS (by omega) (lv_sub hl [0, 5] rfl)
              · have hq := k2 h62
                have hbas := k1.1
                have hfx := hbas.2.2.2.1 _ _ hq
                have hrg := hbas.2.2.1 _ _ hfx
                have hx1 : x < 160 := by omega
                refine lv_aload_n hx hb dC_saturate_65 rfl (lv_at hl 5 rfl) ?_
                refine gf_C_31 (v := .ref (a 18)) hx hb hA hown hK hP 3 rfl rfl dC_saturate_66 ?_
                refine lv_iload_n hx hb dC_saturate_69 rfl (lv_at hl 3 rfl) ?_
                refine lv_iload hx hb dC_saturate_70 (lv_at hl 0 rfl) ?_
                refine k_drop ⟨hx, hb, hml, hown, hA⟩ (kw_C_120 hA rfl rfl ⟨Nat.le_trans (Nat.le_of_ble_eq_true rfl) hRf, Nat.le_trans (Nat.le_of_ble_eq_true rfl) hRl⟩) hK hP hD hS 18 19 1 rfl rfl (by decide) rfl (by omega) (by omega) (by decide) (by decide) hl.1 (Nat.le_of_ble_eq_true rfl) ⟨by omega, by omega⟩ dC_saturate_72 (fun H locs hP hD hS => ?_)
                have hP : va_P D vwA (sW a kI kL kZ (va_up v2.1 2 (tm_drop (v2.1 2) (x * 7 + i) r), v2.2.1, v2.2.2)) H := hP
                have hD : va_D (sA a) (sW a kI kL kZ (va_up v2.1 2 (tm_drop (v2.1 2) (x * 7 + i) r), v2.2.1, v2.2.2)) := hD
                have htr : s_tr (va_up v2.1 2 (tm_drop (v2.1 2) (x * 7 + i) r), v2.2.1, v2.2.2) := hbas.2.1
                have htm : s_tm (va_up v2.1 2 (tm_drop (v2.1 2) (x * 7 + i) r), v2.2.1, v2.2.2) N kd fa fb := hbas.1
                refine lv_iload hx hb dC_saturate_75 (lv_at hl 1 rfl) ?_
                refine lv_bipush (v := nI 6) hx hb dC_saturate_77 (by decide +kernel) ?_
                refine tq_ne hx hb dC_saturate_79 (tgt := 96) (by decide) (by omega) (by omega) (fun h79 => ?_) (fun h79 => ?_)
                · refine lv_iload hx hb dC_saturate_96 (lv_at hl 1 rfl) ?_
                  refine lv_bipush (v := nI 6) hx hb dC_saturate_98 (by decide +kernel) ?_
                  refine tq_ne hx hb dC_saturate_100 (tgt := 148) (by decide) (by omega) (by omega) (fun h100 => ?_) (fun h100 => ?_)
                  · refine lv_aload_n hx hb dC_saturate_148 rfl (lv_at hl 5 rfl) ?_
                    refine lv_iload_n hx hb dC_saturate_149 rfl (lv_at hl 2 rfl) ?_
                    refine ks_rv ⟨hx, hb, hml, hown, hA⟩ (c_isEmpty l D a kI kL kZ (va_up v2.1 2 (tm_drop (v2.1 2) (x * 7 + i) r), v2.2.1, v2.2.2) x (by omega)) (kw_C_65 hA rfl rfl ⟨Nat.le_trans (Nat.le_of_ble_eq_true rfl) hRf, Nat.le_trans (Nat.le_of_ble_eq_true rfl) hRl⟩) hK hP hS 3 3 rfl rfl rfl hl.1 (Nat.le_of_ble_eq_true rfl) ⟨by omega, by omega⟩ dC_saturate_150 rfl (fun H locs hP hS => ?_)
                    refine tq_i (y := bI ((v2.1 0) (x * 7 + 6) 1)) rfl ?_
                    refine tq_bt hx hb dC_saturate_153 (tgt := 174) (by decide) (fun h153 => ?_) (fun h153 => ?_)
                    · refine lv_aload_n hx hb dC_saturate_174 rfl (lv_at hl 5 rfl) ?_
                      refine gf_C_31 (v := .ref (a 18)) hx hb hA hown hK hP 3 rfl rfl dC_saturate_175 ?_
                      refine lv_iload_n hx hb dC_saturate_178 rfl (lv_at hl 3 rfl) ?_
                      refine lv_iload hx hb dC_saturate_179 (lv_at hl 0 rfl) ?_
                      refine lv_iconst (v := nI 1) hx hb dC_saturate_181 (by decide +kernel) ?_
                      refine tq_iadd hx hb dC_saturate_182 ?_
                      refine k_next ⟨hx, hb, hml, hown, hA⟩ (kw_C_69 hA rfl rfl ⟨Nat.le_trans (Nat.le_of_ble_eq_true rfl) hRf, Nat.le_trans (Nat.le_of_ble_eq_true rfl) hRl⟩) hK hP hS 18 19 1 rfl rfl rfl (by decide) (by omega) (by decide) (by decide) (by omega) (by omega) hl.1 (Nat.le_of_ble_eq_true rfl) ⟨by omega, by omega⟩ dC_saturate_183 (fun r3 H locs hr3 hP hS => ?_)
                      refine lv_istore (lv' := [(5, .int (nI r3)), (4, .int (nI i)), (3, .int (nI x)), (2, .int (nI (x * 7 + i))), (1, .int (nI n)), (0, .ref (a 3))]) hx hb dC_saturate_186 hl (by decide) rfl (fun ls hl => ?_)
                      refine lv_goto hx hb dC_saturate_188 (tgt := 57) (by decide) ?_
                      have hge := hr3.1
                      have hlt := hr3.2.1
                      exact ih57 r3 (va_up v2.1 2 (tm_drop (v2.1 2) (x * 7 + i) r), v2.2.1, v2.2.2) ls H locs (in_step hi7 k1 (new_D hi7 hbas h153 (fun z => h79 z.1)) hr3) hr3.2.2.2 (by omega) hP hD hS (by omega) (lv_sub hl [0, 1, 2, 3, 4, 5] rfl)
                    · refine lv_aload_n hx hb dC_saturate_156 rfl (lv_at hl 5 rfl) ?_
                      refine lv_iload_n hx hb dC_saturate_157 rfl (lv_at hl 2 rfl) ?_
                      refine lv_iload hx hb dC_saturate_158 (lv_at hl 1 rfl) ?_
                      refine lv_iload hx hb dC_saturate_160 (lv_at hl 0 rfl) ?_
                      refine ks_v (wf := sW a kI kL kZ) (u := (va_up v2.1 2 (tm_drop (v2.1 2) (x * 7 + i) r), v2.2.1, v2.2.2)) ⟨hx, hb, hml, hown, hA⟩ (c_drawFromLink l D a kI kL kZ (va_up v2.1 2 (tm_drop (v2.1 2) (x * 7 + i) r), v2.2.1, v2.2.2) N kd fa fb htm htr x i r (by omega) (by omega) (by omega) (fun z => (hbas.2.2.2.2.2.2 r 6 r (by decide) z).2)) (kw_C_139 hA rfl rfl ⟨Nat.le_trans (Nat.le_of_ble_eq_true rfl) hRf, Nat.le_trans (Nat.le_of_ble_eq_true rfl) hRl⟩) hK hP hD hS (fun _ h => h) (fun u' => sW_adr u') 3 3 rfl rfl rfl hl.1 (Nat.le_of_ble_eq_true rfl) ⟨by omega, by omega⟩ dC_saturate_162 rfl (fun u4 H locs hu4 hP hD hS => ?_)
                      refine lv_aload_n hx hb dC_saturate_165 rfl (lv_at hl 5 rfl) ?_
                      refine lv_iload_n hx hb dC_saturate_166 rfl (lv_at hl 2 rfl) ?_
                      refine lv_iload hx hb dC_saturate_167 (lv_at hl 1 rfl) ?_
                      refine lv_iload hx hb dC_saturate_169 (lv_at hl 0 rfl) ?_
                      refine ks_v (wf := sW a kI kL kZ) (u := u4) ⟨hx, hb, hml, hown, hA⟩ (c_drawFromChains l D a kI kL kZ u4 x i r (tr_ext htr hu4.1) (by omega) (by omega) (by omega)) (kw_C_142 hA rfl rfl ⟨Nat.le_trans (Nat.le_of_ble_eq_true rfl) hRf, Nat.le_trans (Nat.le_of_ble_eq_true rfl) hRl⟩) hK hP hD hS (fun _ h => h) (fun u' => sW_adr u') 3 3 rfl rfl rfl hl.1 (Nat.le_of_ble_eq_true rfl) ⟨by omega, by omega⟩ dC_saturate_171 rfl (fun u5 H locs hu5 hP hD hS => ?_)
                      refine lv_aload_n hx hb dC_saturate_174 rfl (lv_at hl 5 rfl) ?_
                      refine gf_C_31 (v := .ref (a 18)) hx hb hA hown hK hP 3 rfl rfl dC_saturate_175 ?_
                      refine lv_iload_n hx hb dC_saturate_178 rfl (lv_at hl 3 rfl) ?_
                      refine lv_iload hx hb dC_saturate_179 (lv_at hl 0 rfl) ?_
                      refine lv_iconst (v := nI 1) hx hb dC_saturate_181 (by decide +kernel) ?_
                      refine tq_iadd hx hb dC_saturate_182 ?_
                      refine k_next ⟨hx, hb, hml, hown, hA⟩ (kw_C_69 hA rfl rfl ⟨Nat.le_trans (Nat.le_of_ble_eq_true rfl) hRf, Nat.le_trans (Nat.le_of_ble_eq_true rfl) hRl⟩) hK hP hS 18 19 1 rfl rfl rfl (by decide) (by omega) (by decide) (by decide) (by omega) (by omega) hl.1 (Nat.le_of_ble_eq_true rfl) ⟨by omega, by omega⟩ dC_saturate_183 (fun r6 H locs hr6 hP hS => ?_)
                      refine lv_istore (lv' := [(5, .int (nI r6)), (4, .int (nI i)), (3, .int (nI x)), (2, .int (nI (x * 7 + i))), (1, .int (nI n)), (0, .ref (a 3))]) hx hb dC_saturate_186 hl (by decide) rfl (fun ls hl => ?_)
                      refine lv_goto hx hb dC_saturate_188 (tgt := 57) (by decide) ?_
                      have hge := hr6.1
                      have hlt := hr6.2.1
                      exact ih57 r6 u5 ls H locs (in_step hi7 k1 (new_C (by omega) hbas hfx hu4 hu5) hr6) hr6.2.2.2 (by omega) hP hD hS (by omega) (lv_sub hl [0, 1, 2, 3, 4, 5] rfl)
                  · exact absurd h100 h79
                · refine lv_iload hx hb dC_saturate_82 (lv_at hl 0 rfl) ?_
                  refine lv_iconst (v := nI 1) hx hb dC_saturate_84 (by decide +kernel) ?_
                  refine tq_ne hx hb dC_saturate_85 (tgt := 96) (by decide) (by omega) (by omega) (fun h85 => ?_) (fun h85 => ?_)
                  · refine lv_iload hx hb dC_saturate_96 (lv_at hl 1 rfl) ?_
                    refine lv_bipush (v := nI 6) hx hb dC_saturate_98 (by decide +kernel) ?_
                    refine tq_ne hx hb dC_saturate_100 (tgt := 148) (by decide) (by omega) (by omega) (fun h100 => ?_) (fun h100 => ?_)
                    · exact absurd h79 h100
                    · refine lv_aload_n hx hb dC_saturate_103 rfl (lv_at hl 5 rfl) ?_
                      refine lv_iload_n hx hb dC_saturate_104 rfl (lv_at hl 2 rfl) ?_
                      refine ks_rv ⟨hx, hb, hml, hown, hA⟩ (c_isEmpty l D a kI kL kZ (va_up v2.1 2 (tm_drop (v2.1 2) (x * 7 + i) r), v2.2.1, v2.2.2) x (by omega)) (kw_C_65 hA rfl rfl ⟨Nat.le_trans (Nat.le_of_ble_eq_true rfl) hRf, Nat.le_trans (Nat.le_of_ble_eq_true rfl) hRl⟩) hK hP hS 3 3 rfl rfl rfl hl.1 (Nat.le_of_ble_eq_true rfl) ⟨by omega, by omega⟩ dC_saturate_105 rfl (fun H locs hP hS => ?_)
                      refine tq_i (y := bI ((v2.1 0) (x * 7 + 6) 1)) rfl ?_
                      refine tq_bt hx hb dC_saturate_108 (tgt := 148) (by decide) (fun h108 => ?_) (fun h108 => ?_)
                      · refine lv_aload_n hx hb dC_saturate_148 rfl (lv_at hl 5 rfl) ?_
                        refine lv_iload_n hx hb dC_saturate_149 rfl (lv_at hl 2 rfl) ?_
                        refine ks_rv ⟨hx, hb, hml, hown, hA⟩ (c_isEmpty l D a kI kL kZ (va_up v2.1 2 (tm_drop (v2.1 2) (x * 7 + i) r), v2.2.1, v2.2.2) x (by omega)) (kw_C_65 hA rfl rfl ⟨Nat.le_trans (Nat.le_of_ble_eq_true rfl) hRf, Nat.le_trans (Nat.le_of_ble_eq_true rfl) hRl⟩) hK hP hS 3 3 rfl rfl rfl hl.1 (Nat.le_of_ble_eq_true rfl) ⟨by omega, by omega⟩ dC_saturate_150 rfl (fun H locs hP hS => ?_)
                        refine tq_i (y := bI ((v2.1 0) (x * 7 + 6) 1)) rfl ?_
                        refine tq_bt hx hb dC_saturate_153 (tgt := 174) (by decide) (fun h153 => ?_) (fun h153 => ?_)
                        · refine lv_aload_n hx hb dC_saturate_174 rfl (lv_at hl 5 rfl) ?_
                          refine gf_C_31 (v := .ref (a 18)) hx hb hA hown hK hP 3 rfl rfl dC_saturate_175 ?_
                          refine lv_iload_n hx hb dC_saturate_178 rfl (lv_at hl 3 rfl) ?_
                          refine lv_iload hx hb dC_saturate_179 (lv_at hl 0 rfl) ?_
                          refine lv_iconst (v := nI 1) hx hb dC_saturate_181 (by decide +kernel) ?_
                          refine tq_iadd hx hb dC_saturate_182 ?_
                          refine k_next ⟨hx, hb, hml, hown, hA⟩ (kw_C_69 hA rfl rfl ⟨Nat.le_trans (Nat.le_of_ble_eq_true rfl) hRf, Nat.le_trans (Nat.le_of_ble_eq_true rfl) hRl⟩) hK hP hS 18 19 1 rfl rfl rfl (by decide) (by omega) (by decide) (by decide) (by omega) (by omega) hl.1 (Nat.le_of_ble_eq_true rfl) ⟨by omega, by omega⟩ dC_saturate_183 (fun r7 H locs hr7 hP hS => ?_)
                          refine lv_istore (lv' := [(5, .int (nI r7)), (4, .int (nI i)), (3, .int (nI x)), (2, .int (nI (x * 7 + i))), (1, .int (nI n)), (0, .ref (a 3))]) hx hb dC_saturate_186 hl (by decide) rfl (fun ls hl => ?_)
                          refine lv_goto hx hb dC_saturate_188 (tgt := 57) (by decide) ?_
                          have hge := hr7.1
                          have hlt := hr7.2.1
                          exact ih57 r7 (va_up v2.1 2 (tm_drop (v2.1 2) (x * 7 + i) r), v2.2.1, v2.2.2) ls H locs (in_step hi7 k1 (new_D hi7 hbas h108 (fun z => h85 z.2)) hr7) hr7.2.2.2 (by omega) hP hD hS (by omega) (lv_sub hl [0, 1, 2, 3, 4, 5] rfl)
                        · rw [h108] at h153; cases h153
                      · refine lv_aload_n hx hb dC_saturate_111 rfl (lv_at hl 5 rfl) ?_
                        refine lv_iload_n hx hb dC_saturate_112 rfl (lv_at hl 2 rfl) ?_
                        refine lv_bipush (v := nI 6) hx hb dC_saturate_113 (by decide +kernel) ?_
                        refine lv_aload_n hx hb dC_saturate_115 rfl (lv_at hl 5 rfl) ?_
                        refine gf_C_37 (v := .ref (a 22)) hx hb hA hown hK hP 3 rfl rfl dC_saturate_116 ?_
                        refine lv_iload hx hb dC_saturate_119 (lv_at hl 0 rfl) ?_
                        refine ks_v (wf := sW a kI kL kZ) (u := (va_up v2.1 2 (tm_drop (v2.1 2) (x * 7 + i) r), v2.2.1, v2.2.2)) ⟨hx, hb, hml, hown, hA⟩ (c_addAll4 l D a kI kL kZ (va_up v2.1 2 (tm_drop (v2.1 2) (x * 7 + i) r), v2.2.1, v2.2.2) x 6 r (by omega) (by omega) (by omega)) (kw_C_126 hA rfl rfl ⟨Nat.le_trans (Nat.le_of_ble_eq_true rfl) hRf, Nat.le_trans (Nat.le_of_ble_eq_true rfl) hRl⟩) hK hP hD hS (fun _ h => h) (fun u' => sW_adr u') 3 3 rfl rfl rfl hl.1 (Nat.le_of_ble_eq_true rfl) ⟨by omega, by omega⟩ dC_saturate_121 rfl (fun u8 H locs hu8 hP hD hS => ?_)
                        refine lv_aload_n hx hb dC_saturate_124 rfl (lv_at hl 5 rfl) ?_
                        refine lv_iload_n hx hb dC_saturate_125 rfl (lv_at hl 2 rfl) ?_
                        refine lv_iload hx hb dC_saturate_126 (lv_at hl 0 rfl) ?_
                        refine ks_v (wf := sW a kI kL kZ) (u := u8) ⟨hx, hb, hml, hown, hA⟩ (c_drawParts l D a kI kL kZ u8 N kd fa fb (tm_ext htm hu8.1) (tr_ext htr hu8.1) x r (by omega) (by omega)) (kw_C_130 hA rfl rfl ⟨Nat.le_trans (Nat.le_of_ble_eq_true rfl) hRf, Nat.le_trans (Nat.le_of_ble_eq_true rfl) hRl⟩) hK hP hD hS (fun _ h => h) (fun u' => sW_adr u') 3 3 rfl rfl rfl hl.1 (Nat.le_of_ble_eq_true rfl) ⟨by omega, by omega⟩ dC_saturate_128 rfl (fun u9 H locs hu9 hP hD hS => ?_)
                        refine lv_aload_n hx hb dC_saturate_131 rfl (lv_at hl 5 rfl) ?_
                        refine lv_iload_n hx hb dC_saturate_132 rfl (lv_at hl 2 rfl) ?_
                        refine lv_iload hx hb dC_saturate_133 (lv_at hl 0 rfl) ?_
                        refine ks_v (wf := sW a kI kL kZ) (u := u9) ⟨hx, hb, hml, hown, hA⟩ (c_drawBoths l D a kI kL kZ u9 N kd fa fb (tm_ext (tm_ext htm hu8.1) hu9.1) (tr_ext (tr_ext htr hu8.1) hu9.1) x r (by omega) (by omega)) (kw_C_133 hA rfl rfl ⟨Nat.le_trans (Nat.le_of_ble_eq_true rfl) hRf, Nat.le_trans (Nat.le_of_ble_eq_true rfl) hRl⟩) hK hP hD hS (fun _ h => h) (fun u' => sW_adr u') 3 3 rfl rfl rfl hl.1 (Nat.le_of_ble_eq_true rfl) ⟨by omega, by omega⟩ dC_saturate_135 rfl (fun u10 H locs hu10 hP hD hS => ?_)
                        refine lv_aload_n hx hb dC_saturate_138 rfl (lv_at hl 5 rfl) ?_
                        refine lv_iload_n hx hb dC_saturate_139 rfl (lv_at hl 2 rfl) ?_
                        refine lv_iload hx hb dC_saturate_140 (lv_at hl 0 rfl) ?_
                        refine ks_v (wf := sW a kI kL kZ) (u := u10) ⟨hx, hb, hml, hown, hA⟩ (c_drawSomes l D a kI kL kZ u10 N kd fa fb (tm_ext (tm_ext (tm_ext htm hu8.1) hu9.1) hu10.1) (tr_ext (tr_ext (tr_ext htr hu8.1) hu9.1) hu10.1) x r (by omega) (by omega)) (kw_C_136 hA rfl rfl ⟨Nat.le_trans (Nat.le_of_ble_eq_true rfl) hRf, Nat.le_trans (Nat.le_of_ble_eq_true rfl) hRl⟩) hK hP hD hS (fun _ h => h) (fun u' => sW_adr u') 3 3 rfl rfl rfl hl.1 (Nat.le_of_ble_eq_true rfl) ⟨by omega, by omega⟩ dC_saturate_142 rfl (fun u11 H locs hu11 hP hD hS => ?_)
                        refine lv_goto hx hb dC_saturate_145 (tgt := 174) (by decide) ?_
                        refine lv_aload_n hx hb dC_saturate_174 rfl (lv_at hl 5 rfl) ?_
                        refine gf_C_31 (v := .ref (a 18)) hx hb hA hown hK hP 3 rfl rfl dC_saturate_175 ?_
                        refine lv_iload_n hx hb dC_saturate_178 rfl (lv_at hl 3 rfl) ?_
                        refine lv_iload hx hb dC_saturate_179 (lv_at hl 0 rfl) ?_
                        refine lv_iconst (v := nI 1) hx hb dC_saturate_181 (by decide +kernel) ?_
                        refine tq_iadd hx hb dC_saturate_182 ?_
                        refine k_next ⟨hx, hb, hml, hown, hA⟩ (kw_C_69 hA rfl rfl ⟨Nat.le_trans (Nat.le_of_ble_eq_true rfl) hRf, Nat.le_trans (Nat.le_of_ble_eq_true rfl) hRl⟩) hK hP hS 18 19 1 rfl rfl rfl (by decide) (by omega) (by decide) (by decide) (by omega) (by omega) hl.1 (Nat.le_of_ble_eq_true rfl) ⟨by omega, by omega⟩ dC_saturate_183 (fun r12 H locs hr12 hP hS => ?_)
                        refine lv_istore (lv' := [(5, .int (nI r12)), (4, .int (nI i)), (3, .int (nI x)), (2, .int (nI (x * 7 + i))), (1, .int (nI n)), (0, .ref (a 3))]) hx hb dC_saturate_186 hl (by decide) rfl (fun ls hl => ?_)
                        refine lv_goto hx hb dC_saturate_188 (tgt := 57) (by decide) ?_
                        have hge := hr12.1
                        have hlt := hr12.2.1
                        exact ih57 r12 u11 ls H locs (in_step hi7 k1 (by subst h79; exact new_B hbas hfx h85 hu8 hu9 hu10 hu11) hr12) hr12.2.2.2 (by omega) hP hD hS (by omega) (lv_sub hl [0, 1, 2, 3, 4, 5] rfl)
                  · refine lv_aload_n hx hb dC_saturate_88 rfl (lv_at hl 5 rfl) ?_
                    refine lv_iload_n hx hb dC_saturate_89 rfl (lv_at hl 2 rfl) ?_
                    refine ks_v (wf := sW a kI kL kZ) (u := (va_up v2.1 2 (tm_drop (v2.1 2) (x * 7 + i) r), v2.2.1, v2.2.2)) ⟨hx, hb, hml, hown, hA⟩ (c_emptySources l D a kI kL kZ (va_up v2.1 2 (tm_drop (v2.1 2) (x * 7 + i) r), v2.2.1, v2.2.2) x htr (by omega)) (kw_C_123 hA rfl rfl ⟨Nat.le_trans (Nat.le_of_ble_eq_true rfl) hRf, Nat.le_trans (Nat.le_of_ble_eq_true rfl) hRl⟩) hK hP hD hS (fun _ h => h) (fun u' => sW_adr u') 3 3 rfl rfl rfl hl.1 (Nat.le_of_ble_eq_true rfl) ⟨by omega, by omega⟩ dC_saturate_90 rfl (fun u13 H locs hu13 hP hD hS => ?_)
                    refine lv_goto hx hb dC_saturate_93 (tgt := 174) (by decide) ?_
                    refine lv_aload_n hx hb dC_saturate_174 rfl (lv_at hl 5 rfl) ?_
                    refine gf_C_31 (v := .ref (a 18)) hx hb hA hown hK hP 3 rfl rfl dC_saturate_175 ?_
                    refine lv_iload_n hx hb dC_saturate_178 rfl (lv_at hl 3 rfl) ?_
                    refine lv_iload hx hb dC_saturate_179 (lv_at hl 0 rfl) ?_
                    refine lv_iconst (v := nI 1) hx hb dC_saturate_181 (by decide +kernel) ?_
                    refine tq_iadd hx hb dC_saturate_182 ?_
                    refine k_next ⟨hx, hb, hml, hown, hA⟩ (kw_C_69 hA rfl rfl ⟨Nat.le_trans (Nat.le_of_ble_eq_true rfl) hRf, Nat.le_trans (Nat.le_of_ble_eq_true rfl) hRl⟩) hK hP hS 18 19 1 rfl rfl rfl (by decide) (by omega) (by decide) (by decide) (by omega) (by omega) hl.1 (Nat.le_of_ble_eq_true rfl) ⟨by omega, by omega⟩ dC_saturate_183 (fun r14 H locs hr14 hP hS => ?_)
                    refine lv_istore (lv' := [(5, .int (nI r14)), (4, .int (nI i)), (3, .int (nI x)), (2, .int (nI (x * 7 + i))), (1, .int (nI n)), (0, .ref (a 3))]) hx hb dC_saturate_186 hl (by decide) rfl (fun ls hl => ?_)
                    refine lv_goto hx hb dC_saturate_188 (tgt := 57) (by decide) ?_
                    have hge := hr14.1
                    have hlt := hr14.2.1
                    exact ih57 r14 u13 ls H locs (in_step hi7 k1 (by subst h79; subst h85; exact new_A hbas hfx hu13.1 hu13.2) hr14) hr14.2.2.2 (by omega) hP hD hS (by omega) (lv_sub hl [0, 1, 2, 3, 4, 5] rfl)
          have g9 : s_out u v N kd fa fb (179199 - n + 1) := by rw [show 179199 - n + 1 = 179200 - n by omega]; exact g1
          have hlt := hr2.2.1
          exact lp _ r2 (va_up v.1 3 (tm_drop (v.1 3) 0 (x * 7 + i)), v.2.1, v.2.2) ls _ _ (in_enter g9 h22 hfr1 hr2) hr2.2.2.2 (by omega) hP hD hS (Nat.lt_succ_self _) (lv_sub hl [0, 1, 2, 3, 4, 5] rfl)
        · subst hQe
          exact W.vret hx hb hr (fun t ht hW => ⟨⟨v, rfl, out_done g1 (fun y hy z => (by rw [hr1.2.2.1 y (Nat.zero_le _) (by omega) hy] at z; cases z)), tq_hp ht hP⟩, hS.F ht⟩) hS.2.2 dC_saturate_25
  exact lp _ 0 u ls _ _ ⟨hbas0, hsat, hfr, mu_top hN.2.2 hbas0.2.2.1 hbas0.2.2.2.2.1, gro_refl u, snd_refl⟩ (by omega) hP hD hS (Nat.lt_succ_self _) (lv_sub hl [0, 1] rfl)
