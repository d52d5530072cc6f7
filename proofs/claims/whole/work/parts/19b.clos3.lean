/-! The contracts of Closure: what is drawn from a link; what a new description takes in. Written by wip/whole/gen/genclos3.py. -/
set_option maxHeartbeats 4000000 in
set_option maxRecDepth 100000 in
/-- c_drawFromLink -/
theorem c_drawFromLink (l : Launch) (D : va_G) (a : Nat → Nat) (kI kL kZ : ClassId) (u : sU) (N : Nat) (kd fa fb : Nat → Nat) (htm : s_tm u N kd fa fb) (htr : s_tr u) (x i d : Nat) (hx1 : x < 160) (hi : i < 6) (hd : d < N) (hb0 : u.1 0 (d * 7 + 6) d = true → u.1 0 (d * 7 + 6) 0 = true) : Met l yC_drawFromLink (wC_drawFromLink :: wA) ({ frames := 3, cells := 0, slots := 0, locals := 70 }) (va_Pc [.ref (a 3), .int (nI x), .int (nI i), .int (nI d)] (tq_wB D vwA (sW a kI kL kZ u) (sT kI kL kZ))) (va_Qv (fun (u' : sU) => s_ext u u' ∧ s_snd u u' (s_linkR u N kd fa fb x i d) ∧ s_linkC u u' N kd fa fb x i d) (fun u' t => va_P D vwA (sW a kI kL kZ u') t.heap) (sA a)) 0 0 (sA a) := by
  refine Met.ofW (cc := bC_drawFromLink) (maxL := 7) (ret := none) (by decide +kernel) rfl ?_
  intro p e s m args below meth c s₁ B1 hml hv
  obtain ⟨rfl, hP, hK, hD0⟩ := hv
  have hx := B1.exec
  have hb := B1.bytes
  have hr := B1.returns
  have hA : ∀ w ∈ wA, w.before ([.ref (a 3), .int (nI x), .int (nI i), .int (nI d)] : List Value).toArray s = true := fun w h => atoms_spec (ws := wC_drawFromLink :: wA) B1.pre w (List.mem_cons_of_mem _ h)
  have hown : s.vm.findClass RcC = some m.cls := findClass_of_methodNamed B1.named
  have hlocks := B1.notSynchronized
  have hS : va_S (sA a) s.heap s.heap [] := va_S.rf
  have hl := lv_entry ([.ref (a 3), .int (nI x), .int (nI i), .int (nI d)]) (n := 7) (Nat.le_of_ble_eq_true rfl)
  rw [lg_entry_eq]
  generalize (lg_sl ([.ref (a 3), .int (nI x), .int (nI i), .int (nI d)]) ++ List.replicate (7 - (lg_sl ([.ref (a 3), .int (nI x), .int (nI i), .int (nI d)])).length) Slot.unset).toArray = ls at hl ⊢
  have hl : lv_has ls 7 [(0, .ref (a 3)), (1, .int (nI x)), (2, .int (nI i)), (3, .int (nI d))] := hl
  refine tq_gen (fun R Q hRe hQe => ?_)
  have hRf : 3 ≤ R.frames := by rw [hRe]; exact Nat.le_of_ble_eq_true rfl
  have hRl : 70 ≤ R.locals := by rw [hRe]; exact Nat.le_of_ble_eq_true rfl
  have hRc : 0 ≤ R.cells := by rw [hRe]; exact Nat.le_of_ble_eq_true rfl
  have hRs : 0 ≤ R.slots := by rw [hRe]; exact Nat.le_of_ble_eq_true rfl
  have hD := sA_D hD0
  have hN := tm_N htm
  refine lv_aload_n hx hb dC_drawFromLink_0 rfl (lv_at hl 0 rfl) ?_
  refine lv_iload_n hx hb dC_drawFromLink_1 rfl (lv_at hl 3 rfl) ?_
  refine ks_v (wf := sW a kI kL kZ) (u := u) ⟨hx, hb, hml, hown, hA⟩ (c_begin l D a kI kL kZ u d (by omega)) (kw_C_75 hA rfl rfl ⟨Nat.le_trans (Nat.le_of_ble_eq_true rfl) hRf, Nat.le_trans (Nat.le_of_ble_eq_true rfl) hRl⟩) hK hP hD hS (fun _ h => h) (fun u' => sW_adr u') 3 3 rfl rfl rfl hl.1 (Nat.le_of_ble_eq_true rfl) ⟨by omega, by omega⟩ dC_drawFromLink_2 rfl (fun u1 H locs hu1 hP hD hS => ?_)
  refine lv_aload_n hx hb dC_drawFromLink_5 rfl (lv_at hl 0 rfl) ?_
  refine lv_iload_n hx hb dC_drawFromLink_6 rfl (lv_at hl 3 rfl) ?_
  refine ks_rv ⟨hx, hb, hml, hown, hA⟩ (c_isEmpty l D a kI kL kZ u1 d (by omega)) (kw_C_65 hA rfl rfl ⟨Nat.le_trans (Nat.le_of_ble_eq_true rfl) hRf, Nat.le_trans (Nat.le_of_ble_eq_true rfl) hRl⟩) hK hP hS 3 3 rfl rfl rfl hl.1 (Nat.le_of_ble_eq_true rfl) ⟨by omega, by omega⟩ dC_drawFromLink_7 rfl (fun H locs hP hS => ?_)
  refine tq_bf hx hb dC_drawFromLink_10 (tgt := 22) (by decide) (fun h10 => ?_) (fun h10 => ?_)
  · refine lv_aload_n hx hb dC_drawFromLink_22 rfl (lv_at hl 0 rfl) ?_
    refine gf_C_40 (v := .ref (a 24)) hx hb hA hown hK hP 3 rfl rfl dC_drawFromLink_23 ?_
    refine lv_iload_n hx hb dC_drawFromLink_26 rfl (lv_at hl 2 rfl) ?_
    refine lv_iconst (v := nI 0) hx hb dC_drawFromLink_27 (by decide +kernel) ?_
    refine k_next ⟨hx, hb, hml, hown, hA⟩ (kw_C_69 hA rfl rfl ⟨Nat.le_trans (Nat.le_of_ble_eq_true rfl) hRf, Nat.le_trans (Nat.le_of_ble_eq_true rfl) hRl⟩) hK hP hS 24 25 1 rfl rfl rfl (by decide) (by omega) (by decide) (by decide) (by omega) (by omega) hl.1 (Nat.le_of_ble_eq_true rfl) ⟨by omega, by omega⟩ dC_drawFromLink_28 (fun r2 H locs hr2 hP hS => ?_)
    refine lv_istore (lv' := [(4, .int (nI r2)), (0, .ref (a 3)), (1, .int (nI x)), (2, .int (nI i)), (3, .int (nI d))]) hx hb dC_drawFromLink_31 hl (by decide) rfl (fun ls hl => ?_)
    have lp : ∀ (fu : Nat) (r : Nat) (v : sU) (ls : Array Slot) (H : Heap) (locs : List Loc), s_ext u v → s_snd u v (s_linkR u N kd fa fb x i d) → (v.1 0 (d * 7 + 6) d = true ∧ v.1 0 (d * 7 + 6) 0 = true) → (∀ t, t < r → t < 6 → u.1 5 i t = true → v.1 0 (x * 7 + t) d = true) → (r < 6 → u.1 5 i r = true) → r < 70 → va_P D vwA (sW a kI kL kZ v) H → va_D (sA a) (sW a kI kL kZ v) → va_S (sA a) s.heap H locs → 70 - r < fu → lv_has ls 7 [(4, .int (nI r)), (0, .ref (a 3)), (1, .int (nI x)), (2, .int (nI i)), (3, .int (nI d))] → W p l e R s m ([.ref (a 3), .int (nI x), .int (nI i), .int (nI d)] : List Value).toArray below meth c H locs 0 0 Q (F0 m 33 ls []) := by
      intro fu
      induction fu with
      | zero => intros; omega
      | succ fu ih33 =>
        intro r v ls H locs g1 g2 g3 g4 g5 g6 hP hD hS hfu hl
        refine lv_iload hx hb dC_drawFromLink_33 (lv_at hl 0 rfl) ?_
        refine lv_bipush (v := nI 6) hx hb dC_drawFromLink_35 (by decide +kernel) ?_
        refine tq_ge hx hb dC_drawFromLink_37 (tgt := 65) (by decide) (by omega) (by omega) (fun h37 => ?_) (fun h37 => ?_)
        · refine lv_iload_n hx hb dC_drawFromLink_65 rfl (lv_at hl 4 rfl) ?_
          refine lv_bipush (v := nI 6) hx hb dC_drawFromLink_66 (by decide +kernel) ?_
          refine ks_s ⟨hx, hb, hml, hown, hA⟩ (c_row l d 6) (kw_C_57 hA rfl rfl ⟨Nat.le_trans (Nat.le_of_ble_eq_true rfl) hRf, Nat.le_trans (Nat.le_of_ble_eq_true rfl) hRl⟩) hP hS rfl hl.1 (Nat.le_of_ble_eq_true rfl) ⟨by omega, by omega⟩ dC_drawFromLink_68 rfl (fun H locs hP hS => ?_)
          refine lv_istore (lv' := [(4, .int (nI (d * 7 + 6))), (0, .ref (a 3)), (1, .int (nI x)), (2, .int (nI i)), (3, .int (nI d))]) hx hb dC_drawFromLink_71 hl (by decide) rfl (fun ls hl => ?_)
          refine lv_aload_n hx hb dC_drawFromLink_73 rfl (lv_at hl 1 rfl) ?_
          refine gf_C_11 (v := .ref (a 1)) hx hb hA hown hK hP 3 rfl rfl dC_drawFromLink_74 ?_
          refine gf_C_179 (v := .ref (a 30)) hx hb hA hown hK hP 1 rfl rfl dC_drawFromLink_77 ?_
          refine lv_astore (lv' := [(5, .ref (a 30)), (4, .int (nI (d * 7 + 6))), (0, .ref (a 3)), (1, .int (nI x)), (2, .int (nI i)), (3, .int (nI d))]) hx hb dC_drawFromLink_80 hl (by decide) rfl (fun ls hl => ?_)
          refine lv_aload hx hb dC_drawFromLink_82 (lv_at hl 0 rfl) ?_
          refine lv_iload_n hx hb dC_drawFromLink_84 rfl (lv_at hl 4 rfl) ?_
          refine lv_iconst (v := nI 0) hx hb dC_drawFromLink_85 (by decide +kernel) ?_
          refine k_next ⟨hx, hb, hml, hown, hA⟩ (kw_C_69 hA rfl rfl ⟨Nat.le_trans (Nat.le_of_ble_eq_true rfl) hRf, Nat.le_trans (Nat.le_of_ble_eq_true rfl) hRl⟩) hK hP hS 30 31 1 rfl rfl rfl (by decide) (by omega) (by decide) (by decide) (by omega) (by omega) hl.1 (Nat.le_of_ble_eq_true rfl) ⟨by omega, by omega⟩ dC_drawFromLink_86 (fun r3 H locs hr3 hP hS => ?_)
          refine lv_istore (lv' := [(6, .int (nI r3)), (5, .ref (a 30)), (4, .int (nI (d * 7 + 6))), (0, .ref (a 3)), (1, .int (nI x)), (2, .int (nI i)), (3, .int (nI d))]) hx hb dC_drawFromLink_89 hl (by decide) rfl (fun ls hl => ?_)
          have lp : ∀ (fu : Nat) (q : Nat) (v2 : sU) (ls : Array Slot) (H : Heap) (locs : List Loc), s_ext u v2 → s_snd u v2 (s_linkR u N kd fa fb x i d) → (v2.1 0 (d * 7 + 6) d = true ∧ v2.1 0 (d * 7 + 6) 0 = true) → (∀ t, t < 6 → u.1 5 i t = true → v2.1 0 (x * 7 + t) d = true) → (∀ b, b < q → b < 160 → u.1 8 i b = true → ∀ k, k < N → kd k = 3 → fa k = i → fb k = b → u.1 0 (d * 7 + 6) b = true → v2.1 0 (x * 7 + 6) k = true) → (q < 160 → u.1 8 i q = true) → q < 224 → va_P D vwA (sW a kI kL kZ v2) H → va_D (sA a) (sW a kI kL kZ v2) → va_S (sA a) s.heap H locs → 224 - q < fu → lv_has ls 7 [(6, .int (nI q)), (5, .ref (a 30)), (4, .int (nI (d * 7 + 6))), (0, .ref (a 3)), (1, .int (nI x)), (2, .int (nI i)), (3, .int (nI d))] → W p l e R s m ([.ref (a 3), .int (nI x), .int (nI i), .int (nI d)] : List Value).toArray below meth c H locs 0 0 Q (F0 m 91 ls []) := by
            intro fu
            induction fu with
            | zero => intros; omega
            | succ fu ih91 =>
              intro q v2 ls H locs k1 k2 k3 k4 k5 k6 k7 hP hD hS hfu hl
              refine lv_iload hx hb dC_drawFromLink_91 (lv_at hl 0 rfl) ?_
              refine lv_sipush (v := nI 160) hx hb dC_drawFromLink_93 (by decide +kernel) ?_
              refine tq_ge hx hb dC_drawFromLink_96 (tgt := 145) (by decide) (by omega) (by omega) (fun h96 => ?_) (fun h96 => ?_)
              · subst hQe
                exact W.vret hx hb hr (fun t ht hW => ⟨⟨v2, rfl, ⟨k1, k2, k3, Or.inr ⟨fun z => (by rw [hu1.1.1 _ _ z] at h10; cases h10), k4, fun j a1 a2 a3 a4 => k5 (fb j) (by have := tm_3 htm a1 a2; omega) (by have := tm_3 htm a1 a2; omega) ((tm_f htm hi (by have := tm_3 htm a1 a2; omega)).mpr ⟨j, a1, a2, a3, rfl⟩) j a1 a2 a3 rfl a4⟩⟩, tq_hp ht hP⟩, hS.F ht⟩) hS.2.2 dC_drawFromLink_145
              · obtain ⟨k, hkN, hk3, hka, hkb⟩ := (tm_f htm hi h96).mp (k6 h96)
                refine lv_aload_n hx hb dC_drawFromLink_99 rfl (lv_at hl 3 rfl) ?_
                refine gf_C_24 (v := .ref (a 14)) hx hb hA hown hK hP 3 rfl rfl dC_drawFromLink_100 ?_
                refine lv_iload hx hb dC_drawFromLink_103 (lv_at hl 2 rfl) ?_
                refine lv_iload hx hb dC_drawFromLink_105 (lv_at hl 0 rfl) ?_
                refine k_holds ⟨hx, hb, hml, hown, hA⟩ (kw_C_61 hA rfl rfl ⟨Nat.le_trans (Nat.le_of_ble_eq_true rfl) hRf, Nat.le_trans (Nat.le_of_ble_eq_true rfl) hRl⟩) hK hP hS 14 15 1 rfl rfl rfl (by omega) (by omega) (by decide) (by decide) hl.1 (Nat.le_of_ble_eq_true rfl) ⟨by omega, by omega⟩ dC_drawFromLink_107 (fun H locs hP hS => ?_)
                refine tq_bf hx hb dC_drawFromLink_110 (tgt := 130) (by decide) (fun h110 => ?_) (fun h110 => ?_)
                · refine lv_aload hx hb dC_drawFromLink_130 (lv_at hl 1 rfl) ?_
                  refine lv_iload_n hx hb dC_drawFromLink_132 rfl (lv_at hl 5 rfl) ?_
                  refine lv_iload hx hb dC_drawFromLink_133 (lv_at hl 0 rfl) ?_
                  refine lv_iconst (v := nI 1) hx hb dC_drawFromLink_135 (by decide +kernel) ?_
                  refine tq_iadd hx hb dC_drawFromLink_136 ?_
                  refine k_next ⟨hx, hb, hml, hown, hA⟩ (kw_C_69 hA rfl rfl ⟨Nat.le_trans (Nat.le_of_ble_eq_true rfl) hRf, Nat.le_trans (Nat.le_of_ble_eq_true rfl) hRl⟩) hK hP hS 30 31 1 rfl rfl rfl (by decide) (by omega) (by decide) (by decide) (by omega) (by omega) hl.1 (Nat.le_of_ble_eq_true rfl) ⟨by omega, by omega⟩ dC_drawFromLink_137 (fun r4 H locs hr4 hP hS => ?_)
                  refine lv_istore (lv' := [(6, .int (nI r4)), (5, .ref (a 30)), (4, .int (nI (d * 7 + 6))), (0, .ref (a 3)), (1, .int (nI x)), (2, .int (nI i)), (3, .int (nI d))]) hx hb dC_drawFromLink_140 hl (by decide) rfl (fun ls hl => ?_)
                  refine lv_goto hx hb dC_drawFromLink_142 (tgt := 91) (by decide) ?_
                  rw [k1.2.2.2.2.2.1 8 (by decide)] at hr4
                  have hge := hr4.1
                  have hlt := hr4.2.1
                  exact ih91 r4 v2 ls H locs k1 k2 k3 k4 (tm_nx_step k5 (fun k a1 a2 a3 a4 a5 => (by rw [k1.1 _ _ a5] at h110; cases h110)) hr4) hr4.2.2.2 (by omega) hP hD hS (by omega) (lv_sub hl [0, 1, 2, 3, 4, 5, 6] rfl)
                · refine lv_aload_n hx hb dC_drawFromLink_113 rfl (lv_at hl 3 rfl) ?_
                  refine lv_iload_n hx hb dC_drawFromLink_114 rfl (lv_at hl 4 rfl) ?_
                  refine lv_bipush (v := nI 6) hx hb dC_drawFromLink_115 (by decide +kernel) ?_
                  refine lv_aload_n hx hb dC_drawFromLink_117 rfl (lv_at hl 3 rfl) ?_
                  refine gf_C_11 (v := .ref (a 1)) hx hb hA hown hK hP 3 rfl rfl dC_drawFromLink_118 ?_
                  refine lv_iload_n hx hb dC_drawFromLink_121 rfl (lv_at hl 5 rfl) ?_
                  refine lv_iload hx hb dC_drawFromLink_122 (lv_at hl 0 rfl) ?_
                  refine ks_rv ⟨hx, hb, hml, hown, hA⟩ (c_findSome l D a kI kL kZ v2 i q (by omega) (by omega)) (kw_C_176 hA rfl rfl ⟨Nat.le_trans (Nat.le_of_ble_eq_true rfl) hRf, Nat.le_trans (Nat.le_of_ble_eq_true rfl) hRl⟩) hK hP hS 1 1 rfl rfl rfl hl.1 (Nat.le_of_ble_eq_true rfl) ⟨by omega, by omega⟩ dC_drawFromLink_124 rfl (fun H locs hP hS => ?_)
                  refine tq_i (show v2.2.1 3 (i * 160 + q) = nI k from (by have h9 := tm_sf (tm_ext htm k1) hkN hk3; rw [hka, hkb] at h9; exact h9)) ?_
                  refine ks_v (wf := sW a kI kL kZ) (u := v2) ⟨hx, hb, hml, hown, hA⟩ (c_add l D a kI kL kZ v2 x 6 k (by omega) (by omega) (by omega)) (kw_C_94 hA rfl rfl ⟨Nat.le_trans (Nat.le_of_ble_eq_true rfl) hRf, Nat.le_trans (Nat.le_of_ble_eq_true rfl) hRl⟩) hK hP hD hS (fun _ h => h) (fun u' => sW_adr u') 3 3 rfl rfl rfl hl.1 (Nat.le_of_ble_eq_true rfl) ⟨by omega, by omega⟩ dC_drawFromLink_127 rfl (fun u5 H locs hu5 hP hD hS => ?_)
                  refine lv_aload hx hb dC_drawFromLink_130 (lv_at hl 1 rfl) ?_
                  refine lv_iload_n hx hb dC_drawFromLink_132 rfl (lv_at hl 5 rfl) ?_
                  refine lv_iload hx hb dC_drawFromLink_133 (lv_at hl 0 rfl) ?_
                  refine lv_iconst (v := nI 1) hx hb dC_drawFromLink_135 (by decide +kernel) ?_
                  refine tq_iadd hx hb dC_drawFromLink_136 ?_
                  refine k_next ⟨hx, hb, hml, hown, hA⟩ (kw_C_69 hA rfl rfl ⟨Nat.le_trans (Nat.le_of_ble_eq_true rfl) hRf, Nat.le_trans (Nat.le_of_ble_eq_true rfl) hRl⟩) hK hP hS 30 31 1 rfl rfl rfl (by decide) (by omega) (by decide) (by decide) (by omega) (by omega) hl.1 (Nat.le_of_ble_eq_true rfl) ⟨by omega, by omega⟩ dC_drawFromLink_137 (fun r6 H locs hr6 hP hS => ?_)
                  refine lv_istore (lv' := [(6, .int (nI r6)), (5, .ref (a 30)), (4, .int (nI (d * 7 + 6))), (0, .ref (a 3)), (1, .int (nI x)), (2, .int (nI i)), (3, .int (nI d))]) hx hb dC_drawFromLink_140 hl (by decide) rfl (fun ls hl => ?_)
                  refine lv_goto hx hb dC_drawFromLink_142 (tgt := 91) (by decide) ?_
                  rw [(ext_trans k1 hu5.1).2.2.2.2.2.1 8 (by decide)] at hr6
                  have hge := hr6.1
                  have hlt := hr6.2.1
                  exact ih91 r6 u5 ls H locs (ext_trans k1 hu5.1) (snd_fact k2 hu5 (fun G h1 h2 => h2.2.2.2.2 k hkN hk3 hka (h1 _ _ (by rw [hkb]; exact h110)))) ⟨hu5.1.1 _ _ k3.1, hu5.1.1 _ _ k3.2⟩ (fun t a1 a2 => hu5.1.1 _ _ (k4 t a1 a2)) (tm_nx_step (fun b a1 a2 a3 k a4 a5 a6 a7 a8 => hu5.1.1 _ _ (k5 b a1 a2 a3 k a4 a5 a6 a7 a8)) (fun j a1 a2 a3 a4 a5 => (hu5.2 _ _).mpr (Or.inr ⟨rfl, tm_u htm a1 hkN (a2.trans hk3.symm) (by omega) (a3.trans hka.symm) (a4.trans hkb.symm)⟩)) hr6) hr6.2.2.2 (by omega) hP hD hS (by omega) (lv_sub hl [0, 1, 2, 3, 4, 5, 6] rfl)
          rw [g1.2.2.2.2.2.1 8 (by decide)] at hr3
          have hlt := hr3.2.1
          exact lp _ r3 v ls _ _ g1 g2 g3 (fun t a1 a2 => g4 t (by omega) a1 a2) (tm_nx_first hr3) hr3.2.2.2 (by omega) hP hD hS (Nat.lt_succ_self _) (lv_sub hl [0, 1, 2, 3, 4, 5, 6] rfl)
        · refine lv_aload_n hx hb dC_drawFromLink_40 rfl (lv_at hl 1 rfl) ?_
          refine lv_iload_n hx hb dC_drawFromLink_41 rfl (lv_at hl 2 rfl) ?_
          refine lv_iload hx hb dC_drawFromLink_42 (lv_at hl 0 rfl) ?_
          refine lv_iload_n hx hb dC_drawFromLink_44 rfl (lv_at hl 4 rfl) ?_
          refine ks_v (wf := sW a kI kL kZ) (u := v) ⟨hx, hb, hml, hown, hA⟩ (c_add l D a kI kL kZ v x r d (by omega) (by omega) (by omega)) (kw_C_94 hA rfl rfl ⟨Nat.le_trans (Nat.le_of_ble_eq_true rfl) hRf, Nat.le_trans (Nat.le_of_ble_eq_true rfl) hRl⟩) hK hP hD hS (fun _ h => h) (fun u' => sW_adr u') 3 3 rfl rfl rfl hl.1 (Nat.le_of_ble_eq_true rfl) ⟨by omega, by omega⟩ dC_drawFromLink_45 rfl (fun u7 H locs hu7 hP hD hS => ?_)
          refine lv_aload_n hx hb dC_drawFromLink_48 rfl (lv_at hl 1 rfl) ?_
          refine gf_C_40 (v := .ref (a 24)) hx hb hA hown hK hP 3 rfl rfl dC_drawFromLink_49 ?_
          refine lv_iload_n hx hb dC_drawFromLink_52 rfl (lv_at hl 3 rfl) ?_
          refine lv_iload hx hb dC_drawFromLink_53 (lv_at hl 0 rfl) ?_
          refine lv_iconst (v := nI 1) hx hb dC_drawFromLink_55 (by decide +kernel) ?_
          refine tq_iadd hx hb dC_drawFromLink_56 ?_
          refine k_next ⟨hx, hb, hml, hown, hA⟩ (kw_C_69 hA rfl rfl ⟨Nat.le_trans (Nat.le_of_ble_eq_true rfl) hRf, Nat.le_trans (Nat.le_of_ble_eq_true rfl) hRl⟩) hK hP hS 24 25 1 rfl rfl rfl (by decide) (by omega) (by decide) (by decide) (by omega) (by omega) hl.1 (Nat.le_of_ble_eq_true rfl) ⟨by omega, by omega⟩ dC_drawFromLink_57 (fun r8 H locs hr8 hP hS => ?_)
          refine lv_istore (lv' := [(4, .int (nI r8)), (0, .ref (a 3)), (1, .int (nI x)), (2, .int (nI i)), (3, .int (nI d))]) hx hb dC_drawFromLink_60 hl (by decide) rfl (fun ls hl => ?_)
          refine lv_goto hx hb dC_drawFromLink_62 (tgt := 33) (by decide) ?_
          rw [(ext_trans g1 hu7.1).2.2.2.2.2.1 5 (by decide)] at hr8
          have hge := hr8.1
          have hlt := hr8.2.1
          exact ih33 r8 u7 ls H locs (ext_trans g1 hu7.1) (snd_fact g2 hu7 (fun G h1 h2 => h2.2.2.2.1 r h37 (g5 h37))) ⟨hu7.1.1 _ _ g3.1, hu7.1.1 _ _ g3.2⟩ (tm_nx_step (P := fun t => u7.1 0 (x * 7 + t) d = true) (fun b a1 a2 a3 => hu7.1.1 _ _ (g4 b a1 a2 a3)) ((hu7.2 _ _).mpr (Or.inr ⟨rfl, rfl⟩)) hr8) hr8.2.2.2 (by omega) hP hD hS (by omega) (lv_sub hl [0, 1, 2, 3, 4] rfl)
    rw [(ext_trans (ext_refl u) hu1.1).2.2.2.2.2.1 5 (by decide)] at hr2
    have hlt := hr2.2.1
    exact lp _ r2 u1 ls _ _ (ext_trans (ext_refl u) hu1.1) (begin_snd hu1.2 (fun G z => ⟨z.1, z.2.1⟩)) (begin_0 hu1.2 hb0) (fun t a1 a2 a3 => tm_nx_first (P := fun t => u1.1 0 (x * 7 + t) d = true) hr2 t a1 a2 a3) hr2.2.2.2 (by omega) hP hD hS (Nat.lt_succ_self _) (lv_sub hl [0, 1, 2, 3, 4] rfl)
  · refine lv_aload_n hx hb dC_drawFromLink_13 rfl (lv_at hl 0 rfl) ?_
    refine lv_iload_n hx hb dC_drawFromLink_14 rfl (lv_at hl 1 rfl) ?_
    refine lv_bipush (v := nI 6) hx hb dC_drawFromLink_15 (by decide +kernel) ?_
    refine lv_iconst (v := nI 1) hx hb dC_drawFromLink_17 (by decide +kernel) ?_
    refine ks_v (wf := sW a kI kL kZ) (u := u1) ⟨hx, hb, hml, hown, hA⟩ (c_add l D a kI kL kZ u1 x 6 1 (by omega) (by omega) (by omega)) (kw_C_94 hA rfl rfl ⟨Nat.le_trans (Nat.le_of_ble_eq_true rfl) hRf, Nat.le_trans (Nat.le_of_ble_eq_true rfl) hRl⟩) hK hP hD hS (fun _ h => h) (fun u' => sW_adr u') 3 3 rfl rfl rfl hl.1 (Nat.le_of_ble_eq_true rfl) ⟨by omega, by omega⟩ dC_drawFromLink_18 rfl (fun u9 H locs hu9 hP hD hS => ?_)
    subst hQe
    exact W.vret hx hb hr (fun t ht hW => ⟨⟨u9, rfl, ⟨(ext_trans (ext_trans (ext_refl u) hu1.1) hu9.1), snd_fact (begin_snd hu1.2 (fun G z => ⟨z.1, z.2.1⟩)) hu9 (fun G h1 h2 => h2.2.2.1 (h1 _ _ h10)), ⟨hu9.1.1 _ _ (begin_d hu1.2), hu9.1.1 _ _ (begin_0 hu1.2 hb0).2⟩, Or.inl ((hu9.2 _ _).mpr (Or.inr ⟨rfl, rfl⟩))⟩, tq_hp ht hP⟩, hS.F ht⟩) hS.2.2 dC_drawFromLink_21
set_option maxHeartbeats 4000000 in
set_option maxRecDepth 100000 in
/-- c_drawFromChains -/
theorem c_drawFromChains (l : Launch) (D : va_G) (a : Nat → Nat) (kI kL kZ : ClassId) (u : sU) (x i d : Nat) (htr : s_tr u) (hx1 : x < 160) (hi : i < 6) (hd : d < 160) : Met l yC_drawFromChains (wC_drawFromChains :: wA) ({ frames := 3, cells := 0, slots := 0, locals := 75 }) (va_Pc [.ref (a 3), .int (nI x), .int (nI i), .int (nI d)] (tq_wB D vwA (sW a kI kL kZ u) (sT kI kL kZ))) (va_Qv (fun (u' : sU) => s_ext u u' ∧ s_snd u u' (s_chR u x i d) ∧ ∀ q, q < 6 → ∀ t, t < 6 → s_ch1 u u' x i d q t ∧ s_ch2 u u' x i d q t) (fun u' t => va_P D vwA (sW a kI kL kZ u') t.heap) (sA a)) 0 0 (sA a) := by
  refine Met.ofW (cc := bC_drawFromChains) (maxL := 8) (ret := none) (by decide +kernel) rfl ?_
  intro p e s m args below meth c s₁ B1 hml hv
  obtain ⟨rfl, hP, hK, hD0⟩ := hv
  have hx := B1.exec
  have hb := B1.bytes
  have hr := B1.returns
  have hA : ∀ w ∈ wA, w.before ([.ref (a 3), .int (nI x), .int (nI i), .int (nI d)] : List Value).toArray s = true := fun w h => atoms_spec (ws := wC_drawFromChains :: wA) B1.pre w (List.mem_cons_of_mem _ h)
  have hown : s.vm.findClass RcC = some m.cls := findClass_of_methodNamed B1.named
  have hlocks := B1.notSynchronized
  have hS : va_S (sA a) s.heap s.heap [] := va_S.rf
  have hl := lv_entry ([.ref (a 3), .int (nI x), .int (nI i), .int (nI d)]) (n := 8) (Nat.le_of_ble_eq_true rfl)
  rw [lg_entry_eq]
  generalize (lg_sl ([.ref (a 3), .int (nI x), .int (nI i), .int (nI d)]) ++ List.replicate (8 - (lg_sl ([.ref (a 3), .int (nI x), .int (nI i), .int (nI d)])).length) Slot.unset).toArray = ls at hl ⊢
  have hl : lv_has ls 8 [(0, .ref (a 3)), (1, .int (nI x)), (2, .int (nI i)), (3, .int (nI d))] := hl
  refine tq_gen (fun R Q hRe hQe => ?_)
  have hRf : 3 ≤ R.frames := by rw [hRe]; exact Nat.le_of_ble_eq_true rfl
  have hRl : 75 ≤ R.locals := by rw [hRe]; exact Nat.le_of_ble_eq_true rfl
  have hRc : 0 ≤ R.cells := by rw [hRe]; exact Nat.le_of_ble_eq_true rfl
  have hRs : 0 ≤ R.slots := by rw [hRe]; exact Nat.le_of_ble_eq_true rfl
  have hD := sA_D hD0
  refine lv_iconst (v := nI 0) hx hb dC_drawFromChains_0 (by decide +kernel) ?_
  refine lv_istore (lv' := [(4, .int (nI 0)), (0, .ref (a 3)), (1, .int (nI x)), (2, .int (nI i)), (3, .int (nI d))]) hx hb dC_drawFromChains_1 hl (by decide) rfl (fun ls hl => ?_)
  have lp : ∀ (fu : Nat) (n : Nat) (v : sU) (ls : Array Slot) (H : Heap) (locs : List Loc), s_ext u v → s_snd u v (s_chR u x i d) → (∀ q, q < n → ∀ t, t < 6 → s_ch1 u v x i d q t ∧ s_ch2 u v x i d q t) → n ≤ 6 → va_P D vwA (sW a kI kL kZ v) H → va_D (sA a) (sW a kI kL kZ v) → va_S (sA a) s.heap H locs → 6 - n < fu → lv_has ls 8 [(4, .int (nI n)), (0, .ref (a 3)), (1, .int (nI x)), (2, .int (nI i)), (3, .int (nI d))] → W p l e R s m ([.ref (a 3), .int (nI x), .int (nI i), .int (nI d)] : List Value).toArray below meth c H locs 0 0 Q (F0 m 3 ls []) := by
    intro fu
    induction fu with
    | zero => intros; omega
    | succ fu ih3 =>
      intro n v ls H locs g1 g2 g3 g4 hP hD hS hfu hl
      refine lv_iload hx hb dC_drawFromChains_3 (lv_at hl 0 rfl) ?_
      refine lv_bipush (v := nI 6) hx hb dC_drawFromChains_5 (by decide +kernel) ?_
      refine tq_ge hx hb dC_drawFromChains_7 (tgt := 138) (by decide) (by omega) (by omega) (fun h7 => ?_) (fun h7 => ?_)
      · subst hQe
        exact W.vret hx hb hr (fun t ht hW => ⟨⟨v, rfl, ⟨g1, g2, fun q a1 t a2 => g3 q (by omega) t a2⟩, tq_hp ht hP⟩, hS.F ht⟩) hS.2.2 dC_drawFromChains_138
      · refine lv_iload_n hx hb dC_drawFromChains_10 rfl (lv_at hl 3 rfl) ?_
        refine lv_bipush (v := nI 6) hx hb dC_drawFromChains_11 (by decide +kernel) ?_
        refine tq_imul hx hb dC_drawFromChains_13 ?_
        refine lv_iload hx hb dC_drawFromChains_14 (lv_at hl 0 rfl) ?_
        refine tq_iadd hx hb dC_drawFromChains_16 ?_
        refine lv_istore (lv' := [(5, .int (nI ((i * 6) + n))), (4, .int (nI n)), (0, .ref (a 3)), (1, .int (nI x)), (2, .int (nI i)), (3, .int (nI d))]) hx hb dC_drawFromChains_17 hl (by decide) rfl (fun ls hl => ?_)
        refine lv_aload_n hx hb dC_drawFromChains_19 rfl (lv_at hl 2 rfl) ?_
        refine gf_C_43 (v := .ref (a 26)) hx hb hA hown hK hP 3 rfl rfl dC_drawFromChains_20 ?_
        refine lv_iload hx hb dC_drawFromChains_23 (lv_at hl 0 rfl) ?_
        refine lv_iconst (v := nI 0) hx hb dC_drawFromChains_25 (by decide +kernel) ?_
        refine k_next ⟨hx, hb, hml, hown, hA⟩ (kw_C_69 hA rfl rfl ⟨Nat.le_trans (Nat.le_of_ble_eq_true rfl) hRf, Nat.le_trans (Nat.le_of_ble_eq_true rfl) hRl⟩) hK hP hS 26 27 1 rfl rfl rfl (by decide) (by omega) (by decide) (by decide) (by omega) (by omega) hl.1 (Nat.le_of_ble_eq_true rfl) ⟨by omega, by omega⟩ dC_drawFromChains_26 (fun r1 H locs hr1 hP hS => ?_)
        refine lv_istore (lv' := [(6, .int (nI r1)), (5, .int (nI ((i * 6) + n))), (4, .int (nI n)), (0, .ref (a 3)), (1, .int (nI x)), (2, .int (nI i)), (3, .int (nI d))]) hx hb dC_drawFromChains_29 hl (by decide) rfl (fun ls hl => ?_)
        have lp : ∀ (fu : Nat) (r : Nat) (v2 : sU) (ls : Array Slot) (H : Heap) (locs : List Loc), s_ext u v2 → s_snd u v2 (s_chR u x i d) → (∀ q, q < n → ∀ t, t < 6 → s_ch1 u v2 x i d q t ∧ s_ch2 u v2 x i d q t) → (∀ t, t < r → t < 6 → u.1 6 (i * 6 + n) t = true → s_ch1 u v2 x i d n t) → (r < 6 → u.1 6 (i * 6 + n) r = true) → r < 70 → va_P D vwA (sW a kI kL kZ v2) H → va_D (sA a) (sW a kI kL kZ v2) → va_S (sA a) s.heap H locs → 70 - r < fu → lv_has ls 8 [(6, .int (nI r)), (5, .int (nI ((i * 6) + n))), (4, .int (nI n)), (0, .ref (a 3)), (1, .int (nI x)), (2, .int (nI i)), (3, .int (nI d))] → W p l e R s m ([.ref (a 3), .int (nI x), .int (nI i), .int (nI d)] : List Value).toArray below meth c H locs 0 0 Q (F0 m 31 ls []) := by
          intro fu
          induction fu with
          | zero => intros; omega
          | succ fu ih31 =>
            intro r v2 ls H locs k1 k2 k3 k4 k5 k6 hP hD hS hfu hl
            refine lv_iload hx hb dC_drawFromChains_31 (lv_at hl 0 rfl) ?_
            refine lv_bipush (v := nI 6) hx hb dC_drawFromChains_33 (by decide +kernel) ?_
            refine tq_ge hx hb dC_drawFromChains_35 (tgt := 73) (by decide) (by omega) (by omega) (fun h35 => ?_) (fun h35 => ?_)
            · refine lv_iload hx hb dC_drawFromChains_73 (lv_at hl 2 rfl) ?_
              refine lv_bipush (v := nI 6) hx hb dC_drawFromChains_75 (by decide +kernel) ?_
              refine tq_imul hx hb dC_drawFromChains_77 ?_
              refine lv_iload_n hx hb dC_drawFromChains_78 rfl (lv_at hl 5 rfl) ?_
              refine tq_iadd hx hb dC_drawFromChains_79 ?_
              refine lv_istore (lv' := [(6, .int (nI ((n * 6) + i))), (5, .int (nI ((i * 6) + n))), (4, .int (nI n)), (0, .ref (a 3)), (1, .int (nI x)), (2, .int (nI i)), (3, .int (nI d))]) hx hb dC_drawFromChains_80 hl (by decide) rfl (fun ls hl => ?_)
              refine lv_aload_n hx hb dC_drawFromChains_82 rfl (lv_at hl 3 rfl) ?_
              refine gf_C_43 (v := .ref (a 26)) hx hb hA hown hK hP 3 rfl rfl dC_drawFromChains_83 ?_
              refine lv_iload hx hb dC_drawFromChains_86 (lv_at hl 0 rfl) ?_
              refine lv_iconst (v := nI 0) hx hb dC_drawFromChains_88 (by decide +kernel) ?_
              refine k_next ⟨hx, hb, hml, hown, hA⟩ (kw_C_69 hA rfl rfl ⟨Nat.le_trans (Nat.le_of_ble_eq_true rfl) hRf, Nat.le_trans (Nat.le_of_ble_eq_true rfl) hRl⟩) hK hP hS 26 27 1 rfl rfl rfl (by decide) (by omega) (by decide) (by decide) (by omega) (by omega) hl.1 (Nat.le_of_ble_eq_true rfl) ⟨by omega, by omega⟩ dC_drawFromChains_89 (fun r2 H locs hr2 hP hS => ?_)
              refine lv_istore (lv' := [(7, .int (nI r2)), (6, .int (nI ((n * 6) + i))), (5, .int (nI ((i * 6) + n))), (4, .int (nI n)), (0, .ref (a 3)), (1, .int (nI x)), (2, .int (nI i)), (3, .int (nI d))]) hx hb dC_drawFromChains_92 hl (by decide) rfl (fun ls hl => ?_)
              have lp : ∀ (fu : Nat) (q : Nat) (v3 : sU) (ls : Array Slot) (H : Heap) (locs : List Loc), s_ext u v3 → s_snd u v3 (s_chR u x i d) → (∀ q, q < n → ∀ t, t < 6 → s_ch1 u v3 x i d q t ∧ s_ch2 u v3 x i d q t) → (∀ t, t < 6 → s_ch1 u v3 x i d n t) → (∀ t, t < q → t < 6 → u.1 6 (n * 6 + i) t = true → s_ch2 u v3 x i d n t) → (q < 6 → u.1 6 (n * 6 + i) q = true) → q < 70 → va_P D vwA (sW a kI kL kZ v3) H → va_D (sA a) (sW a kI kL kZ v3) → va_S (sA a) s.heap H locs → 70 - q < fu → lv_has ls 8 [(7, .int (nI q)), (6, .int (nI ((n * 6) + i))), (5, .int (nI ((i * 6) + n))), (4, .int (nI n)), (0, .ref (a 3)), (1, .int (nI x)), (2, .int (nI i)), (3, .int (nI d))] → W p l e R s m ([.ref (a 3), .int (nI x), .int (nI i), .int (nI d)] : List Value).toArray below meth c H locs 0 0 Q (F0 m 94 ls []) := by
                intro fu
                induction fu with
                | zero => intros; omega
                | succ fu ih94 =>
                  intro q v3 ls H locs j1 j2 j3 j4 j5 j6 j7 hP hD hS hfu hl
                  refine lv_iload hx hb dC_drawFromChains_94 (lv_at hl 0 rfl) ?_
                  refine lv_bipush (v := nI 6) hx hb dC_drawFromChains_96 (by decide +kernel) ?_
                  refine tq_ge hx hb dC_drawFromChains_98 (tgt := 132) (by decide) (by omega) (by omega) (fun h98 => ?_) (fun h98 => ?_)
                  · refine lv_iinc (k := 3) (lv' := [(4, .int (nI (n + 1))), (7, .int (nI q)), (6, .int (nI ((n * 6) + i))), (5, .int (nI ((i * 6) + n))), (0, .ref (a 3)), (1, .int (nI x)), (2, .int (nI i)), (3, .int (nI d))]) hx hb dC_drawFromChains_132 hl rfl (nI_1 _) (by decide) rfl (fun ls hl => ?_)
                    refine lv_goto hx hb dC_drawFromChains_135 (tgt := 3) (by decide) ?_
                    exact ih3 (n + 1) v3 ls H locs j1 j2 (lt_s (p := fun q => ∀ t, t < 6 → s_ch1 u v3 x i d q t ∧ s_ch2 u v3 x i d q t) j3 (fun t a2 => ⟨j4 t a2, fun a3 => j5 t (by omega) a2 a3 a3⟩)) (by omega) hP hD hS (by omega) (lv_sub hl [0, 4, 5, 6, 7] rfl)
                  · refine lv_aload_n hx hb dC_drawFromChains_101 rfl (lv_at hl 4 rfl) ?_
                    refine lv_iload_n hx hb dC_drawFromChains_102 rfl (lv_at hl 5 rfl) ?_
                    refine lv_iload hx hb dC_drawFromChains_103 (lv_at hl 3 rfl) ?_
                    refine ks_s ⟨hx, hb, hml, hown, hA⟩ (c_row l x n) (kw_C_57 hA rfl rfl ⟨Nat.le_trans (Nat.le_of_ble_eq_true rfl) hRf, Nat.le_trans (Nat.le_of_ble_eq_true rfl) hRl⟩) hP hS rfl hl.1 (Nat.le_of_ble_eq_true rfl) ⟨by omega, by omega⟩ dC_drawFromChains_105 rfl (fun H locs hP hS => ?_)
                    refine lv_iload hx hb dC_drawFromChains_108 (lv_at hl 0 rfl) ?_
                    refine lv_iload_n hx hb dC_drawFromChains_110 rfl (lv_at hl 7 rfl) ?_
                    refine ks_v (wf := sW a kI kL kZ) (u := v3) ⟨hx, hb, hml, hown, hA⟩ (c_addFromAll l D a kI kL kZ v3 x n q d (tr_ext htr j1) (by omega) (by omega) (by omega) (by omega)) (kw_C_113 hA rfl rfl ⟨Nat.le_trans (Nat.le_of_ble_eq_true rfl) hRf, Nat.le_trans (Nat.le_of_ble_eq_true rfl) hRl⟩) hK hP hD hS (fun _ h => h) (fun u' => sW_adr u') 3 3 rfl rfl rfl hl.1 (Nat.le_of_ble_eq_true rfl) ⟨by omega, by omega⟩ dC_drawFromChains_111 rfl (fun u3 H locs hu3 hP hD hS => ?_)
                    refine lv_aload_n hx hb dC_drawFromChains_114 rfl (lv_at hl 4 rfl) ?_
                    refine gf_C_43 (v := .ref (a 26)) hx hb hA hown hK hP 3 rfl rfl dC_drawFromChains_115 ?_
                    refine lv_iload hx hb dC_drawFromChains_118 (lv_at hl 1 rfl) ?_
                    refine lv_iload hx hb dC_drawFromChains_120 (lv_at hl 0 rfl) ?_
                    refine lv_iconst (v := nI 1) hx hb dC_drawFromChains_122 (by decide +kernel) ?_
                    refine tq_iadd hx hb dC_drawFromChains_123 ?_
                    refine k_next ⟨hx, hb, hml, hown, hA⟩ (kw_C_69 hA rfl rfl ⟨Nat.le_trans (Nat.le_of_ble_eq_true rfl) hRf, Nat.le_trans (Nat.le_of_ble_eq_true rfl) hRl⟩) hK hP hS 26 27 1 rfl rfl rfl (by decide) (by omega) (by decide) (by decide) (by omega) (by omega) hl.1 (Nat.le_of_ble_eq_true rfl) ⟨by omega, by omega⟩ dC_drawFromChains_124 (fun r4 H locs hr4 hP hS => ?_)
                    refine lv_istore (lv' := [(7, .int (nI r4)), (6, .int (nI ((n * 6) + i))), (5, .int (nI ((i * 6) + n))), (4, .int (nI n)), (0, .ref (a 3)), (1, .int (nI x)), (2, .int (nI i)), (3, .int (nI d))]) hx hb dC_drawFromChains_127 hl (by decide) rfl (fun ls hl => ?_)
                    refine lv_goto hx hb dC_drawFromChains_129 (tgt := 94) (by decide) ?_
                    rw [(ext_trans j1 hu3.1).2.2.2.2.2.1 6 (by decide)] at hr4
                    have hge := hr4.1
                    have hlt := hr4.2.1
                    exact ih94 r4 u3 ls H locs (ext_trans j1 hu3.1) (ch2_snd h7 h98 hx1 (tr_ext htr j1) (j6 h98) j2 hu3.2) (fun q a1 t a2 => ⟨ch1_mono (j3 q a1 t a2).1 hu3.1, ch2_mono (j3 q a1 t a2).2 hu3.1⟩) (fun t a2 => ch1_mono (j4 t a2) hu3.1) (tm_nx_step (fun b a1 a2 a3 => ch2_mono (j5 b a1 a2 a3) hu3.1) (ch2_yes h7 hx1 (tr_ext htr j1) j1 hu3.2) hr4) hr4.2.2.2 (by omega) hP hD hS (by omega) (lv_sub hl [0, 1, 2, 3, 4, 5, 6, 7] rfl)
              rw [k1.2.2.2.2.2.1 6 (by decide)] at hr2
              have hlt := hr2.2.1
              exact lp _ r2 v2 ls _ _ k1 k2 k3 (fun t a2 a3 => k4 t (by omega) a2 a3 a3) (tm_nx_first hr2) hr2.2.2.2 (by omega) hP hD hS (Nat.lt_succ_self _) (lv_sub hl [0, 1, 2, 3, 4, 5, 6, 7] rfl)
            · refine lv_aload_n hx hb dC_drawFromChains_38 rfl (lv_at hl 3 rfl) ?_
              refine lv_iload_n hx hb dC_drawFromChains_39 rfl (lv_at hl 4 rfl) ?_
              refine lv_iload hx hb dC_drawFromChains_40 (lv_at hl 0 rfl) ?_
              refine lv_aload_n hx hb dC_drawFromChains_42 rfl (lv_at hl 3 rfl) ?_
              refine gf_C_24 (v := .ref (a 14)) hx hb hA hown hK hP 3 rfl rfl dC_drawFromChains_43 ?_
              refine lv_iload_n hx hb dC_drawFromChains_46 rfl (lv_at hl 6 rfl) ?_
              refine lv_iload hx hb dC_drawFromChains_47 (lv_at hl 2 rfl) ?_
              refine ks_s ⟨hx, hb, hml, hown, hA⟩ (c_row l d n) (kw_C_57 hA rfl rfl ⟨Nat.le_trans (Nat.le_of_ble_eq_true rfl) hRf, Nat.le_trans (Nat.le_of_ble_eq_true rfl) hRl⟩) hP hS rfl hl.1 (Nat.le_of_ble_eq_true rfl) ⟨by omega, by omega⟩ dC_drawFromChains_49 rfl (fun H locs hP hS => ?_)
              refine ks_v (wf := sW a kI kL kZ) (u := v2) ⟨hx, hb, hml, hown, hA⟩ (c_addAll0 l D a kI kL kZ v2 x r (d * 7 + n) (by omega) (by omega) (by omega)) (kw_C_126 hA rfl rfl ⟨Nat.le_trans (Nat.le_of_ble_eq_true rfl) hRf, Nat.le_trans (Nat.le_of_ble_eq_true rfl) hRl⟩) hK hP hD hS (fun _ h => h) (fun u' => sW_adr u') 3 3 rfl rfl rfl hl.1 (Nat.le_of_ble_eq_true rfl) ⟨by omega, by omega⟩ dC_drawFromChains_52 rfl (fun u5 H locs hu5 hP hD hS => ?_)
              refine lv_aload_n hx hb dC_drawFromChains_55 rfl (lv_at hl 3 rfl) ?_
              refine gf_C_43 (v := .ref (a 26)) hx hb hA hown hK hP 3 rfl rfl dC_drawFromChains_56 ?_
              refine lv_iload hx hb dC_drawFromChains_59 (lv_at hl 1 rfl) ?_
              refine lv_iload hx hb dC_drawFromChains_61 (lv_at hl 0 rfl) ?_
              refine lv_iconst (v := nI 1) hx hb dC_drawFromChains_63 (by decide +kernel) ?_
              refine tq_iadd hx hb dC_drawFromChains_64 ?_
              refine k_next ⟨hx, hb, hml, hown, hA⟩ (kw_C_69 hA rfl rfl ⟨Nat.le_trans (Nat.le_of_ble_eq_true rfl) hRf, Nat.le_trans (Nat.le_of_ble_eq_true rfl) hRl⟩) hK hP hS 26 27 1 rfl rfl rfl (by decide) (by omega) (by decide) (by decide) (by omega) (by omega) hl.1 (Nat.le_of_ble_eq_true rfl) ⟨by omega, by omega⟩ dC_drawFromChains_65 (fun r6 H locs hr6 hP hS => ?_)
              refine lv_istore (lv' := [(6, .int (nI r6)), (5, .int (nI ((i * 6) + n))), (4, .int (nI n)), (0, .ref (a 3)), (1, .int (nI x)), (2, .int (nI i)), (3, .int (nI d))]) hx hb dC_drawFromChains_68 hl (by decide) rfl (fun ls hl => ?_)
              refine lv_goto hx hb dC_drawFromChains_70 (tgt := 31) (by decide) ?_
              rw [(ext_trans k1 hu5.1).2.2.2.2.2.1 6 (by decide)] at hr6
              have hge := hr6.1
              have hlt := hr6.2.1
              exact ih31 r6 u5 ls H locs (ext_trans k1 hu5.1) (ch1_snd h7 h35 (k5 h35) k2 hu5.2) (fun q a1 t a2 => ⟨ch1_mono (k3 q a1 t a2).1 hu5.1, ch2_mono (k3 q a1 t a2).2 hu5.1⟩) (tm_nx_step (fun b a1 a2 a3 => ch1_mono (k4 b a1 a2 a3) hu5.1) (ch1_yes k1 hu5.2) hr6) hr6.2.2.2 (by omega) hP hD hS (by omega) (lv_sub hl [0, 1, 2, 3, 4, 5, 6] rfl)
        rw [g1.2.2.2.2.2.1 6 (by decide)] at hr1
        have hlt := hr1.2.1
        exact lp _ r1 v ls _ _ g1 g2 g3 (tm_nx_first hr1) hr1.2.2.2 (by omega) hP hD hS (Nat.lt_succ_self _) (lv_sub hl [0, 1, 2, 3, 4, 5, 6] rfl)
  exact lp _ 0 u ls _ _ (ext_refl u) snd_refl (fun q a => absurd a (Nat.not_lt_zero q)) (by omega) hP hD hS (Nat.lt_succ_self _) (lv_sub hl [0, 1, 2, 3, 4] rfl)
