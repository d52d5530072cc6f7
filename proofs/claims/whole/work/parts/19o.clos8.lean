/-! The contracts of Closure.place, placeWithAbove, placeAll. Written by wip/whole/gen/genclos8.py. -/
set_option maxHeartbeats 4000000 in
set_option maxRecDepth 100000 in
/-- c_place -/
theorem c_place (l : Launch) (D : va_G) (a : Nat → Nat) (kI kL kZ : ClassId) (u : sU) (N : Nat) (kd fa fb : Nat → Nat) (T : Nat) (so xa xb xc : Nat → Nat) (hc : s_cinv u N kd fa fb T so xa xb xc) (d : Nat) (hd : d < N) : Met l yC_place (wC_place :: wA) ({ frames := 5, cells := 0, slots := 0, locals := 127 }) (va_Pc [.ref (a 3), .int (nI d)] (tq_wB D vwA (sW a kI kL kZ u) (sT kI kL kZ))) (va_Qv (fun (u' : sU) => s_full u u' N kd fa fb T so xa xb xc ∧ u'.1 0 (d * 7 + 6) d = true ∧ (u.2.2 6 = 0 → ∀ y b, u.1 0 y b = true → u'.1 0 y b = true)) (fun u' t => va_P D vwA (sW a kI kL kZ u') t.heap) (sA a)) 0 0 (sA a) := by
  refine Met.ofW (cc := bC_place) (maxL := 2) (ret := none) (by decide +kernel) rfl ?_
  intro p e s m args below meth c s₁ B1 hml hv
  obtain ⟨rfl, hP, hK, hD0⟩ := hv
  have hx := B1.exec
  have hb := B1.bytes
  have hr := B1.returns
  have hA : ∀ w ∈ wA, w.before ([.ref (a 3), .int (nI d)] : List Value).toArray s = true := fun w h => atoms_spec (ws := wC_place :: wA) B1.pre w (List.mem_cons_of_mem _ h)
  have hown : s.vm.findClass RcC = some m.cls := findClass_of_methodNamed B1.named
  have hlocks := B1.notSynchronized
  have hS : va_S (sA a) s.heap s.heap [] := va_S.rf
  have hl := lv_entry ([.ref (a 3), .int (nI d)]) (n := 2) (Nat.le_of_ble_eq_true rfl)
  rw [lg_entry_eq]
  generalize (lg_sl ([.ref (a 3), .int (nI d)]) ++ List.replicate (2 - (lg_sl ([.ref (a 3), .int (nI d)])).length) Slot.unset).toArray = ls at hl ⊢
  have hl : lv_has ls 2 [(0, .ref (a 3)), (1, .int (nI d))] := hl
  refine tq_gen (fun R Q hRe hQe => ?_)
  have hRf : 5 ≤ R.frames := by rw [hRe]; exact Nat.le_of_ble_eq_true rfl
  have hRl : 127 ≤ R.locals := by rw [hRe]; exact Nat.le_of_ble_eq_true rfl
  have hRc : 0 ≤ R.cells := by rw [hRe]; exact Nat.le_of_ble_eq_true rfl
  have hRs : 0 ≤ R.slots := by rw [hRe]; exact Nat.le_of_ble_eq_true rfl
  have hD := sA_D hD0
  have hN := tm_N hc.1.1
  refine lv_aload_n hx hb dC_place_0 rfl (lv_at hl 0 rfl) ?_
  refine ks_v (wf := sW a kI kL kZ) (u := u) ⟨hx, hb, hml, hown, hA⟩ (c_catchUp l D a kI kL kZ u N kd fa fb T so xa xb xc hc ) (kw_C_72 hA rfl rfl ⟨Nat.le_trans (Nat.le_of_ble_eq_true rfl) hRf, Nat.le_trans (Nat.le_of_ble_eq_true rfl) hRl⟩) hK hP hD hS (fun _ h => h) (fun u' => sW_adr u') 3 3 rfl rfl rfl hl.1 (Nat.le_of_ble_eq_true rfl) ⟨by omega, by omega⟩ dC_place_1 rfl (fun u1 H locs hu1 hP hD hS => ?_)
  have hug := hu1.2
  replace hu1 := hu1.1
  refine lv_aload_n hx hb dC_place_4 rfl (lv_at hl 0 rfl) ?_
  refine lv_iload_n hx hb dC_place_5 rfl (lv_at hl 1 rfl) ?_
  refine ks_v (wf := sW a kI kL kZ) (u := u1) ⟨hx, hb, hml, hown, hA⟩ (c_begin l D a kI kL kZ u1 d (by omega)) (kw_C_75 hA rfl rfl ⟨Nat.le_trans (Nat.le_of_ble_eq_true rfl) hRf, Nat.le_trans (Nat.le_of_ble_eq_true rfl) hRl⟩) hK hP hD hS (fun _ h => h) (fun u' => sW_adr u') 3 3 rfl rfl rfl hl.1 (Nat.le_of_ble_eq_true rfl) ⟨by omega, by omega⟩ dC_place_6 rfl (fun u2 H locs hu2 hP hD hS => ?_)
  refine lv_aload_n hx hb dC_place_9 rfl (lv_at hl 0 rfl) ?_
  refine ks_v (wf := sW a kI kL kZ) (u := u2) ⟨hx, hb, hml, hown, hA⟩ (c_saturate l D a kI kL kZ u2 N kd fa fb (mid_begin hu1.1 (by omega) hu2).1 (mid_begin hu1.1 (by omega) hu2).2.1 (mid_begin hu1.1 (by omega) hu2).2.2.1 ) (kw_C_79 hA rfl rfl ⟨Nat.le_trans (Nat.le_of_ble_eq_true rfl) hRf, Nat.le_trans (Nat.le_of_ble_eq_true rfl) hRl⟩) hK hP hD hS (fun _ h => h) (fun u' => sW_adr u') 3 3 rfl rfl rfl hl.1 (Nat.le_of_ble_eq_true rfl) ⟨by omega, by omega⟩ dC_place_10 rfl (fun u3 H locs hu3 hP hD hS => ?_)
  subst hQe
  exact W.vret hx hb hr (fun t ht hW => ⟨⟨u3, rfl, ⟨full_of hu1 (mid_begin hu1.1 hd hu2) (gro_ext hu2.1) hu3, hu3.2.2.2.2.1.1 _ _ (begin_d hu2.2), fun z y b q => hu3.2.2.2.2.1.1 _ _ (hu2.1.1 _ _ (hug z y b q))⟩, tq_hp ht hP⟩, hS.F ht⟩) hS.2.2 dC_place_13
set_option maxHeartbeats 4000000 in
set_option maxRecDepth 100000 in
/-- c_placeAll -/
theorem c_placeAll (l : Launch) (D : va_G) (a : Nat → Nat) (kI kL kZ : ClassId) (u : sU) (N : Nat) (kd fa fb : Nat → Nat) (T : Nat) (so xa xb xc : Nat → Nat) (hc : s_cinv u N kd fa fb T so xa xb xc)  : Met l yC_placeAll (wC_placeAll :: wA) ({ frames := 5, cells := 0, slots := 0, locals := 127 }) (va_Pc [.ref (a 3)] (tq_wB D vwA (sW a kI kL kZ u) (sT kI kL kZ))) (va_Qv (fun (u' : sU) => s_full u u' N kd fa fb T so xa xb xc ∧ ∀ b, b < N → u'.1 0 (b * 7 + 6) b = true) (fun u' t => va_P D vwA (sW a kI kL kZ u') t.heap) (sA a)) 0 0 (sA a) := by
  refine Met.ofW (cc := bC_placeAll) (maxL := 2) (ret := none) (by decide +kernel) rfl ?_
  intro p e s m args below meth c s₁ B1 hml hv
  obtain ⟨rfl, hP, hK, hD0⟩ := hv
  have hx := B1.exec
  have hb := B1.bytes
  have hr := B1.returns
  have hA : ∀ w ∈ wA, w.before ([.ref (a 3)] : List Value).toArray s = true := fun w h => atoms_spec (ws := wC_placeAll :: wA) B1.pre w (List.mem_cons_of_mem _ h)
  have hown : s.vm.findClass RcC = some m.cls := findClass_of_methodNamed B1.named
  have hlocks := B1.notSynchronized
  have hS : va_S (sA a) s.heap s.heap [] := va_S.rf
  have hl := lv_entry ([.ref (a 3)]) (n := 2) (Nat.le_of_ble_eq_true rfl)
  rw [lg_entry_eq]
  generalize (lg_sl ([.ref (a 3)]) ++ List.replicate (2 - (lg_sl ([.ref (a 3)])).length) Slot.unset).toArray = ls at hl ⊢
  have hl : lv_has ls 2 [(0, .ref (a 3))] := hl
  refine tq_gen (fun R Q hRe hQe => ?_)
  have hRf : 5 ≤ R.frames := by rw [hRe]; exact Nat.le_of_ble_eq_true rfl
  have hRl : 127 ≤ R.locals := by rw [hRe]; exact Nat.le_of_ble_eq_true rfl
  have hRc : 0 ≤ R.cells := by rw [hRe]; exact Nat.le_of_ble_eq_true rfl
  have hRs : 0 ≤ R.slots := by rw [hRe]; exact Nat.le_of_ble_eq_true rfl
  have hD := sA_D hD0
  have hN := tm_N hc.1.1
  refine lv_aload_n hx hb dC_placeAll_0 rfl (lv_at hl 0 rfl) ?_
  refine ks_v (wf := sW a kI kL kZ) (u := u) ⟨hx, hb, hml, hown, hA⟩ (c_catchUp l D a kI kL kZ u N kd fa fb T so xa xb xc hc ) (kw_C_72 hA rfl rfl ⟨Nat.le_trans (Nat.le_of_ble_eq_true rfl) hRf, Nat.le_trans (Nat.le_of_ble_eq_true rfl) hRl⟩) hK hP hD hS (fun _ h => h) (fun u' => sW_adr u') 3 3 rfl rfl rfl hl.1 (Nat.le_of_ble_eq_true rfl) ⟨by omega, by omega⟩ dC_placeAll_1 rfl (fun u1 H locs hu1 hP hD hS => ?_)
  have hug := hu1.2
  replace hu1 := hu1.1
  refine lv_iconst (v := nI 0) hx hb dC_placeAll_4 (by decide +kernel) ?_
  refine lv_istore_n (lv' := [(1, .int (nI 0)), (0, .ref (a 3))]) hx hb dC_placeAll_5 rfl hl (by decide) rfl (fun ls hl => ?_)
  have lp : ∀ (fu : Nat) (n : Nat) (v : sU) (ls : Array Slot) (H : Heap) (locs : List Loc), s_mid v N kd fa fb N → s_gro u1 v → (∀ b, b < n → v.1 0 (b * 7 + 6) b = true) → n ≤ N → va_P D vwA (sW a kI kL kZ v) H → va_D (sA a) (sW a kI kL kZ v) → va_S (sA a) s.heap H locs → N - n < fu → lv_has ls 2 [(1, .int (nI n)), (0, .ref (a 3))] → W p l e R s m ([.ref (a 3)] : List Value).toArray below meth c H locs 0 0 Q (F0 m 6 ls []) := by
    intro fu
    induction fu with
    | zero => intros; omega
    | succ fu ih6 =>
      intro n v ls H locs g1 g2 g3 g4 hP hD hS hfu hl
      refine lv_iload_n hx hb dC_placeAll_6 rfl (lv_at hl 0 rfl) ?_
      refine lv_aload_n hx hb dC_placeAll_7 rfl (lv_at hl 1 rfl) ?_
      refine gf_C_11 (v := .ref (a 1)) hx hb hA hown hK hP 3 rfl rfl dC_placeAll_8 ?_
      refine ks_rv ⟨hx, hb, hml, hown, hA⟩ (c_size l D a kI kL kZ v  ) (kw_C_82 hA rfl rfl ⟨Nat.le_trans (Nat.le_of_ble_eq_true rfl) hRf, Nat.le_trans (Nat.le_of_ble_eq_true rfl) hRl⟩) hK hP hS 1 1 rfl rfl rfl hl.1 (Nat.le_of_ble_eq_true rfl) ⟨by omega, by omega⟩ dC_placeAll_11 rfl (fun H locs hP hS => ?_)
      refine tq_i (congrArg nI (tm_N g1.1.1).1) ?_
      refine tq_ge hx hb dC_placeAll_14 (tgt := 28) (by decide) (by omega) (by omega) (fun h14 => ?_) (fun h14 => ?_)
      · refine lv_aload_n hx hb dC_placeAll_28 rfl (lv_at hl 1 rfl) ?_
        refine ks_v (wf := sW a kI kL kZ) (u := v) ⟨hx, hb, hml, hown, hA⟩ (c_saturate l D a kI kL kZ v N kd fa fb g1.1 g1.2.1 g1.2.2.1 ) (kw_C_79 hA rfl rfl ⟨Nat.le_trans (Nat.le_of_ble_eq_true rfl) hRf, Nat.le_trans (Nat.le_of_ble_eq_true rfl) hRl⟩) hK hP hD hS (fun _ h => h) (fun u' => sW_adr u') 3 3 rfl rfl rfl hl.1 (Nat.le_of_ble_eq_true rfl) ⟨by omega, by omega⟩ dC_placeAll_29 rfl (fun u2 H locs hu2 hP hD hS => ?_)
        subst hQe
        exact W.vret hx hb hr (fun t ht hW => ⟨⟨u2, rfl, ⟨full_of hu1 g1 g2 hu2, fun b z => hu2.2.2.2.2.1.1 _ _ (g3 b (by omega))⟩, tq_hp ht hP⟩, hS.F ht⟩) hS.2.2 dC_placeAll_32
      · refine lv_aload_n hx hb dC_placeAll_17 rfl (lv_at hl 1 rfl) ?_
        refine lv_iload_n hx hb dC_placeAll_18 rfl (lv_at hl 0 rfl) ?_
        refine ks_v (wf := sW a kI kL kZ) (u := v) ⟨hx, hb, hml, hown, hA⟩ (c_begin l D a kI kL kZ v n (by omega)) (kw_C_75 hA rfl rfl ⟨Nat.le_trans (Nat.le_of_ble_eq_true rfl) hRf, Nat.le_trans (Nat.le_of_ble_eq_true rfl) hRl⟩) hK hP hD hS (fun _ h => h) (fun u' => sW_adr u') 3 3 rfl rfl rfl hl.1 (Nat.le_of_ble_eq_true rfl) ⟨by omega, by omega⟩ dC_placeAll_19 rfl (fun u3 H locs hu3 hP hD hS => ?_)
        refine lv_iinc (k := 0) (lv' := [(1, .int (nI (n + 1))), (0, .ref (a 3))]) hx hb dC_placeAll_22 hl rfl (nI_1 _) (by decide) rfl (fun ls hl => ?_)
        refine lv_goto hx hb dC_placeAll_25 (tgt := 6) (by decide) ?_
        exact ih6 (n + 1) u3 ls H locs (mid_begin g1 (by omega) hu3) (gro_trans g2 (gro_ext hu3.1)) (lt_s (p := fun b => u3.1 0 (b * 7 + 6) b = true) (fun b z => hu3.1.1 _ _ (g3 b z)) (begin_d hu3.2)) (by omega) hP hD hS (by omega) (lv_sub hl [0, 1] rfl)
  exact lp _ 0 u1 ls _ _ hu1.1 (gro_refl u1) (fun b z => absurd z (Nat.not_lt_zero b)) (by omega) hP hD hS (Nat.lt_succ_self _) (lv_sub hl [0, 1] rfl)
theorem above_mono {u v : sU} {d k : Nat} (hg : s_gro u v) (h : (u.1 0 (d * 7 + 6) 1 || u.1 0 (d * 7 + 6) k) = true) : (v.1 0 (d * 7 + 6) 1 || v.1 0 (d * 7 + 6) k) = true := by
  rw [Bool.or_eq_true] at h ⊢
  exact h.elim (fun z => Or.inl (hg.1 _ _ z)) (fun z => Or.inr (hg.1 _ _ z))
set_option maxHeartbeats 4000000 in
set_option maxRecDepth 100000 in
/-- c_placeWithAbove -/
theorem c_placeWithAbove (l : Launch) (D : va_G) (a : Nat → Nat) (kI kL kZ : ClassId) (u : sU) (N : Nat) (kd fa fb : Nat → Nat) (T : Nat) (so xa xb xc : Nat → Nat) (hc : s_cinv u N kd fa fb T so xa xb xc) (d : Nat) (hd : d < N) : Met l yC_placeWithAbove (wC_placeWithAbove :: wA) ({ frames := 5, cells := 0, slots := 0, locals := 127 }) (va_Pc [.ref (a 3), .int (nI d)] (tq_wB D vwA (sW a kI kL kZ u) (sT kI kL kZ))) (va_Qv (fun (u' : sU) => s_full u u' N kd fa fb T so xa xb xc ∧ u'.1 0 (d * 7 + 6) d = true ∧ ∀ b, b < N → b_Bel N kd fa fb so xa xb xc (x_inf u) d b → u'.1 0 (b * 7 + 6) b = true) (fun u' t => va_P D vwA (sW a kI kL kZ u') t.heap) (sA a)) 0 0 (sA a) := by
  refine Met.ofW (cc := bC_placeWithAbove) (maxL := 3) (ret := none) (by decide +kernel) rfl ?_
  intro p e s m args below meth c s₁ B1 hml hv
  obtain ⟨rfl, hP, hK, hD0⟩ := hv
  have hx := B1.exec
  have hb := B1.bytes
  have hr := B1.returns
  have hA : ∀ w ∈ wA, w.before ([.ref (a 3), .int (nI d)] : List Value).toArray s = true := fun w h => atoms_spec (ws := wC_placeWithAbove :: wA) B1.pre w (List.mem_cons_of_mem _ h)
  have hown : s.vm.findClass RcC = some m.cls := findClass_of_methodNamed B1.named
  have hlocks := B1.notSynchronized
  have hS : va_S (sA a) s.heap s.heap [] := va_S.rf
  have hl := lv_entry ([.ref (a 3), .int (nI d)]) (n := 3) (Nat.le_of_ble_eq_true rfl)
  rw [lg_entry_eq]
  generalize (lg_sl ([.ref (a 3), .int (nI d)]) ++ List.replicate (3 - (lg_sl ([.ref (a 3), .int (nI d)])).length) Slot.unset).toArray = ls at hl ⊢
  have hl : lv_has ls 3 [(0, .ref (a 3)), (1, .int (nI d))] := hl
  refine tq_gen (fun R Q hRe hQe => ?_)
  have hRf : 5 ≤ R.frames := by rw [hRe]; exact Nat.le_of_ble_eq_true rfl
  have hRl : 127 ≤ R.locals := by rw [hRe]; exact Nat.le_of_ble_eq_true rfl
  have hRc : 0 ≤ R.cells := by rw [hRe]; exact Nat.le_of_ble_eq_true rfl
  have hRs : 0 ≤ R.slots := by rw [hRe]; exact Nat.le_of_ble_eq_true rfl
  have hD := sA_D hD0
  have hN := tm_N hc.1.1
  refine lv_aload_n hx hb dC_placeWithAbove_0 rfl (lv_at hl 0 rfl) ?_
  refine ks_v (wf := sW a kI kL kZ) (u := u) ⟨hx, hb, hml, hown, hA⟩ (c_catchUp l D a kI kL kZ u N kd fa fb T so xa xb xc hc ) (kw_C_72 hA rfl rfl ⟨Nat.le_trans (Nat.le_of_ble_eq_true rfl) hRf, Nat.le_trans (Nat.le_of_ble_eq_true rfl) hRl⟩) hK hP hD hS (fun _ h => h) (fun u' => sW_adr u') 3 3 rfl rfl rfl hl.1 (Nat.le_of_ble_eq_true rfl) ⟨by omega, by omega⟩ dC_placeWithAbove_1 rfl (fun u1 H locs hu1 hP hD hS => ?_)
  have hug := hu1.2
  replace hu1 := hu1.1
  refine lv_aload_n hx hb dC_placeWithAbove_4 rfl (lv_at hl 0 rfl) ?_
  refine lv_iload_n hx hb dC_placeWithAbove_5 rfl (lv_at hl 1 rfl) ?_
  refine ks_v (wf := sW a kI kL kZ) (u := u1) ⟨hx, hb, hml, hown, hA⟩ (c_begin l D a kI kL kZ u1 d (by omega)) (kw_C_75 hA rfl rfl ⟨Nat.le_trans (Nat.le_of_ble_eq_true rfl) hRf, Nat.le_trans (Nat.le_of_ble_eq_true rfl) hRl⟩) hK hP hD hS (fun _ h => h) (fun u' => sW_adr u') 3 3 rfl rfl rfl hl.1 (Nat.le_of_ble_eq_true rfl) ⟨by omega, by omega⟩ dC_placeWithAbove_6 rfl (fun u2 H locs hu2 hP hD hS => ?_)
  refine lv_aload_n hx hb dC_placeWithAbove_9 rfl (lv_at hl 0 rfl) ?_
  refine ks_v (wf := sW a kI kL kZ) (u := u2) ⟨hx, hb, hml, hown, hA⟩ (c_saturate l D a kI kL kZ u2 N kd fa fb (mid_begin hu1.1 (by omega) hu2).1 (mid_begin hu1.1 (by omega) hu2).2.1 (mid_begin hu1.1 (by omega) hu2).2.2.1 ) (kw_C_79 hA rfl rfl ⟨Nat.le_trans (Nat.le_of_ble_eq_true rfl) hRf, Nat.le_trans (Nat.le_of_ble_eq_true rfl) hRl⟩) hK hP hD hS (fun _ h => h) (fun u' => sW_adr u') 3 3 rfl rfl rfl hl.1 (Nat.le_of_ble_eq_true rfl) ⟨by omega, by omega⟩ dC_placeWithAbove_10 rfl (fun u3 H locs hu3 hP hD hS => ?_)
  have hf1 := full_of hu1 (mid_begin hu1.1 hd hu2) (gro_ext hu2.1) hu3
  have hf2 := hu3.2.2.2.2.1.1 _ _ (begin_d hu2.2)
  refine lv_iconst (v := nI 0) hx hb dC_placeWithAbove_13 (by decide +kernel) ?_
  refine lv_istore_n (lv' := [(2, .int (nI 0)), (0, .ref (a 3)), (1, .int (nI d))]) hx hb dC_placeWithAbove_14 rfl hl (by decide) rfl (fun ls hl => ?_)
  have lp : ∀ (fu : Nat) (n : Nat) (v : sU) (ls : Array Slot) (H : Heap) (locs : List Loc), s_mid v N kd fa fb N → s_gro u3 v → (∀ b, b < n → b_Bel N kd fa fb so xa xb xc (x_inf u) d b → v.1 0 (b * 7 + 6) b = true) → n ≤ N → va_P D vwA (sW a kI kL kZ v) H → va_D (sA a) (sW a kI kL kZ v) → va_S (sA a) s.heap H locs → N - n < fu → lv_has ls 3 [(2, .int (nI n)), (0, .ref (a 3)), (1, .int (nI d))] → W p l e R s m ([.ref (a 3), .int (nI d)] : List Value).toArray below meth c H locs 0 0 Q (F0 m 15 ls []) := by
    intro fu
    induction fu with
    | zero => intros; omega
    | succ fu ih15 =>
      intro n v ls H locs g1 g2 g3 g4 hP hD hS hfu hl
      refine lv_iload_n hx hb dC_placeWithAbove_15 rfl (lv_at hl 0 rfl) ?_
      refine lv_aload_n hx hb dC_placeWithAbove_16 rfl (lv_at hl 1 rfl) ?_
      refine gf_C_11 (v := .ref (a 1)) hx hb hA hown hK hP 3 rfl rfl dC_placeWithAbove_17 ?_
      refine ks_rv ⟨hx, hb, hml, hown, hA⟩ (c_size l D a kI kL kZ v  ) (kw_C_82 hA rfl rfl ⟨Nat.le_trans (Nat.le_of_ble_eq_true rfl) hRf, Nat.le_trans (Nat.le_of_ble_eq_true rfl) hRl⟩) hK hP hS 1 1 rfl rfl rfl hl.1 (Nat.le_of_ble_eq_true rfl) ⟨by omega, by omega⟩ dC_placeWithAbove_20 rfl (fun H locs hP hS => ?_)
      refine tq_i (congrArg nI (tm_N g1.1.1).1) ?_
      refine tq_ge hx hb dC_placeWithAbove_23 (tgt := 46) (by decide) (by omega) (by omega) (fun h23 => ?_) (fun h23 => ?_)
      · refine lv_aload_n hx hb dC_placeWithAbove_46 rfl (lv_at hl 1 rfl) ?_
        refine ks_v (wf := sW a kI kL kZ) (u := v) ⟨hx, hb, hml, hown, hA⟩ (c_saturate l D a kI kL kZ v N kd fa fb g1.1 g1.2.1 g1.2.2.1 ) (kw_C_79 hA rfl rfl ⟨Nat.le_trans (Nat.le_of_ble_eq_true rfl) hRf, Nat.le_trans (Nat.le_of_ble_eq_true rfl) hRl⟩) hK hP hD hS (fun _ h => h) (fun u' => sW_adr u') 3 3 rfl rfl rfl hl.1 (Nat.le_of_ble_eq_true rfl) ⟨by omega, by omega⟩ dC_placeWithAbove_47 rfl (fun u4 H locs hu4 hP hD hS => ?_)
        subst hQe
        exact W.vret hx hb hr (fun t ht hW => ⟨⟨u4, rfl, ⟨full_of (full_caught hf1) g1 g2 hu4, hu4.2.2.2.2.1.1 _ _ (g2.1 _ _ hf2), fun b z1 z2 => hu4.2.2.2.2.1.1 _ _ (g3 b (by omega) z2)⟩, tq_hp ht hP⟩, hS.F ht⟩) hS.2.2 dC_placeWithAbove_50
      · refine lv_aload_n hx hb dC_placeWithAbove_26 rfl (lv_at hl 1 rfl) ?_
        refine lv_iload_n hx hb dC_placeWithAbove_27 rfl (lv_at hl 2 rfl) ?_
        refine lv_iload_n hx hb dC_placeWithAbove_28 rfl (lv_at hl 0 rfl) ?_
        refine ks_rv ⟨hx, hb, hml, hown, hA⟩ (c_covers l D a kI kL kZ v d n (by omega) (by omega)) (kw_C_88 hA rfl rfl ⟨Nat.le_trans (Nat.le_of_ble_eq_true rfl) hRf, Nat.le_trans (Nat.le_of_ble_eq_true rfl) hRl⟩) hK hP hS 3 3 rfl rfl rfl hl.1 (Nat.le_of_ble_eq_true rfl) ⟨by omega, by omega⟩ dC_placeWithAbove_29 rfl (fun H locs hP hS => ?_)
        refine tq_bf hx hb dC_placeWithAbove_32 (tgt := 40) (by decide) (fun h32 => ?_) (fun h32 => ?_)
        · refine lv_iinc (k := 0) (lv' := [(2, .int (nI (n + 1))), (0, .ref (a 3)), (1, .int (nI d))]) hx hb dC_placeWithAbove_40 hl rfl (nI_1 _) (by decide) rfl (fun ls hl => ?_)
          refine lv_goto hx hb dC_placeWithAbove_43 (tgt := 15) (by decide) ?_
          exact ih15 (n + 1) v ls H locs g1 g2 (lt_s (p := fun b => b_Bel N kd fa fb so xa xb xc (x_inf u) d b → v.1 0 (b * 7 + 6) b = true) g3 (fun z => absurd (above_mono g2 ((full_bel hc hf1 hf2 h23).mpr z)) (by rw [h32]; decide))) (by omega) hP hD hS (by omega) (lv_sub hl [0, 1, 2] rfl)
        · refine lv_aload_n hx hb dC_placeWithAbove_35 rfl (lv_at hl 1 rfl) ?_
          refine lv_iload_n hx hb dC_placeWithAbove_36 rfl (lv_at hl 0 rfl) ?_
          refine ks_v (wf := sW a kI kL kZ) (u := v) ⟨hx, hb, hml, hown, hA⟩ (c_begin l D a kI kL kZ v n (by omega)) (kw_C_75 hA rfl rfl ⟨Nat.le_trans (Nat.le_of_ble_eq_true rfl) hRf, Nat.le_trans (Nat.le_of_ble_eq_true rfl) hRl⟩) hK hP hD hS (fun _ h => h) (fun u' => sW_adr u') 3 3 rfl rfl rfl hl.1 (Nat.le_of_ble_eq_true rfl) ⟨by omega, by omega⟩ dC_placeWithAbove_37 rfl (fun u5 H locs hu5 hP hD hS => ?_)
          refine lv_iinc (k := 0) (lv' := [(2, .int (nI (n + 1))), (0, .ref (a 3)), (1, .int (nI d))]) hx hb dC_placeWithAbove_40 hl rfl (nI_1 _) (by decide) rfl (fun ls hl => ?_)
          refine lv_goto hx hb dC_placeWithAbove_43 (tgt := 15) (by decide) ?_
          exact ih15 (n + 1) u5 ls H locs (mid_begin g1 (by omega) hu5) (gro_trans g2 (gro_ext hu5.1)) (lt_s (p := fun b => b_Bel N kd fa fb so xa xb xc (x_inf u) d b → u5.1 0 (b * 7 + 6) b = true) (fun b z1 z2 => hu5.1.1 _ _ (g3 b z1 z2)) (fun _ => begin_d hu5.2)) (by omega) hP hD hS (by omega) (lv_sub hl [0, 1, 2] rfl)
  exact lp _ 0 u3 ls _ _ (full_mid hf1) (gro_refl u3) (fun b z => absurd z (Nat.not_lt_zero b)) (by omega) hP hD hS (Nat.lt_succ_self _) (lv_sub hl [0, 1, 2] rfl)
