set_option maxHeartbeats 4000000 in
set_option maxRecDepth 100000 in
theorem whole_start {p : Program} {e : Env} {s : State} {m : MethodId} {below : List Frame} {meth : Method} {c : Code} (l : Launch) (hl0 : l.stackTraces = false) {b0 L : Nat} {xs : Nat → Int32} (hL : L ≤ 2048) (C0 : lw_At p s m meth c b0 L xs) : W p l e room_1 s m #[Value.ref b0] below meth c s.heap [] 0 0 (lw_Z below #[Value.ref b0] s) (entryFrame m ([Value.ref b0] : List Value).toArray 7) := by
  obtain ⟨hx, hb, hr, hml, hown0, hts, hXs, hbl, hlocks, hgv⟩ := C0
  have hA : ∀ w ∈ wA, w.before #[Value.ref b0] s = true := fun w h => hts w (wA_tbl h)
  have hown : s.vm.findClass RcL = some m.cls := hown0
  have hs9 := flat_of_before _ hgv
  have hRc : room_1.cells = 601024 := rfl
  have hRs : room_1.slots = 7293033 := rfl
  obtain ⟨c0, i0, k0⟩ := u_known hA inB (hA _ ins_B)
  obtain ⟨c1, i1, k1⟩ := u_known hA inT (hA _ ins_T)
  obtain ⟨c2, i2, k2⟩ := u_known hA inA (hA _ ins_A)
  obtain ⟨c3, i3, k3⟩ := u_known hA inC (hA _ ins_C)
  obtain ⟨c4, i4, k4⟩ := u_known hA inS (hA _ ins_S)
  obtain ⟨c5, i5, k5⟩ := u_known hA inM (hA _ ins_M)
  obtain ⟨kI, qI, pI, eI1, eI2, eI3⟩ := Cond.arrayClass_spec (hA _ arr_int)
  obtain ⟨kL, qL, pL, eL1, eL2, eL3⟩ := Cond.arrayClass_spec (hA _ arr_long)
  obtain ⟨kZ, qZ, pZ, eZ1, eZ2, eZ3⟩ := Cond.arrayClass_spec (hA _ arr_boolean)
  have hD0 : ∃ D : va_G, u_Kn s RcB FcB 3 (D.1 0) (D.2 0) ∧ u_Kn s RcT FcT 8 (D.1 1) (D.2 1) ∧ u_Kn s RcA FcA 7 (D.1 2) (D.2 2) ∧ u_Kn s RcC FcC 12 (D.1 3) (D.2 3) ∧ u_Kn s RcS FcS 5 (D.1 4) (D.2 4) ∧ u_Kn s RcM FcM 19 (D.1 5) (D.2 5) := ⟨(fun j => [c0, c1, c2, c3, c4, c5].getD j c0, fun j => [i0, i1, i2, i3, i4, i5].getD j i0), k0, k1, k2, k3, k4, k5⟩
  obtain ⟨D, d0, d1, d2, d3, d4, d5⟩ := hD0
  have hK : va_K D vwA (sT kI kL kZ) s := by
    refine ⟨fun j q hq => ?_, fun j q hq => ?_⟩
    · match j, hq with
      | 0, hq => cases hq; exact d0
      | 1, hq => cases hq; exact d1
      | 2, hq => cases hq; exact d2
      | 3, hq => cases hq; exact d3
      | 4, hq => cases hq; exact d4
      | 5, hq => cases hq; exact d5
      | j + 6, hq => simp [vwA] at hq
    · match j, hq with
      | 0, hq => cases hq; exact ⟨fun n z => ⟨fun k h => (by cases h), qI, eI2, pI, eI3⟩, eI1⟩
      | 1, hq => cases hq; exact ⟨fun n z => ⟨fun k h => (by cases h), qL, eL2, pL, eL3⟩, eL1⟩
      | 2, hq => cases hq; exact ⟨fun n z => ⟨fun k h => (by cases h), qZ, eZ2, pZ, eZ3⟩, eZ1⟩
      | j + 3, hq => simp [sT] at hq
  have hXX : tq_X s := by
    refine ⟨s, xw_args (b := b0) (fun w hw => ?_), State.WarmedH.refl s, fun _ _ h => h⟩
    simp only [tq_xL, List.mem_cons, List.not_mem_nil, or_false] at hw
    rcases hw with rfl | rfl | rfl | rfl | rfl | rfl | rfl | rfl | rfl | rfl
    all_goals first | exact hts _ (by decide +kernel) | exact hs9 _ (by decide +kernel)
  have hAA : ∀ q : Nat, s.heap.size ≤ q → (fun q => s.heap.size ≤ q) q := fun q h => h
  have hP : va_P D vwA [] s.heap := fun k q h => by simp at h
  have hD : va_D (fun q => s.heap.size ≤ q) [] := ⟨fun i j p q h => by simp at h, fun k q h => by simp at h⟩
  have hS : va_S (fun q => s.heap.size ≤ q) s.heap s.heap [] := va_S.rf
  have hl := lv_entry ([.ref b0]) (n := 7) (Nat.le_of_ble_eq_true rfl)
  rw [lg_entry_eq]
  generalize (lg_sl ([.ref b0]) ++ List.replicate (7 - (lg_sl ([.ref b0])).length) Slot.unset).toArray = ls at hl ⊢
  have hl : lv_has ls 7 [(0, .ref b0)] := hl
  refine va_new (ci := 4) (fs := [.null, .null, .null, .null, .int 0]) (C := RcS) (T := FcS) (N := 5) hx hb hA inS tcS okS hown (hA _ mcl_L_8) (hA _ ins_S) (hA _ ini_S) hK hP hD hS hAA rfl (fun j hj => by match j, hj with | 0, _ => rfl | 1, _ => rfl | 2, _ => rfl | 3, _ => rfl | 4, _ => rfl | z + 5, h => exact absurd h (by omega)) (by omega) (by omega) dL_law_0 (fun x0 H hP hD hS => ?_)
  refine lv_dup hx hb dL_law_3 rfl ?_
  refine kp_I (X := []) (wc := [(x0, .inr (4, [.null, .null, .null, .null, .int 0]))]) (As := []) (rest := [.ref x0]) (wo := fun (z : Nat → Nat) => sW (va_up z 0 x0) kI kL kZ u_0) ⟨hx, hb, hml, hown, hA⟩ (c_S_init l D _ kI kL kZ x0) (kw_L_58 hA rfl rfl ⟨Nat.le_of_ble_eq_true rfl, Nat.le_of_ble_eq_true rfl⟩) hK hP hD hS hAA rfl hl.1 (Nat.le_of_ble_eq_true rfl) ⟨by omega, by omega⟩ dL_law_4 rfl (fun z1 H locs hP hD hS => ?_)
  refine lv_astore_n (lv' := [(1, .ref x0), (0, .ref b0)]) hx hb dL_law_7 rfl hl (by decide) rfl (fun ls hl => ?_)
  refine va_new (ci := 5) (fs := [.int 0, .int 0, .null, .null, .null, .int 0, .null, .null, .null, .null, .null, .null, .int 0, .int 0, .null, .null, .null, .int 0, .null]) (C := RcM) (T := FcM) (N := 19) hx hb hA inM tcM okM hown (hA _ mcl_L_59) (hA _ ins_M) (hA _ ini_M) hK hP hD hS hAA rfl (fun j hj => by match j, hj with | 0, _ => rfl | 1, _ => rfl | 2, _ => rfl | 3, _ => rfl | 4, _ => rfl | 5, _ => rfl | 6, _ => rfl | 7, _ => rfl | 8, _ => rfl | 9, _ => rfl | 10, _ => rfl | 11, _ => rfl | 12, _ => rfl | 13, _ => rfl | 14, _ => rfl | 15, _ => rfl | 16, _ => rfl | 17, _ => rfl | 18, _ => rfl | z + 19, h => exact absurd h (by omega)) (by omega) (by omega) dL_law_8 (fun m0 H hP hD hS => ?_)
  refine lv_dup hx hb dL_law_11 rfl ?_
  refine kp_I (X := sW (va_up z1 0 x0) kI kL kZ u_0) (wc := [(m0, .inr (5, [.int 0, .int 0, .null, .null, .null, .int 0, .null, .null, .null, .null, .null, .null, .int 0, .int 0, .null, .null, .null, .int 0, .null]))]) (As := []) (rest := [.ref m0]) (wo := fun (z : Nat → Nat) => mW (va_up z 0 m0) kI kL kZ v_0) ⟨hx, hb, hml, hown, hA⟩ (c_M_init l D _ kI kL kZ m0) (kw_L_61 hA rfl rfl ⟨Nat.le_of_ble_eq_true rfl, Nat.le_of_ble_eq_true rfl⟩) hK hP hD hS hAA rfl hl.1 (Nat.le_of_ble_eq_true rfl) ⟨by omega, by omega⟩ dL_law_12 rfl (fun z2 H locs hP hD hS => ?_)
  refine lv_astore_n (lv' := [(2, .ref m0), (1, .ref x0), (0, .ref b0)]) hx hb dL_law_15 rfl hl (by decide) rfl (fun ls hl => ?_)
  refine lv_iconst (v := nI 1) hx hb dL_law_16 (by decide +kernel) ?_
  refine tq_newa (atype := .long) (a0 := (1, .inr (.inl (bw 1 (fun _ _ => false))))) (N' := 1) hx hb (hA _ arr_long) rfl hP hD hS hAA (hK.2 1 _ rfl).2 (tq_haJ _ _ _) (nI_nn (by omega)) (nI_clamp (by omega)) (by decide) (by omega) (by omega) dL_law_17 (fun o0 H hP hD hS => ?_)
  refine lv_astore_n (lv' := [(3, .ref o0), (2, .ref m0), (1, .ref x0), (0, .ref b0)]) hx hb dL_law_19 rfl hl (by decide) rfl (fun ls hl => ?_)
  refine lv_iconst (v := nI 0) hx hb dL_law_20 (by decide +kernel) ?_
  refine lv_istore (lv' := [(4, .int (nI 0)), (3, .ref o0), (2, .ref m0), (1, .ref x0), (0, .ref b0)]) hx hb dL_law_21 hl (by decide) rfl (fun ls hl => ?_)
  refine W.widen (k := 100 + 0) (n := 20000 + 6 * 0) (by omega) (by omega) ?_
  exact lw_loop (a := va_up z1 0 x0) (b := va_up z2 0 m0) (o := o0) (D := D) ⟨hx, hb, hml, hown, hA, hXs, hbl, hK, hXX, hl0, Nat.le_of_ble_eq_true rfl, Nat.le_of_ble_eq_true rfl⟩ hL hr hlocks 2053 0 u_0 v_0 (bw 1 (fun _ _ => false)) H locs ls ⟨_, _, _, _, _, _, _, _, _, _, _, _, inv_0, minv_0⟩ (ord_P hP) (ord_D hD) hS (lv_sub hl [4, 3, 2, 1, 0] rfl) (by omega) (by omega)
