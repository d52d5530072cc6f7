/-! The law's cases. Written by wip/whole/gen/genL2.py. -/
set_option maxHeartbeats 4000000 in
set_option maxRecDepth 100000 in
theorem lg_name {p : Program} {l : Launch} {e : Env} {R : Room} {s : State} {m : MethodId} {args : Array Value} {below : List Frame} {meth : Method} {c : Code} {H : Heap} {locs : List Loc} {cells slots : Nat} {Q : State → Prop} {ls : Array Slot} {b0 L : Nat} {xs : Nat → Int32} {D : va_G} {kI kL kZ : ClassId} {a b : Nat → Nat} {o : Nat} {u v : sU} {f : Nat → Int64} {ix : Nat} (h0 : lw_C p l R s m args c b0 L xs D kI kL kZ) (hi : ix + 4 ≤ L) (hL : L ≤ 2048) {N : Nat} {kd fa fb : Nat → Nat} {T : Nat} {so xa xb xc : Nat → Nat} {F : Nat → Prop} {M : Nat} {rs : Nat → Nat} (hI : s_inv u N kd fa fb T so xa xb xc F M rs) (hM : m_inv v N kd fa fb T so xa xb xc F M rs)  (hP : va_P D vwA (lW a o b kI kL kZ u f v) H) (hD : va_D (fun q => s.heap.size ≤ q) (lW a o b kI kL kZ u f v)) (hS : va_S (fun q => s.heap.size ≤ q) s.heap H locs) (hl : lv_has ls 7 [(0, .ref b0), (1, .ref (a 0)), (2, .ref (b 0)), (3, .ref o), (4, .int (nI ix))]) (hcs : cells + 1 ≤ R.cells ∧ slots + 6 ≤ R.slots) (kk : ∀ (u v : sU) (f : Nat → Int64) (H : Heap) (locs : List Loc) (ls : Array Slot), lw_J u v → va_P D vwA (lW a o b kI kL kZ u f v) H → va_D (fun q => s.heap.size ≤ q) (lW a o b kI kL kZ u f v) → va_S (fun q => s.heap.size ≤ q) s.heap H locs → lv_has ls 7 [(0, .ref b0), (1, .ref (a 0)), (2, .ref (b 0)), (3, .ref o), (4, .int (nI ix))] → W p l e R s m args below meth c H locs (cells + 1) (slots + 6) Q (F0 m 1197 ls [])) : W p l e R s m args below meth c H locs cells slots Q (F0 m 124 ls []) := by
  obtain ⟨hx, hb, hml, hown, hA, hXs, hbl, hK, hXX, hl0, hRf, hRl⟩ := h0
  have hbA : ¬ s.heap.size ≤ b0 := by omega
  refine lv_aload_n hx hb dL_law_124 rfl (lv_at hl 1 rfl) ?_
  refine kl_S ⟨hx, hb, hml, hown, hA⟩ (v_name l D a kI kL kZ u N kd fa fb T so xa xb xc F M rs hI ) (kw_L_62 hA rfl rfl ⟨Nat.le_trans (Nat.le_of_ble_eq_true rfl) hRf, Nat.le_trans (Nat.le_of_ble_eq_true rfl) hRl⟩) hK hP hD hS rfl hl.1 (Nat.le_of_ble_eq_true rfl) ⟨by omega, by omega⟩ dL_law_125 rfl (fun r1 u1 H locs hu1 hP hD hS => ?_)
  refine lv_aload_n hx hb dL_law_128 rfl (lv_at hl 2 rfl) ?_
  refine kl_M ⟨hx, hb, hml, hown, hA⟩ (w_name l D b kI kL kZ v N kd fa fb T so xa xb xc F M rs hM ) (kw_L_66 hA rfl rfl ⟨Nat.le_trans (Nat.le_of_ble_eq_true rfl) hRf, Nat.le_trans (Nat.le_of_ble_eq_true rfl) hRl⟩) hK hP hD hS rfl hl.1 (Nat.le_of_ble_eq_true rfl) ⟨by omega, by omega⟩ dL_law_129 rfl (fun r2 v1 H locs hv1 hP hD hS => ?_)
  have hjj : r1 = r2 ∧ lw_J u1 v1 := j_nm hu1 hv1.1
  refine lv_icmp_eq hx hb dL_law_132 (tgt := 1197) (by decide) (fun h132 => ?_) (fun h132 => ?_)
  · refine W.widen (k := cells + 1) (n := slots + 6) (by omega) (by omega) ?_
    exact kk u1 v1 f H locs ls hjj.2 hP hD hS (lv_sub hl [0, 1, 2, 3, 4] rfl)
  · exact absurd hjj.1 h132
set_option maxHeartbeats 4000000 in
set_option maxRecDepth 100000 in
theorem lg_retract {p : Program} {l : Launch} {e : Env} {R : Room} {s : State} {m : MethodId} {args : Array Value} {below : List Frame} {meth : Method} {c : Code} {H : Heap} {locs : List Loc} {cells slots : Nat} {Q : State → Prop} {ls : Array Slot} {b0 L : Nat} {xs : Nat → Int32} {D : va_G} {kI kL kZ : ClassId} {a b : Nat → Nat} {o : Nat} {u v : sU} {f : Nat → Int64} {ix : Nat} (h0 : lw_C p l R s m args c b0 L xs D kI kL kZ) (hi : ix + 4 ≤ L) (hL : L ≤ 2048) {N : Nat} {kd fa fb : Nat → Nat} {T : Nat} {so xa xb xc : Nat → Nat} {F : Nat → Prop} {M : Nat} {rs : Nat → Nat} (hI : s_inv u N kd fa fb T so xa xb xc F M rs) (hM : m_inv v N kd fa fb T so xa xb xc F M rs)  (hP : va_P D vwA (lW a o b kI kL kZ u f v) H) (hD : va_D (fun q => s.heap.size ≤ q) (lW a o b kI kL kZ u f v)) (hS : va_S (fun q => s.heap.size ≤ q) s.heap H locs) (hl : lv_has ls 7 [(0, .ref b0), (1, .ref (a 0)), (2, .ref (b 0)), (3, .ref o), (4, .int (nI ix))]) (hcs : cells + 1 ≤ R.cells ∧ slots + 6 ≤ R.slots) (kk : ∀ (u v : sU) (f : Nat → Int64) (H : Heap) (locs : List Loc) (ls : Array Slot), lw_J u v → va_P D vwA (lW a o b kI kL kZ u f v) H → va_D (fun q => s.heap.size ≤ q) (lW a o b kI kL kZ u f v) → va_S (fun q => s.heap.size ≤ q) s.heap H locs → lv_has ls 7 [(0, .ref b0), (1, .ref (a 0)), (2, .ref (b 0)), (3, .ref o), (4, .int (nI ix))] → W p l e R s m args below meth c H locs (cells + 1) (slots + 6) Q (F0 m 1197 ls [])) : W p l e R s m args below meth c H locs cells slots Q (F0 m 557 ls []) := by
  obtain ⟨hx, hb, hml, hown, hA, hXs, hbl, hK, hXX, hl0, hRf, hRl⟩ := h0
  have hbA : ¬ s.heap.size ≤ b0 := by omega
  refine lv_aload_n hx hb dL_law_557 rfl (lv_at hl 1 rfl) ?_
  refine lv_aload_n hx hb dL_law_558 rfl (lv_at hl 0 rfl) ?_
  refine lv_iload hx hb dL_law_559 (lv_at hl 4 rfl) ?_
  refine lv_iconst (v := nI 1) hx hb dL_law_561 (by decide +kernel) ?_
  refine tq_iadd hx hb dL_law_562 ?_
  refine va_sld hx hb hXs hbl hbA hS (vp_in_nI (by omega) (by omega)) dL_law_563 ?_
  refine tq_i (congrArg xs (nI_clamp (by omega))) ?_
  refine kl_S ⟨hx, hb, hml, hown, hA⟩ (v_retract l D a kI kL kZ u N kd fa fb T so xa xb xc F M rs hI (xs (ix + 1))) (kw_L_92 hA rfl rfl ⟨Nat.le_trans (Nat.le_of_ble_eq_true rfl) hRf, Nat.le_trans (Nat.le_of_ble_eq_true rfl) hRl⟩) hK hP hD hS rfl hl.1 (Nat.le_of_ble_eq_true rfl) ⟨by omega, by omega⟩ dL_law_564 rfl (fun r1 u1 H locs hu1 hP hD hS => ?_)
  refine lv_aload_n hx hb dL_law_567 rfl (lv_at hl 2 rfl) ?_
  refine lv_aload_n hx hb dL_law_568 rfl (lv_at hl 0 rfl) ?_
  refine lv_iload hx hb dL_law_569 (lv_at hl 4 rfl) ?_
  refine lv_iconst (v := nI 1) hx hb dL_law_571 (by decide +kernel) ?_
  refine tq_iadd hx hb dL_law_572 ?_
  refine va_sld hx hb hXs hbl hbA hS (vp_in_nI (by omega) (by omega)) dL_law_573 ?_
  refine tq_i (congrArg xs (nI_clamp (by omega))) ?_
  refine kl_M ⟨hx, hb, hml, hown, hA⟩ (w_retract l D b kI kL kZ v N kd fa fb T so xa xb xc F M rs hM (xs (ix + 1))) (kw_L_96 hA rfl rfl ⟨Nat.le_trans (Nat.le_of_ble_eq_true rfl) hRf, Nat.le_trans (Nat.le_of_ble_eq_true rfl) hRl⟩) hK hP hD hS rfl hl.1 (Nat.le_of_ble_eq_true rfl) ⟨by omega, by omega⟩ dL_law_574 rfl (fun r2 v1 H locs hv1 hP hD hS => ?_)
  have hjj : r1 = r2 ∧ lw_J u1 v1 := j_rt (fun k z => by have := (inv_N hI).2.2.2.2.2.1 k z; have := (inv_N hI).2.2.2.2.1; omega) hu1 hv1.1
  refine lv_icmp_eq hx hb dL_law_577 (tgt := 1197) (by decide) (fun h577 => ?_) (fun h577 => ?_)
  · refine W.widen (k := cells + 1) (n := slots + 6) (by omega) (by omega) ?_
    exact kk u1 v1 f H locs ls hjj.2 hP hD hS (lv_sub hl [0, 1, 2, 3, 4] rfl)
  · exact absurd hjj.1 h577
set_option maxHeartbeats 4000000 in
set_option maxRecDepth 100000 in
theorem lg_reason {p : Program} {l : Launch} {e : Env} {R : Room} {s : State} {m : MethodId} {args : Array Value} {below : List Frame} {meth : Method} {c : Code} {H : Heap} {locs : List Loc} {cells slots : Nat} {Q : State → Prop} {ls : Array Slot} {b0 L : Nat} {xs : Nat → Int32} {D : va_G} {kI kL kZ : ClassId} {a b : Nat → Nat} {o : Nat} {u v : sU} {f : Nat → Int64} {ix : Nat} (h0 : lw_C p l R s m args c b0 L xs D kI kL kZ) (hi : ix + 4 ≤ L) (hL : L ≤ 2048) {N : Nat} {kd fa fb : Nat → Nat} {T : Nat} {so xa xb xc : Nat → Nat} {F : Nat → Prop} {M : Nat} {rs : Nat → Nat} (hI : s_inv u N kd fa fb T so xa xb xc F M rs) (hM : m_inv v N kd fa fb T so xa xb xc F M rs)  (hP : va_P D vwA (lW a o b kI kL kZ u f v) H) (hD : va_D (fun q => s.heap.size ≤ q) (lW a o b kI kL kZ u f v)) (hS : va_S (fun q => s.heap.size ≤ q) s.heap H locs) (hl : lv_has ls 7 [(0, .ref b0), (1, .ref (a 0)), (2, .ref (b 0)), (3, .ref o), (4, .int (nI ix))]) (hcs : cells + 1 ≤ R.cells ∧ slots + 6 ≤ R.slots) (kk : ∀ (u v : sU) (f : Nat → Int64) (H : Heap) (locs : List Loc) (ls : Array Slot), lw_J u v → va_P D vwA (lW a o b kI kL kZ u f v) H → va_D (fun q => s.heap.size ≤ q) (lW a o b kI kL kZ u f v) → va_S (fun q => s.heap.size ≤ q) s.heap H locs → lv_has ls 7 [(0, .ref b0), (1, .ref (a 0)), (2, .ref (b 0)), (3, .ref o), (4, .int (nI ix))] → W p l e R s m args below meth c H locs (cells + 1) (slots + 6) Q (F0 m 1197 ls [])) : W p l e R s m args below meth c H locs cells slots Q (F0 m 1060 ls []) := by
  obtain ⟨hx, hb, hml, hown, hA, hXs, hbl, hK, hXX, hl0, hRf, hRl⟩ := h0
  have hbA : ¬ s.heap.size ≤ b0 := by omega
  refine lv_aload_n hx hb dL_law_1060 rfl (lv_at hl 1 rfl) ?_
  refine lv_aload_n hx hb dL_law_1061 rfl (lv_at hl 0 rfl) ?_
  refine lv_iload hx hb dL_law_1062 (lv_at hl 4 rfl) ?_
  refine lv_iconst (v := nI 1) hx hb dL_law_1064 (by decide +kernel) ?_
  refine tq_iadd hx hb dL_law_1065 ?_
  refine va_sld hx hb hXs hbl hbA hS (vp_in_nI (by omega) (by omega)) dL_law_1066 ?_
  refine tq_i (congrArg xs (nI_clamp (by omega))) ?_
  refine kl_S ⟨hx, hb, hml, hown, hA⟩ (v_reason l D a kI kL kZ u N kd fa fb T so xa xb xc F M rs hI (xs (ix + 1))) (kw_L_119 hA rfl rfl ⟨Nat.le_trans (Nat.le_of_ble_eq_true rfl) hRf, Nat.le_trans (Nat.le_of_ble_eq_true rfl) hRl⟩) hK hP hD hS rfl hl.1 (Nat.le_of_ble_eq_true rfl) ⟨by omega, by omega⟩ dL_law_1067 rfl (fun r1 u1 H locs hu1 hP hD hS => ?_)
  refine lv_aload_n hx hb dL_law_1070 rfl (lv_at hl 2 rfl) ?_
  refine lv_aload_n hx hb dL_law_1071 rfl (lv_at hl 0 rfl) ?_
  refine lv_iload hx hb dL_law_1072 (lv_at hl 4 rfl) ?_
  refine lv_iconst (v := nI 1) hx hb dL_law_1074 (by decide +kernel) ?_
  refine tq_iadd hx hb dL_law_1075 ?_
  refine va_sld hx hb hXs hbl hbA hS (vp_in_nI (by omega) (by omega)) dL_law_1076 ?_
  refine tq_i (congrArg xs (nI_clamp (by omega))) ?_
  refine kl_M ⟨hx, hb, hml, hown, hA⟩ (w_reason l D b kI kL kZ v N kd fa fb T so xa xb xc F M rs hM (xs (ix + 1))) (kw_L_122 hA rfl rfl ⟨Nat.le_trans (Nat.le_of_ble_eq_true rfl) hRf, Nat.le_trans (Nat.le_of_ble_eq_true rfl) hRl⟩) hK hP hD hS rfl hl.1 (Nat.le_of_ble_eq_true rfl) ⟨by omega, by omega⟩ dL_law_1077 rfl (fun r2 v1 H locs hv1 hP hD hS => ?_)
  have hjj : r1 = r2 ∧ lw_J u1 v1 := j_rs hI.2.2.2.2.2.2.2.1 hu1 hv1.1
  refine lv_icmp_eq hx hb dL_law_1080 (tgt := 1197) (by decide) (fun h1080 => ?_) (fun h1080 => ?_)
  · refine W.widen (k := cells + 1) (n := slots + 6) (by omega) (by omega) ?_
    exact kk u1 v1 f H locs ls hjj.2 hP hD hS (lv_sub hl [0, 1, 2, 3, 4] rfl)
  · exact absurd hjj.1 h1080
set_option maxHeartbeats 4000000 in
set_option maxRecDepth 100000 in
theorem lg_count0 {p : Program} {l : Launch} {e : Env} {R : Room} {s : State} {m : MethodId} {args : Array Value} {below : List Frame} {meth : Method} {c : Code} {H : Heap} {locs : List Loc} {cells slots : Nat} {Q : State → Prop} {ls : Array Slot} {b0 L : Nat} {xs : Nat → Int32} {D : va_G} {kI kL kZ : ClassId} {a b : Nat → Nat} {o : Nat} {u v : sU} {f : Nat → Int64} {ix : Nat} (h0 : lw_C p l R s m args c b0 L xs D kI kL kZ) (hi : ix + 4 ≤ L) (hL : L ≤ 2048) {N : Nat} {kd fa fb : Nat → Nat} {T : Nat} {so xa xb xc : Nat → Nat} {F : Nat → Prop} {M : Nat} {rs : Nat → Nat} (hI : s_inv u N kd fa fb T so xa xb xc F M rs) (hM : m_inv v N kd fa fb T so xa xb xc F M rs) (hx1 : xs (ix + 1) = nI 0) (hP : va_P D vwA (lW a o b kI kL kZ u f v) H) (hD : va_D (fun q => s.heap.size ≤ q) (lW a o b kI kL kZ u f v)) (hS : va_S (fun q => s.heap.size ≤ q) s.heap H locs) (hl : lv_has ls 7 [(0, .ref b0), (1, .ref (a 0)), (2, .ref (b 0)), (3, .ref o), (4, .int (nI ix))]) (hcs : cells + 1 ≤ R.cells ∧ slots + 6 ≤ R.slots) (kk : ∀ (u v : sU) (f : Nat → Int64) (H : Heap) (locs : List Loc) (ls : Array Slot), lw_J u v → va_P D vwA (lW a o b kI kL kZ u f v) H → va_D (fun q => s.heap.size ≤ q) (lW a o b kI kL kZ u f v) → va_S (fun q => s.heap.size ≤ q) s.heap H locs → lv_has ls 7 [(0, .ref b0), (1, .ref (a 0)), (2, .ref (b 0)), (3, .ref o), (4, .int (nI ix))] → W p l e R s m args below meth c H locs (cells + 1) (slots + 6) Q (F0 m 1197 ls [])) : W p l e R s m args below meth c H locs cells slots Q (F0 m 1172 ls []) := by
  obtain ⟨hx, hb, hml, hown, hA, hXs, hbl, hK, hXX, hl0, hRf, hRl⟩ := h0
  have hbA : ¬ s.heap.size ≤ b0 := by omega
  refine lv_aload_n hx hb dL_law_1172 rfl (lv_at hl 1 rfl) ?_
  refine lv_aload_n hx hb dL_law_1173 rfl (lv_at hl 0 rfl) ?_
  refine lv_iload hx hb dL_law_1174 (lv_at hl 4 rfl) ?_
  refine lv_iconst (v := nI 1) hx hb dL_law_1176 (by decide +kernel) ?_
  refine tq_iadd hx hb dL_law_1177 ?_
  refine va_sld hx hb hXs hbl hbA hS (vp_in_nI (by omega) (by omega)) dL_law_1178 ?_
  refine tq_i (congrArg xs (nI_clamp (by omega))) ?_
  refine tq_i hx1 ?_
  refine kl_S ⟨hx, hb, hml, hown, hA⟩ (v_count0 l D a kI kL kZ u N kd fa fb T so xa xb xc F M rs hI ) (kw_L_126 hA rfl rfl ⟨Nat.le_trans (Nat.le_of_ble_eq_true rfl) hRf, Nat.le_trans (Nat.le_of_ble_eq_true rfl) hRl⟩) hK hP hD hS rfl hl.1 (Nat.le_of_ble_eq_true rfl) ⟨by omega, by omega⟩ dL_law_1179 rfl (fun r1 u1 H locs hu1 hP hD hS => ?_)
  refine lv_aload_n hx hb dL_law_1182 rfl (lv_at hl 2 rfl) ?_
  refine lv_aload_n hx hb dL_law_1183 rfl (lv_at hl 0 rfl) ?_
  refine lv_iload hx hb dL_law_1184 (lv_at hl 4 rfl) ?_
  refine lv_iconst (v := nI 1) hx hb dL_law_1186 (by decide +kernel) ?_
  refine tq_iadd hx hb dL_law_1187 ?_
  refine va_sld hx hb hXs hbl hbA hS (vp_in_nI (by omega) (by omega)) dL_law_1188 ?_
  refine tq_i (congrArg xs (nI_clamp (by omega))) ?_
  refine tq_i hx1 ?_
  refine kl_M ⟨hx, hb, hml, hown, hA⟩ (w_count0 l D b kI kL kZ v N kd fa fb T so xa xb xc F M rs hM ) (kw_L_129 hA rfl rfl ⟨Nat.le_trans (Nat.le_of_ble_eq_true rfl) hRf, Nat.le_trans (Nat.le_of_ble_eq_true rfl) hRl⟩) hK hP hD hS rfl hl.1 (Nat.le_of_ble_eq_true rfl) ⟨by omega, by omega⟩ dL_law_1189 rfl (fun r2 v1 H locs hv1 hP hD hS => ?_)
  have hjj : r1 = r2 ∧ lw_J u1 v1 := j_eq hu1 hv1.1
  refine lv_icmp_eq hx hb dL_law_1192 (tgt := 1197) (by decide) (fun h1192 => ?_) (fun h1192 => ?_)
  · refine W.widen (k := cells + 1) (n := slots + 6) (by omega) (by omega) ?_
    exact kk u1 v1 f H locs ls hjj.2 hP hD hS (lv_sub hl [0, 1, 2, 3, 4] rfl)
  · exact absurd hjj.1 h1192
set_option maxHeartbeats 4000000 in
set_option maxRecDepth 100000 in
theorem lg_count1 {p : Program} {l : Launch} {e : Env} {R : Room} {s : State} {m : MethodId} {args : Array Value} {below : List Frame} {meth : Method} {c : Code} {H : Heap} {locs : List Loc} {cells slots : Nat} {Q : State → Prop} {ls : Array Slot} {b0 L : Nat} {xs : Nat → Int32} {D : va_G} {kI kL kZ : ClassId} {a b : Nat → Nat} {o : Nat} {u v : sU} {f : Nat → Int64} {ix : Nat} (h0 : lw_C p l R s m args c b0 L xs D kI kL kZ) (hi : ix + 4 ≤ L) (hL : L ≤ 2048) {N : Nat} {kd fa fb : Nat → Nat} {T : Nat} {so xa xb xc : Nat → Nat} {F : Nat → Prop} {M : Nat} {rs : Nat → Nat} (hI : s_inv u N kd fa fb T so xa xb xc F M rs) (hM : m_inv v N kd fa fb T so xa xb xc F M rs) (hx1 : xs (ix + 1) = nI 1) (hP : va_P D vwA (lW a o b kI kL kZ u f v) H) (hD : va_D (fun q => s.heap.size ≤ q) (lW a o b kI kL kZ u f v)) (hS : va_S (fun q => s.heap.size ≤ q) s.heap H locs) (hl : lv_has ls 7 [(0, .ref b0), (1, .ref (a 0)), (2, .ref (b 0)), (3, .ref o), (4, .int (nI ix))]) (hcs : cells + 1 ≤ R.cells ∧ slots + 6 ≤ R.slots) (kk : ∀ (u v : sU) (f : Nat → Int64) (H : Heap) (locs : List Loc) (ls : Array Slot), lw_J u v → va_P D vwA (lW a o b kI kL kZ u f v) H → va_D (fun q => s.heap.size ≤ q) (lW a o b kI kL kZ u f v) → va_S (fun q => s.heap.size ≤ q) s.heap H locs → lv_has ls 7 [(0, .ref b0), (1, .ref (a 0)), (2, .ref (b 0)), (3, .ref o), (4, .int (nI ix))] → W p l e R s m args below meth c H locs (cells + 1) (slots + 6) Q (F0 m 1197 ls [])) : W p l e R s m args below meth c H locs cells slots Q (F0 m 1172 ls []) := by
  obtain ⟨hx, hb, hml, hown, hA, hXs, hbl, hK, hXX, hl0, hRf, hRl⟩ := h0
  have hbA : ¬ s.heap.size ≤ b0 := by omega
  refine lv_aload_n hx hb dL_law_1172 rfl (lv_at hl 1 rfl) ?_
  refine lv_aload_n hx hb dL_law_1173 rfl (lv_at hl 0 rfl) ?_
  refine lv_iload hx hb dL_law_1174 (lv_at hl 4 rfl) ?_
  refine lv_iconst (v := nI 1) hx hb dL_law_1176 (by decide +kernel) ?_
  refine tq_iadd hx hb dL_law_1177 ?_
  refine va_sld hx hb hXs hbl hbA hS (vp_in_nI (by omega) (by omega)) dL_law_1178 ?_
  refine tq_i (congrArg xs (nI_clamp (by omega))) ?_
  refine tq_i hx1 ?_
  refine kl_S ⟨hx, hb, hml, hown, hA⟩ (v_count1 l D a kI kL kZ u N kd fa fb T so xa xb xc F M rs hI ) (kw_L_126 hA rfl rfl ⟨Nat.le_trans (Nat.le_of_ble_eq_true rfl) hRf, Nat.le_trans (Nat.le_of_ble_eq_true rfl) hRl⟩) hK hP hD hS rfl hl.1 (Nat.le_of_ble_eq_true rfl) ⟨by omega, by omega⟩ dL_law_1179 rfl (fun r1 u1 H locs hu1 hP hD hS => ?_)
  refine lv_aload_n hx hb dL_law_1182 rfl (lv_at hl 2 rfl) ?_
  refine lv_aload_n hx hb dL_law_1183 rfl (lv_at hl 0 rfl) ?_
  refine lv_iload hx hb dL_law_1184 (lv_at hl 4 rfl) ?_
  refine lv_iconst (v := nI 1) hx hb dL_law_1186 (by decide +kernel) ?_
  refine tq_iadd hx hb dL_law_1187 ?_
  refine va_sld hx hb hXs hbl hbA hS (vp_in_nI (by omega) (by omega)) dL_law_1188 ?_
  refine tq_i (congrArg xs (nI_clamp (by omega))) ?_
  refine tq_i hx1 ?_
  refine kl_M ⟨hx, hb, hml, hown, hA⟩ (w_count1 l D b kI kL kZ v N kd fa fb T so xa xb xc F M rs hM ) (kw_L_129 hA rfl rfl ⟨Nat.le_trans (Nat.le_of_ble_eq_true rfl) hRf, Nat.le_trans (Nat.le_of_ble_eq_true rfl) hRl⟩) hK hP hD hS rfl hl.1 (Nat.le_of_ble_eq_true rfl) ⟨by omega, by omega⟩ dL_law_1189 rfl (fun r2 v1 H locs hv1 hP hD hS => ?_)
  have hjj : r1 = r2 ∧ lw_J u1 v1 := j_eq hu1 hv1.1
  refine lv_icmp_eq hx hb dL_law_1192 (tgt := 1197) (by decide) (fun h1192 => ?_) (fun h1192 => ?_)
  · refine W.widen (k := cells + 1) (n := slots + 6) (by omega) (by omega) ?_
    exact kk u1 v1 f H locs ls hjj.2 hP hD hS (lv_sub hl [0, 1, 2, 3, 4] rfl)
  · exact absurd hjj.1 h1192
set_option maxHeartbeats 4000000 in
set_option maxRecDepth 100000 in
theorem lg_count2 {p : Program} {l : Launch} {e : Env} {R : Room} {s : State} {m : MethodId} {args : Array Value} {below : List Frame} {meth : Method} {c : Code} {H : Heap} {locs : List Loc} {cells slots : Nat} {Q : State → Prop} {ls : Array Slot} {b0 L : Nat} {xs : Nat → Int32} {D : va_G} {kI kL kZ : ClassId} {a b : Nat → Nat} {o : Nat} {u v : sU} {f : Nat → Int64} {ix : Nat} (h0 : lw_C p l R s m args c b0 L xs D kI kL kZ) (hi : ix + 4 ≤ L) (hL : L ≤ 2048) {N : Nat} {kd fa fb : Nat → Nat} {T : Nat} {so xa xb xc : Nat → Nat} {F : Nat → Prop} {M : Nat} {rs : Nat → Nat} (hI : s_inv u N kd fa fb T so xa xb xc F M rs) (hM : m_inv v N kd fa fb T so xa xb xc F M rs) (hx1 : xs (ix + 1) = nI 2) (hP : va_P D vwA (lW a o b kI kL kZ u f v) H) (hD : va_D (fun q => s.heap.size ≤ q) (lW a o b kI kL kZ u f v)) (hS : va_S (fun q => s.heap.size ≤ q) s.heap H locs) (hl : lv_has ls 7 [(0, .ref b0), (1, .ref (a 0)), (2, .ref (b 0)), (3, .ref o), (4, .int (nI ix))]) (hcs : cells + 1 ≤ R.cells ∧ slots + 6 ≤ R.slots) (kk : ∀ (u v : sU) (f : Nat → Int64) (H : Heap) (locs : List Loc) (ls : Array Slot), lw_J u v → va_P D vwA (lW a o b kI kL kZ u f v) H → va_D (fun q => s.heap.size ≤ q) (lW a o b kI kL kZ u f v) → va_S (fun q => s.heap.size ≤ q) s.heap H locs → lv_has ls 7 [(0, .ref b0), (1, .ref (a 0)), (2, .ref (b 0)), (3, .ref o), (4, .int (nI ix))] → W p l e R s m args below meth c H locs (cells + 1) (slots + 6) Q (F0 m 1197 ls [])) : W p l e R s m args below meth c H locs cells slots Q (F0 m 1172 ls []) := by
  obtain ⟨hx, hb, hml, hown, hA, hXs, hbl, hK, hXX, hl0, hRf, hRl⟩ := h0
  have hbA : ¬ s.heap.size ≤ b0 := by omega
  refine lv_aload_n hx hb dL_law_1172 rfl (lv_at hl 1 rfl) ?_
  refine lv_aload_n hx hb dL_law_1173 rfl (lv_at hl 0 rfl) ?_
  refine lv_iload hx hb dL_law_1174 (lv_at hl 4 rfl) ?_
  refine lv_iconst (v := nI 1) hx hb dL_law_1176 (by decide +kernel) ?_
  refine tq_iadd hx hb dL_law_1177 ?_
  refine va_sld hx hb hXs hbl hbA hS (vp_in_nI (by omega) (by omega)) dL_law_1178 ?_
  refine tq_i (congrArg xs (nI_clamp (by omega))) ?_
  refine tq_i hx1 ?_
  refine kl_S ⟨hx, hb, hml, hown, hA⟩ (v_count2 l D a kI kL kZ u N kd fa fb T so xa xb xc F M rs hI ) (kw_L_126 hA rfl rfl ⟨Nat.le_trans (Nat.le_of_ble_eq_true rfl) hRf, Nat.le_trans (Nat.le_of_ble_eq_true rfl) hRl⟩) hK hP hD hS rfl hl.1 (Nat.le_of_ble_eq_true rfl) ⟨by omega, by omega⟩ dL_law_1179 rfl (fun r1 u1 H locs hu1 hP hD hS => ?_)
  refine lv_aload_n hx hb dL_law_1182 rfl (lv_at hl 2 rfl) ?_
  refine lv_aload_n hx hb dL_law_1183 rfl (lv_at hl 0 rfl) ?_
  refine lv_iload hx hb dL_law_1184 (lv_at hl 4 rfl) ?_
  refine lv_iconst (v := nI 1) hx hb dL_law_1186 (by decide +kernel) ?_
  refine tq_iadd hx hb dL_law_1187 ?_
  refine va_sld hx hb hXs hbl hbA hS (vp_in_nI (by omega) (by omega)) dL_law_1188 ?_
  refine tq_i (congrArg xs (nI_clamp (by omega))) ?_
  refine tq_i hx1 ?_
  refine kl_M ⟨hx, hb, hml, hown, hA⟩ (w_count2 l D b kI kL kZ v N kd fa fb T so xa xb xc F M rs hM ) (kw_L_129 hA rfl rfl ⟨Nat.le_trans (Nat.le_of_ble_eq_true rfl) hRf, Nat.le_trans (Nat.le_of_ble_eq_true rfl) hRl⟩) hK hP hD hS rfl hl.1 (Nat.le_of_ble_eq_true rfl) ⟨by omega, by omega⟩ dL_law_1189 rfl (fun r2 v1 H locs hv1 hP hD hS => ?_)
  have hjj : r1 = r2 ∧ lw_J u1 v1 := j_eq hu1 hv1.1
  refine lv_icmp_eq hx hb dL_law_1192 (tgt := 1197) (by decide) (fun h1192 => ?_) (fun h1192 => ?_)
  · refine W.widen (k := cells + 1) (n := slots + 6) (by omega) (by omega) ?_
    exact kk u1 v1 f H locs ls hjj.2 hP hD hS (lv_sub hl [0, 1, 2, 3, 4] rfl)
  · exact absurd hjj.1 h1192
set_option maxHeartbeats 4000000 in
set_option maxRecDepth 100000 in
theorem lg_count3 {p : Program} {l : Launch} {e : Env} {R : Room} {s : State} {m : MethodId} {args : Array Value} {below : List Frame} {meth : Method} {c : Code} {H : Heap} {locs : List Loc} {cells slots : Nat} {Q : State → Prop} {ls : Array Slot} {b0 L : Nat} {xs : Nat → Int32} {D : va_G} {kI kL kZ : ClassId} {a b : Nat → Nat} {o : Nat} {u v : sU} {f : Nat → Int64} {ix : Nat} (h0 : lw_C p l R s m args c b0 L xs D kI kL kZ) (hi : ix + 4 ≤ L) (hL : L ≤ 2048) {N : Nat} {kd fa fb : Nat → Nat} {T : Nat} {so xa xb xc : Nat → Nat} {F : Nat → Prop} {M : Nat} {rs : Nat → Nat} (hI : s_inv u N kd fa fb T so xa xb xc F M rs) (hM : m_inv v N kd fa fb T so xa xb xc F M rs) (hx1 : xs (ix + 1) = nI 3) (hP : va_P D vwA (lW a o b kI kL kZ u f v) H) (hD : va_D (fun q => s.heap.size ≤ q) (lW a o b kI kL kZ u f v)) (hS : va_S (fun q => s.heap.size ≤ q) s.heap H locs) (hl : lv_has ls 7 [(0, .ref b0), (1, .ref (a 0)), (2, .ref (b 0)), (3, .ref o), (4, .int (nI ix))]) (hcs : cells + 1 ≤ R.cells ∧ slots + 6 ≤ R.slots) (kk : ∀ (u v : sU) (f : Nat → Int64) (H : Heap) (locs : List Loc) (ls : Array Slot), lw_J u v → va_P D vwA (lW a o b kI kL kZ u f v) H → va_D (fun q => s.heap.size ≤ q) (lW a o b kI kL kZ u f v) → va_S (fun q => s.heap.size ≤ q) s.heap H locs → lv_has ls 7 [(0, .ref b0), (1, .ref (a 0)), (2, .ref (b 0)), (3, .ref o), (4, .int (nI ix))] → W p l e R s m args below meth c H locs (cells + 1) (slots + 6) Q (F0 m 1197 ls [])) : W p l e R s m args below meth c H locs cells slots Q (F0 m 1172 ls []) := by
  obtain ⟨hx, hb, hml, hown, hA, hXs, hbl, hK, hXX, hl0, hRf, hRl⟩ := h0
  have hbA : ¬ s.heap.size ≤ b0 := by omega
  refine lv_aload_n hx hb dL_law_1172 rfl (lv_at hl 1 rfl) ?_
  refine lv_aload_n hx hb dL_law_1173 rfl (lv_at hl 0 rfl) ?_
  refine lv_iload hx hb dL_law_1174 (lv_at hl 4 rfl) ?_
  refine lv_iconst (v := nI 1) hx hb dL_law_1176 (by decide +kernel) ?_
  refine tq_iadd hx hb dL_law_1177 ?_
  refine va_sld hx hb hXs hbl hbA hS (vp_in_nI (by omega) (by omega)) dL_law_1178 ?_
  refine tq_i (congrArg xs (nI_clamp (by omega))) ?_
  refine tq_i hx1 ?_
  refine kl_S ⟨hx, hb, hml, hown, hA⟩ (v_count3 l D a kI kL kZ u N kd fa fb T so xa xb xc F M rs hI ) (kw_L_126 hA rfl rfl ⟨Nat.le_trans (Nat.le_of_ble_eq_true rfl) hRf, Nat.le_trans (Nat.le_of_ble_eq_true rfl) hRl⟩) hK hP hD hS rfl hl.1 (Nat.le_of_ble_eq_true rfl) ⟨by omega, by omega⟩ dL_law_1179 rfl (fun r1 u1 H locs hu1 hP hD hS => ?_)
  refine lv_aload_n hx hb dL_law_1182 rfl (lv_at hl 2 rfl) ?_
  refine lv_aload_n hx hb dL_law_1183 rfl (lv_at hl 0 rfl) ?_
  refine lv_iload hx hb dL_law_1184 (lv_at hl 4 rfl) ?_
  refine lv_iconst (v := nI 1) hx hb dL_law_1186 (by decide +kernel) ?_
  refine tq_iadd hx hb dL_law_1187 ?_
  refine va_sld hx hb hXs hbl hbA hS (vp_in_nI (by omega) (by omega)) dL_law_1188 ?_
  refine tq_i (congrArg xs (nI_clamp (by omega))) ?_
  refine tq_i hx1 ?_
  refine kl_M ⟨hx, hb, hml, hown, hA⟩ (w_count3 l D b kI kL kZ v N kd fa fb T so xa xb xc F M rs hM ) (kw_L_129 hA rfl rfl ⟨Nat.le_trans (Nat.le_of_ble_eq_true rfl) hRf, Nat.le_trans (Nat.le_of_ble_eq_true rfl) hRl⟩) hK hP hD hS rfl hl.1 (Nat.le_of_ble_eq_true rfl) ⟨by omega, by omega⟩ dL_law_1189 rfl (fun r2 v1 H locs hv1 hP hD hS => ?_)
  have hjj : r1 = r2 ∧ lw_J u1 v1 := j_eq hu1 hv1.1
  refine lv_icmp_eq hx hb dL_law_1192 (tgt := 1197) (by decide) (fun h1192 => ?_) (fun h1192 => ?_)
  · refine W.widen (k := cells + 1) (n := slots + 6) (by omega) (by omega) ?_
    exact kk u1 v1 f H locs ls hjj.2 hP hD hS (lv_sub hl [0, 1, 2, 3, 4] rfl)
  · exact absurd hjj.1 h1192
set_option maxHeartbeats 4000000 in
set_option maxRecDepth 100000 in
theorem lg_count4 {p : Program} {l : Launch} {e : Env} {R : Room} {s : State} {m : MethodId} {args : Array Value} {below : List Frame} {meth : Method} {c : Code} {H : Heap} {locs : List Loc} {cells slots : Nat} {Q : State → Prop} {ls : Array Slot} {b0 L : Nat} {xs : Nat → Int32} {D : va_G} {kI kL kZ : ClassId} {a b : Nat → Nat} {o : Nat} {u v : sU} {f : Nat → Int64} {ix : Nat} (h0 : lw_C p l R s m args c b0 L xs D kI kL kZ) (hi : ix + 4 ≤ L) (hL : L ≤ 2048) {N : Nat} {kd fa fb : Nat → Nat} {T : Nat} {so xa xb xc : Nat → Nat} {F : Nat → Prop} {M : Nat} {rs : Nat → Nat} (hI : s_inv u N kd fa fb T so xa xb xc F M rs) (hM : m_inv v N kd fa fb T so xa xb xc F M rs) (hx1 : xs (ix + 1) = nI 4) (hP : va_P D vwA (lW a o b kI kL kZ u f v) H) (hD : va_D (fun q => s.heap.size ≤ q) (lW a o b kI kL kZ u f v)) (hS : va_S (fun q => s.heap.size ≤ q) s.heap H locs) (hl : lv_has ls 7 [(0, .ref b0), (1, .ref (a 0)), (2, .ref (b 0)), (3, .ref o), (4, .int (nI ix))]) (hcs : cells + 1 ≤ R.cells ∧ slots + 6 ≤ R.slots) (kk : ∀ (u v : sU) (f : Nat → Int64) (H : Heap) (locs : List Loc) (ls : Array Slot), lw_J u v → va_P D vwA (lW a o b kI kL kZ u f v) H → va_D (fun q => s.heap.size ≤ q) (lW a o b kI kL kZ u f v) → va_S (fun q => s.heap.size ≤ q) s.heap H locs → lv_has ls 7 [(0, .ref b0), (1, .ref (a 0)), (2, .ref (b 0)), (3, .ref o), (4, .int (nI ix))] → W p l e R s m args below meth c H locs (cells + 1) (slots + 6) Q (F0 m 1197 ls [])) : W p l e R s m args below meth c H locs cells slots Q (F0 m 1172 ls []) := by
  obtain ⟨hx, hb, hml, hown, hA, hXs, hbl, hK, hXX, hl0, hRf, hRl⟩ := h0
  have hbA : ¬ s.heap.size ≤ b0 := by omega
  refine lv_aload_n hx hb dL_law_1172 rfl (lv_at hl 1 rfl) ?_
  refine lv_aload_n hx hb dL_law_1173 rfl (lv_at hl 0 rfl) ?_
  refine lv_iload hx hb dL_law_1174 (lv_at hl 4 rfl) ?_
  refine lv_iconst (v := nI 1) hx hb dL_law_1176 (by decide +kernel) ?_
  refine tq_iadd hx hb dL_law_1177 ?_
  refine va_sld hx hb hXs hbl hbA hS (vp_in_nI (by omega) (by omega)) dL_law_1178 ?_
  refine tq_i (congrArg xs (nI_clamp (by omega))) ?_
  refine tq_i hx1 ?_
  refine kl_S ⟨hx, hb, hml, hown, hA⟩ (v_count4 l D a kI kL kZ u N kd fa fb T so xa xb xc F M rs hI ) (kw_L_126 hA rfl rfl ⟨Nat.le_trans (Nat.le_of_ble_eq_true rfl) hRf, Nat.le_trans (Nat.le_of_ble_eq_true rfl) hRl⟩) hK hP hD hS rfl hl.1 (Nat.le_of_ble_eq_true rfl) ⟨by omega, by omega⟩ dL_law_1179 rfl (fun r1 u1 H locs hu1 hP hD hS => ?_)
  refine lv_aload_n hx hb dL_law_1182 rfl (lv_at hl 2 rfl) ?_
  refine lv_aload_n hx hb dL_law_1183 rfl (lv_at hl 0 rfl) ?_
  refine lv_iload hx hb dL_law_1184 (lv_at hl 4 rfl) ?_
  refine lv_iconst (v := nI 1) hx hb dL_law_1186 (by decide +kernel) ?_
  refine tq_iadd hx hb dL_law_1187 ?_
  refine va_sld hx hb hXs hbl hbA hS (vp_in_nI (by omega) (by omega)) dL_law_1188 ?_
  refine tq_i (congrArg xs (nI_clamp (by omega))) ?_
  refine tq_i hx1 ?_
  refine kl_M ⟨hx, hb, hml, hown, hA⟩ (w_count4 l D b kI kL kZ v N kd fa fb T so xa xb xc F M rs hM ) (kw_L_129 hA rfl rfl ⟨Nat.le_trans (Nat.le_of_ble_eq_true rfl) hRf, Nat.le_trans (Nat.le_of_ble_eq_true rfl) hRl⟩) hK hP hD hS rfl hl.1 (Nat.le_of_ble_eq_true rfl) ⟨by omega, by omega⟩ dL_law_1189 rfl (fun r2 v1 H locs hv1 hP hD hS => ?_)
  have hjj : r1 = r2 ∧ lw_J u1 v1 := j_eq hu1 hv1.1
  refine lv_icmp_eq hx hb dL_law_1192 (tgt := 1197) (by decide) (fun h1192 => ?_) (fun h1192 => ?_)
  · refine W.widen (k := cells + 1) (n := slots + 6) (by omega) (by omega) ?_
    exact kk u1 v1 f H locs ls hjj.2 hP hD hS (lv_sub hl [0, 1, 2, 3, 4] rfl)
  · exact absurd hjj.1 h1192
set_option maxHeartbeats 4000000 in
set_option maxRecDepth 100000 in
theorem lg_count5 {p : Program} {l : Launch} {e : Env} {R : Room} {s : State} {m : MethodId} {args : Array Value} {below : List Frame} {meth : Method} {c : Code} {H : Heap} {locs : List Loc} {cells slots : Nat} {Q : State → Prop} {ls : Array Slot} {b0 L : Nat} {xs : Nat → Int32} {D : va_G} {kI kL kZ : ClassId} {a b : Nat → Nat} {o : Nat} {u v : sU} {f : Nat → Int64} {ix : Nat} (h0 : lw_C p l R s m args c b0 L xs D kI kL kZ) (hi : ix + 4 ≤ L) (hL : L ≤ 2048) {N : Nat} {kd fa fb : Nat → Nat} {T : Nat} {so xa xb xc : Nat → Nat} {F : Nat → Prop} {M : Nat} {rs : Nat → Nat} (hI : s_inv u N kd fa fb T so xa xb xc F M rs) (hM : m_inv v N kd fa fb T so xa xb xc F M rs) (hx1 : xs (ix + 1) = nI 5) (hP : va_P D vwA (lW a o b kI kL kZ u f v) H) (hD : va_D (fun q => s.heap.size ≤ q) (lW a o b kI kL kZ u f v)) (hS : va_S (fun q => s.heap.size ≤ q) s.heap H locs) (hl : lv_has ls 7 [(0, .ref b0), (1, .ref (a 0)), (2, .ref (b 0)), (3, .ref o), (4, .int (nI ix))]) (hcs : cells + 1 ≤ R.cells ∧ slots + 6 ≤ R.slots) (kk : ∀ (u v : sU) (f : Nat → Int64) (H : Heap) (locs : List Loc) (ls : Array Slot), lw_J u v → va_P D vwA (lW a o b kI kL kZ u f v) H → va_D (fun q => s.heap.size ≤ q) (lW a o b kI kL kZ u f v) → va_S (fun q => s.heap.size ≤ q) s.heap H locs → lv_has ls 7 [(0, .ref b0), (1, .ref (a 0)), (2, .ref (b 0)), (3, .ref o), (4, .int (nI ix))] → W p l e R s m args below meth c H locs (cells + 1) (slots + 6) Q (F0 m 1197 ls [])) : W p l e R s m args below meth c H locs cells slots Q (F0 m 1172 ls []) := by
  obtain ⟨hx, hb, hml, hown, hA, hXs, hbl, hK, hXX, hl0, hRf, hRl⟩ := h0
  have hbA : ¬ s.heap.size ≤ b0 := by omega
  refine lv_aload_n hx hb dL_law_1172 rfl (lv_at hl 1 rfl) ?_
  refine lv_aload_n hx hb dL_law_1173 rfl (lv_at hl 0 rfl) ?_
  refine lv_iload hx hb dL_law_1174 (lv_at hl 4 rfl) ?_
  refine lv_iconst (v := nI 1) hx hb dL_law_1176 (by decide +kernel) ?_
  refine tq_iadd hx hb dL_law_1177 ?_
  refine va_sld hx hb hXs hbl hbA hS (vp_in_nI (by omega) (by omega)) dL_law_1178 ?_
  refine tq_i (congrArg xs (nI_clamp (by omega))) ?_
  refine tq_i hx1 ?_
  refine kl_S ⟨hx, hb, hml, hown, hA⟩ (v_count5 l D a kI kL kZ u N kd fa fb T so xa xb xc F M rs hI ) (kw_L_126 hA rfl rfl ⟨Nat.le_trans (Nat.le_of_ble_eq_true rfl) hRf, Nat.le_trans (Nat.le_of_ble_eq_true rfl) hRl⟩) hK hP hD hS rfl hl.1 (Nat.le_of_ble_eq_true rfl) ⟨by omega, by omega⟩ dL_law_1179 rfl (fun r1 u1 H locs hu1 hP hD hS => ?_)
  refine lv_aload_n hx hb dL_law_1182 rfl (lv_at hl 2 rfl) ?_
  refine lv_aload_n hx hb dL_law_1183 rfl (lv_at hl 0 rfl) ?_
  refine lv_iload hx hb dL_law_1184 (lv_at hl 4 rfl) ?_
  refine lv_iconst (v := nI 1) hx hb dL_law_1186 (by decide +kernel) ?_
  refine tq_iadd hx hb dL_law_1187 ?_
  refine va_sld hx hb hXs hbl hbA hS (vp_in_nI (by omega) (by omega)) dL_law_1188 ?_
  refine tq_i (congrArg xs (nI_clamp (by omega))) ?_
  refine tq_i hx1 ?_
  refine kl_M ⟨hx, hb, hml, hown, hA⟩ (w_count5 l D b kI kL kZ v N kd fa fb T so xa xb xc F M rs hM ) (kw_L_129 hA rfl rfl ⟨Nat.le_trans (Nat.le_of_ble_eq_true rfl) hRf, Nat.le_trans (Nat.le_of_ble_eq_true rfl) hRl⟩) hK hP hD hS rfl hl.1 (Nat.le_of_ble_eq_true rfl) ⟨by omega, by omega⟩ dL_law_1189 rfl (fun r2 v1 H locs hv1 hP hD hS => ?_)
  have hjj : r1 = r2 ∧ lw_J u1 v1 := j_eq hu1 hv1.1
  refine lv_icmp_eq hx hb dL_law_1192 (tgt := 1197) (by decide) (fun h1192 => ?_) (fun h1192 => ?_)
  · refine W.widen (k := cells + 1) (n := slots + 6) (by omega) (by omega) ?_
    exact kk u1 v1 f H locs ls hjj.2 hP hD hS (lv_sub hl [0, 1, 2, 3, 4] rfl)
  · exact absurd hjj.1 h1192
set_option maxHeartbeats 4000000 in
set_option maxRecDepth 100000 in
theorem lg_count6 {p : Program} {l : Launch} {e : Env} {R : Room} {s : State} {m : MethodId} {args : Array Value} {below : List Frame} {meth : Method} {c : Code} {H : Heap} {locs : List Loc} {cells slots : Nat} {Q : State → Prop} {ls : Array Slot} {b0 L : Nat} {xs : Nat → Int32} {D : va_G} {kI kL kZ : ClassId} {a b : Nat → Nat} {o : Nat} {u v : sU} {f : Nat → Int64} {ix : Nat} (h0 : lw_C p l R s m args c b0 L xs D kI kL kZ) (hi : ix + 4 ≤ L) (hL : L ≤ 2048) {N : Nat} {kd fa fb : Nat → Nat} {T : Nat} {so xa xb xc : Nat → Nat} {F : Nat → Prop} {M : Nat} {rs : Nat → Nat} (hI : s_inv u N kd fa fb T so xa xb xc F M rs) (hM : m_inv v N kd fa fb T so xa xb xc F M rs) (hx1 : xs (ix + 1) = nI 6) (hP : va_P D vwA (lW a o b kI kL kZ u f v) H) (hD : va_D (fun q => s.heap.size ≤ q) (lW a o b kI kL kZ u f v)) (hS : va_S (fun q => s.heap.size ≤ q) s.heap H locs) (hl : lv_has ls 7 [(0, .ref b0), (1, .ref (a 0)), (2, .ref (b 0)), (3, .ref o), (4, .int (nI ix))]) (hcs : cells + 1 ≤ R.cells ∧ slots + 6 ≤ R.slots) (kk : ∀ (u v : sU) (f : Nat → Int64) (H : Heap) (locs : List Loc) (ls : Array Slot), lw_J u v → va_P D vwA (lW a o b kI kL kZ u f v) H → va_D (fun q => s.heap.size ≤ q) (lW a o b kI kL kZ u f v) → va_S (fun q => s.heap.size ≤ q) s.heap H locs → lv_has ls 7 [(0, .ref b0), (1, .ref (a 0)), (2, .ref (b 0)), (3, .ref o), (4, .int (nI ix))] → W p l e R s m args below meth c H locs (cells + 1) (slots + 6) Q (F0 m 1197 ls [])) : W p l e R s m args below meth c H locs cells slots Q (F0 m 1172 ls []) := by
  obtain ⟨hx, hb, hml, hown, hA, hXs, hbl, hK, hXX, hl0, hRf, hRl⟩ := h0
  have hbA : ¬ s.heap.size ≤ b0 := by omega
  refine lv_aload_n hx hb dL_law_1172 rfl (lv_at hl 1 rfl) ?_
  refine lv_aload_n hx hb dL_law_1173 rfl (lv_at hl 0 rfl) ?_
  refine lv_iload hx hb dL_law_1174 (lv_at hl 4 rfl) ?_
  refine lv_iconst (v := nI 1) hx hb dL_law_1176 (by decide +kernel) ?_
  refine tq_iadd hx hb dL_law_1177 ?_
  refine va_sld hx hb hXs hbl hbA hS (vp_in_nI (by omega) (by omega)) dL_law_1178 ?_
  refine tq_i (congrArg xs (nI_clamp (by omega))) ?_
  refine tq_i hx1 ?_
  refine kl_S ⟨hx, hb, hml, hown, hA⟩ (v_count6 l D a kI kL kZ u N kd fa fb T so xa xb xc F M rs hI ) (kw_L_126 hA rfl rfl ⟨Nat.le_trans (Nat.le_of_ble_eq_true rfl) hRf, Nat.le_trans (Nat.le_of_ble_eq_true rfl) hRl⟩) hK hP hD hS rfl hl.1 (Nat.le_of_ble_eq_true rfl) ⟨by omega, by omega⟩ dL_law_1179 rfl (fun r1 u1 H locs hu1 hP hD hS => ?_)
  refine lv_aload_n hx hb dL_law_1182 rfl (lv_at hl 2 rfl) ?_
  refine lv_aload_n hx hb dL_law_1183 rfl (lv_at hl 0 rfl) ?_
  refine lv_iload hx hb dL_law_1184 (lv_at hl 4 rfl) ?_
  refine lv_iconst (v := nI 1) hx hb dL_law_1186 (by decide +kernel) ?_
  refine tq_iadd hx hb dL_law_1187 ?_
  refine va_sld hx hb hXs hbl hbA hS (vp_in_nI (by omega) (by omega)) dL_law_1188 ?_
  refine tq_i (congrArg xs (nI_clamp (by omega))) ?_
  refine tq_i hx1 ?_
  refine kl_M ⟨hx, hb, hml, hown, hA⟩ (w_count6 l D b kI kL kZ v N kd fa fb T so xa xb xc F M rs hM ) (kw_L_129 hA rfl rfl ⟨Nat.le_trans (Nat.le_of_ble_eq_true rfl) hRf, Nat.le_trans (Nat.le_of_ble_eq_true rfl) hRl⟩) hK hP hD hS rfl hl.1 (Nat.le_of_ble_eq_true rfl) ⟨by omega, by omega⟩ dL_law_1189 rfl (fun r2 v1 H locs hv1 hP hD hS => ?_)
  have hjj : r1 = r2 ∧ lw_J u1 v1 := j_eq hu1 hv1.1
  refine lv_icmp_eq hx hb dL_law_1192 (tgt := 1197) (by decide) (fun h1192 => ?_) (fun h1192 => ?_)
  · refine W.widen (k := cells + 1) (n := slots + 6) (by omega) (by omega) ?_
    exact kk u1 v1 f H locs ls hjj.2 hP hD hS (lv_sub hl [0, 1, 2, 3, 4] rfl)
  · exact absurd hjj.1 h1192
set_option maxHeartbeats 4000000 in
set_option maxRecDepth 100000 in
theorem lg_countN {p : Program} {l : Launch} {e : Env} {R : Room} {s : State} {m : MethodId} {args : Array Value} {below : List Frame} {meth : Method} {c : Code} {H : Heap} {locs : List Loc} {cells slots : Nat} {Q : State → Prop} {ls : Array Slot} {b0 L : Nat} {xs : Nat → Int32} {D : va_G} {kI kL kZ : ClassId} {a b : Nat → Nat} {o : Nat} {u v : sU} {f : Nat → Int64} {ix : Nat} (h0 : lw_C p l R s m args c b0 L xs D kI kL kZ) (hi : ix + 4 ≤ L) (hL : L ≤ 2048) {N : Nat} {kd fa fb : Nat → Nat} {T : Nat} {so xa xb xc : Nat → Nat} {F : Nat → Prop} {M : Nat} {rs : Nat → Nat} (hI : s_inv u N kd fa fb T so xa xb xc F M rs) (hM : m_inv v N kd fa fb T so xa xb xc F M rs) (hout : (xs (ix + 1)).toInt < 0 ∨ 6 < (xs (ix + 1)).toInt) (hP : va_P D vwA (lW a o b kI kL kZ u f v) H) (hD : va_D (fun q => s.heap.size ≤ q) (lW a o b kI kL kZ u f v)) (hS : va_S (fun q => s.heap.size ≤ q) s.heap H locs) (hl : lv_has ls 7 [(0, .ref b0), (1, .ref (a 0)), (2, .ref (b 0)), (3, .ref o), (4, .int (nI ix))]) (hcs : cells + 1 ≤ R.cells ∧ slots + 6 ≤ R.slots) (kk : ∀ (u v : sU) (f : Nat → Int64) (H : Heap) (locs : List Loc) (ls : Array Slot), lw_J u v → va_P D vwA (lW a o b kI kL kZ u f v) H → va_D (fun q => s.heap.size ≤ q) (lW a o b kI kL kZ u f v) → va_S (fun q => s.heap.size ≤ q) s.heap H locs → lv_has ls 7 [(0, .ref b0), (1, .ref (a 0)), (2, .ref (b 0)), (3, .ref o), (4, .int (nI ix))] → W p l e R s m args below meth c H locs (cells + 1) (slots + 6) Q (F0 m 1197 ls [])) : W p l e R s m args below meth c H locs cells slots Q (F0 m 1172 ls []) := by
  obtain ⟨hx, hb, hml, hown, hA, hXs, hbl, hK, hXX, hl0, hRf, hRl⟩ := h0
  have hbA : ¬ s.heap.size ≤ b0 := by omega
  refine lv_aload_n hx hb dL_law_1172 rfl (lv_at hl 1 rfl) ?_
  refine lv_aload_n hx hb dL_law_1173 rfl (lv_at hl 0 rfl) ?_
  refine lv_iload hx hb dL_law_1174 (lv_at hl 4 rfl) ?_
  refine lv_iconst (v := nI 1) hx hb dL_law_1176 (by decide +kernel) ?_
  refine tq_iadd hx hb dL_law_1177 ?_
  refine va_sld hx hb hXs hbl hbA hS (vp_in_nI (by omega) (by omega)) dL_law_1178 ?_
  refine tq_i (congrArg xs (nI_clamp (by omega))) ?_
  refine kl_S ⟨hx, hb, hml, hown, hA⟩ (v_countN l D a kI kL kZ u N kd fa fb T so xa xb xc F M rs hI (xs (ix + 1)) hout) (kw_L_126 hA rfl rfl ⟨Nat.le_trans (Nat.le_of_ble_eq_true rfl) hRf, Nat.le_trans (Nat.le_of_ble_eq_true rfl) hRl⟩) hK hP hD hS rfl hl.1 (Nat.le_of_ble_eq_true rfl) ⟨by omega, by omega⟩ dL_law_1179 rfl (fun r1 u1 H locs hu1 hP hD hS => ?_)
  refine lv_aload_n hx hb dL_law_1182 rfl (lv_at hl 2 rfl) ?_
  refine lv_aload_n hx hb dL_law_1183 rfl (lv_at hl 0 rfl) ?_
  refine lv_iload hx hb dL_law_1184 (lv_at hl 4 rfl) ?_
  refine lv_iconst (v := nI 1) hx hb dL_law_1186 (by decide +kernel) ?_
  refine tq_iadd hx hb dL_law_1187 ?_
  refine va_sld hx hb hXs hbl hbA hS (vp_in_nI (by omega) (by omega)) dL_law_1188 ?_
  refine tq_i (congrArg xs (nI_clamp (by omega))) ?_
  refine kl_M ⟨hx, hb, hml, hown, hA⟩ (w_countN l D b kI kL kZ v N kd fa fb T so xa xb xc F M rs hM (xs (ix + 1)) hout) (kw_L_129 hA rfl rfl ⟨Nat.le_trans (Nat.le_of_ble_eq_true rfl) hRf, Nat.le_trans (Nat.le_of_ble_eq_true rfl) hRl⟩) hK hP hD hS rfl hl.1 (Nat.le_of_ble_eq_true rfl) ⟨by omega, by omega⟩ dL_law_1189 rfl (fun r2 v1 H locs hv1 hP hD hS => ?_)
  have hjj : r1 = r2 ∧ lw_J u1 v1 := j_eq hu1 hv1.1
  refine lv_icmp_eq hx hb dL_law_1192 (tgt := 1197) (by decide) (fun h1192 => ?_) (fun h1192 => ?_)
  · refine W.widen (k := cells + 1) (n := slots + 6) (by omega) (by omega) ?_
    exact kk u1 v1 f H locs ls hjj.2 hP hD hS (lv_sub hl [0, 1, 2, 3, 4] rfl)
  · exact absurd hjj.1 h1192
theorem lc_0 {p : Program} {l : Launch} {e : Env} {R : Room} {s : State} {m : MethodId} {args : Array Value} {below : List Frame} {meth : Method} {c : Code} {H : Heap} {locs : List Loc} {cells slots : Nat} {Q : State → Prop} {ls : Array Slot} {b0 L : Nat} {xs : Nat → Int32} {D : va_G} {kI kL kZ : ClassId} {a b : Nat → Nat} {o : Nat} {u v : sU} {f : Nat → Int64} {ix : Nat} (h0 : lw_C p l R s m args c b0 L xs D kI kL kZ) (hi : ix + 4 ≤ L) (hL : L ≤ 2048) (hJ : lw_J u v) (hP : va_P D vwA (lW a o b kI kL kZ u f v) H) (hD : va_D (fun q => s.heap.size ≤ q) (lW a o b kI kL kZ u f v)) (hS : va_S (fun q => s.heap.size ≤ q) s.heap H locs) (hl : lv_has ls 7 [(0, .ref b0), (1, .ref (a 0)), (2, .ref (b 0)), (3, .ref o), (4, .int (nI ix))]) (hcs : cells + 1 ≤ R.cells ∧ slots + 6 ≤ R.slots) (kk : ∀ (u v : sU) (f : Nat → Int64) (H : Heap) (locs : List Loc) (ls : Array Slot), lw_J u v → va_P D vwA (lW a o b kI kL kZ u f v) H → va_D (fun q => s.heap.size ≤ q) (lW a o b kI kL kZ u f v) → va_S (fun q => s.heap.size ≤ q) s.heap H locs → lv_has ls 7 [(0, .ref b0), (1, .ref (a 0)), (2, .ref (b 0)), (3, .ref o), (4, .int (nI ix))] → W p l e R s m args below meth c H locs (cells + 1) (slots + 6) Q (F0 m 1197 ls [])) : W p l e R s m args below meth c H locs cells slots Q (F0 m 124 ls []) := by
  obtain ⟨N, kd, fa, fb, T, so, xa, xb, xc, F, M, rs, hI, hM⟩ := hJ
  exact lg_name h0 hi hL hI hM hP hD hS hl hcs kk
theorem lc_7 {p : Program} {l : Launch} {e : Env} {R : Room} {s : State} {m : MethodId} {args : Array Value} {below : List Frame} {meth : Method} {c : Code} {H : Heap} {locs : List Loc} {cells slots : Nat} {Q : State → Prop} {ls : Array Slot} {b0 L : Nat} {xs : Nat → Int32} {D : va_G} {kI kL kZ : ClassId} {a b : Nat → Nat} {o : Nat} {u v : sU} {f : Nat → Int64} {ix : Nat} (h0 : lw_C p l R s m args c b0 L xs D kI kL kZ) (hi : ix + 4 ≤ L) (hL : L ≤ 2048) (hJ : lw_J u v) (hP : va_P D vwA (lW a o b kI kL kZ u f v) H) (hD : va_D (fun q => s.heap.size ≤ q) (lW a o b kI kL kZ u f v)) (hS : va_S (fun q => s.heap.size ≤ q) s.heap H locs) (hl : lv_has ls 7 [(0, .ref b0), (1, .ref (a 0)), (2, .ref (b 0)), (3, .ref o), (4, .int (nI ix))]) (hcs : cells + 1 ≤ R.cells ∧ slots + 6 ≤ R.slots) (kk : ∀ (u v : sU) (f : Nat → Int64) (H : Heap) (locs : List Loc) (ls : Array Slot), lw_J u v → va_P D vwA (lW a o b kI kL kZ u f v) H → va_D (fun q => s.heap.size ≤ q) (lW a o b kI kL kZ u f v) → va_S (fun q => s.heap.size ≤ q) s.heap H locs → lv_has ls 7 [(0, .ref b0), (1, .ref (a 0)), (2, .ref (b 0)), (3, .ref o), (4, .int (nI ix))] → W p l e R s m args below meth c H locs (cells + 1) (slots + 6) Q (F0 m 1197 ls [])) : W p l e R s m args below meth c H locs cells slots Q (F0 m 557 ls []) := by
  obtain ⟨N, kd, fa, fb, T, so, xa, xb, xc, F, M, rs, hI, hM⟩ := hJ
  exact lg_retract h0 hi hL hI hM hP hD hS hl hcs kk
theorem lc_15 {p : Program} {l : Launch} {e : Env} {R : Room} {s : State} {m : MethodId} {args : Array Value} {below : List Frame} {meth : Method} {c : Code} {H : Heap} {locs : List Loc} {cells slots : Nat} {Q : State → Prop} {ls : Array Slot} {b0 L : Nat} {xs : Nat → Int32} {D : va_G} {kI kL kZ : ClassId} {a b : Nat → Nat} {o : Nat} {u v : sU} {f : Nat → Int64} {ix : Nat} (h0 : lw_C p l R s m args c b0 L xs D kI kL kZ) (hi : ix + 4 ≤ L) (hL : L ≤ 2048) (hJ : lw_J u v) (hP : va_P D vwA (lW a o b kI kL kZ u f v) H) (hD : va_D (fun q => s.heap.size ≤ q) (lW a o b kI kL kZ u f v)) (hS : va_S (fun q => s.heap.size ≤ q) s.heap H locs) (hl : lv_has ls 7 [(0, .ref b0), (1, .ref (a 0)), (2, .ref (b 0)), (3, .ref o), (4, .int (nI ix))]) (hcs : cells + 1 ≤ R.cells ∧ slots + 6 ≤ R.slots) (kk : ∀ (u v : sU) (f : Nat → Int64) (H : Heap) (locs : List Loc) (ls : Array Slot), lw_J u v → va_P D vwA (lW a o b kI kL kZ u f v) H → va_D (fun q => s.heap.size ≤ q) (lW a o b kI kL kZ u f v) → va_S (fun q => s.heap.size ≤ q) s.heap H locs → lv_has ls 7 [(0, .ref b0), (1, .ref (a 0)), (2, .ref (b 0)), (3, .ref o), (4, .int (nI ix))] → W p l e R s m args below meth c H locs (cells + 1) (slots + 6) Q (F0 m 1197 ls [])) : W p l e R s m args below meth c H locs cells slots Q (F0 m 1060 ls []) := by
  obtain ⟨N, kd, fa, fb, T, so, xa, xb, xc, F, M, rs, hI, hM⟩ := hJ
  exact lg_reason h0 hi hL hI hM hP hD hS hl hcs kk
theorem lc_17 {p : Program} {l : Launch} {e : Env} {R : Room} {s : State} {m : MethodId} {args : Array Value} {below : List Frame} {meth : Method} {c : Code} {H : Heap} {locs : List Loc} {cells slots : Nat} {Q : State → Prop} {ls : Array Slot} {b0 L : Nat} {xs : Nat → Int32} {D : va_G} {kI kL kZ : ClassId} {a b : Nat → Nat} {o : Nat} {u v : sU} {f : Nat → Int64} {ix : Nat} (h0 : lw_C p l R s m args c b0 L xs D kI kL kZ) (hi : ix + 4 ≤ L) (hL : L ≤ 2048) (hJ : lw_J u v) (hP : va_P D vwA (lW a o b kI kL kZ u f v) H) (hD : va_D (fun q => s.heap.size ≤ q) (lW a o b kI kL kZ u f v)) (hS : va_S (fun q => s.heap.size ≤ q) s.heap H locs) (hl : lv_has ls 7 [(0, .ref b0), (1, .ref (a 0)), (2, .ref (b 0)), (3, .ref o), (4, .int (nI ix))]) (hcs : cells + 1 ≤ R.cells ∧ slots + 6 ≤ R.slots) (kk : ∀ (u v : sU) (f : Nat → Int64) (H : Heap) (locs : List Loc) (ls : Array Slot), lw_J u v → va_P D vwA (lW a o b kI kL kZ u f v) H → va_D (fun q => s.heap.size ≤ q) (lW a o b kI kL kZ u f v) → va_S (fun q => s.heap.size ≤ q) s.heap H locs → lv_has ls 7 [(0, .ref b0), (1, .ref (a 0)), (2, .ref (b 0)), (3, .ref o), (4, .int (nI ix))] → W p l e R s m args below meth c H locs (cells + 1) (slots + 6) Q (F0 m 1197 ls [])) : W p l e R s m args below meth c H locs cells slots Q (F0 m 1172 ls []) := by
  obtain ⟨N, kd, fa, fb, T, so, xa, xb, xc, F, M, rs, hI, hM⟩ := hJ
  by_cases c0 : (xs (ix + 1)).toInt < 0 ∨ 6 < (xs (ix + 1)).toInt
  · exact lg_countN h0 hi hL hI hM c0 hP hD hS hl hcs kk
  · obtain ⟨q, hq, hx⟩ : ∃ q, q < 7 ∧ xs (ix + 1) = nI q := ⟨(xs (ix + 1)).toInt.toNat, by omega, Int32.toInt_inj.mp (by rw [nI_toInt (by omega)]; omega)⟩
    match q, hq with
    | 0, _ => exact lg_count0 h0 hi hL hI hM hx hP hD hS hl hcs kk
    | 1, _ => exact lg_count1 h0 hi hL hI hM hx hP hD hS hl hcs kk
    | 2, _ => exact lg_count2 h0 hi hL hI hM hx hP hD hS hl hcs kk
    | 3, _ => exact lg_count3 h0 hi hL hI hM hx hP hD hS hl hcs kk
    | 4, _ => exact lg_count4 h0 hi hL hI hM hx hP hD hS hl hcs kk
    | 5, _ => exact lg_count5 h0 hi hL hI hM hx hP hD hS hl hcs kk
    | 6, _ => exact lg_count6 h0 hi hL hI hM hx hP hD hS hl hcs kk
    | q + 7, hq => omega
