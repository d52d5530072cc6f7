/-! The law's cases. Written by wip/whole/gen/genL2.py. -/
set_option maxHeartbeats 4000000 in
set_option maxRecDepth 100000 in
theorem lg_both {p : Program} {l : Launch} {e : Env} {R : Room} {s : State} {m : MethodId} {args : Array Value} {below : List Frame} {meth : Method} {c : Code} {H : Heap} {locs : List Loc} {cells slots : Nat} {Q : State → Prop} {ls : Array Slot} {b0 L : Nat} {xs : Nat → Int32} {D : va_G} {kI kL kZ : ClassId} {a b : Nat → Nat} {o : Nat} {u v : sU} {f : Nat → Int64} {ix : Nat} (h0 : lw_C p l R s m args c b0 L xs D kI kL kZ) (hi : ix + 4 ≤ L) (hL : L ≤ 2048) {N : Nat} {kd fa fb : Nat → Nat} {T : Nat} {so xa xb xc : Nat → Nat} {F : Nat → Prop} {M : Nat} {rs : Nat → Nat} (hI : s_inv u N kd fa fb T so xa xb xc F M rs) (hM : m_inv v N kd fa fb T so xa xb xc F M rs) (d d2 : Nat) (hd : d < N) (hd2 : d2 < N) (hxs1 : xs (ix + 1) = nI d) (hxs2 : xs (ix + 2) = nI d2) (hP : va_P D vwA (lW a o b kI kL kZ u f v) H) (hD : va_D (fun q => s.heap.size ≤ q) (lW a o b kI kL kZ u f v)) (hS : va_S (fun q => s.heap.size ≤ q) s.heap H locs) (hl : lv_has ls 7 [(0, .ref b0), (1, .ref (a 0)), (2, .ref (b 0)), (3, .ref o), (4, .int (nI ix))]) (hcs : cells + 1 ≤ R.cells ∧ slots + 6 ≤ R.slots) (kk : ∀ (u v : sU) (f : Nat → Int64) (H : Heap) (locs : List Loc) (ls : Array Slot), lw_J u v → va_P D vwA (lW a o b kI kL kZ u f v) H → va_D (fun q => s.heap.size ≤ q) (lW a o b kI kL kZ u f v) → va_S (fun q => s.heap.size ≤ q) s.heap H locs → lv_has ls 7 [(0, .ref b0), (1, .ref (a 0)), (2, .ref (b 0)), (3, .ref o), (4, .int (nI ix))] → W p l e R s m args below meth c H locs (cells + 1) (slots + 6) Q (F0 m 1197 ls [])) : W p l e R s m args below meth c H locs cells slots Q (F0 m 137 ls []) := by
  obtain ⟨hx, hb, hml, hown, hA, hXs, hbl, hK, hXX, hl0, hRf, hRl⟩ := h0
  have hbA : ¬ s.heap.size ≤ b0 := by omega
  refine lv_aload_n hx hb dL_law_137 rfl (lv_at hl 1 rfl) ?_
  refine lv_aload_n hx hb dL_law_138 rfl (lv_at hl 0 rfl) ?_
  refine lv_iload hx hb dL_law_139 (lv_at hl 4 rfl) ?_
  refine lv_iconst (v := nI 1) hx hb dL_law_141 (by decide +kernel) ?_
  refine tq_iadd hx hb dL_law_142 ?_
  refine va_sld hx hb hXs hbl hbA hS (vp_in_nI (by omega) (by omega)) dL_law_143 ?_
  refine tq_i (congrArg xs (nI_clamp (by omega))) ?_
  refine tq_i hxs1 ?_
  refine lv_aload_n hx hb dL_law_144 rfl (lv_at hl 0 rfl) ?_
  refine lv_iload hx hb dL_law_145 (lv_at hl 4 rfl) ?_
  refine lv_iconst (v := nI 2) hx hb dL_law_147 (by decide +kernel) ?_
  refine tq_iadd hx hb dL_law_148 ?_
  refine va_sld hx hb hXs hbl hbA hS (vp_in_nI (by omega) (by omega)) dL_law_149 ?_
  refine tq_i (congrArg xs (nI_clamp (by omega))) ?_
  refine tq_i hxs2 ?_
  refine lv_aload_n hx hb dL_law_150 rfl (lv_at hl 3 rfl) ?_
  refine kl_H ⟨hx, hb, hml, hown, hA⟩ (g_both l D a o kI kL kZ u f N kd fa fb T so xa xb xc F M rs hI d d2 hd hd2) (kh_L_67 hA rfl rfl ⟨Nat.le_trans (Nat.le_of_ble_eq_true rfl) hRf, Nat.le_trans (Nat.le_of_ble_eq_true rfl) hRl⟩) hK hP hD hS rfl hl.1 (Nat.le_of_ble_eq_true rfl) ⟨by omega, by omega⟩ dL_law_151 rfl (fun r1 w1 H locs hw1 hP hD hS => ?_)
  obtain ⟨r0, hf0, hq⟩ := hw1.2
  refine tq_i hw1.1 ?_
  refine lv_istore (lv' := [(5, .int (nI 0)), (0, .ref b0), (1, .ref (a 0)), (2, .ref (b 0)), (3, .ref o), (4, .int (nI ix))]) hx hb dL_law_154 hl (by decide) rfl (fun ls hl => ?_)
  refine lv_aload_n hx hb dL_law_156 rfl (lv_at hl 3 rfl) ?_
  refine lv_aload_n hx hb dL_law_157 rfl (lv_at hl 1 rfl) ?_
  refine lv_iload hx hb dL_law_158 (lv_at hl 5 rfl) ?_
  refine lv_iconst (v := nI 1) hx hb dL_law_160 (by decide +kernel) ?_
  refine tq_iadd hx hb dL_law_161 ?_
  refine va_sld hx hb hXs hbl hbA hS (vp_in_nI (by omega) (by omega)) dL_law_162 ?_
  refine tq_i (congrArg xs (nI_clamp (by omega))) ?_
  refine tq_i hxs1 ?_
  refine lv_aload_n hx hb dL_law_163 rfl (lv_at hl 1 rfl) ?_
  refine lv_iload hx hb dL_law_164 (lv_at hl 5 rfl) ?_
  refine lv_iconst (v := nI 2) hx hb dL_law_166 (by decide +kernel) ?_
  refine tq_iadd hx hb dL_law_167 ?_
  refine va_sld hx hb hXs hbl hbA hS (vp_in_nI (by omega) (by omega)) dL_law_168 ?_
  refine tq_i (congrArg xs (nI_clamp (by omega))) ?_
  refine tq_i hxs2 ?_
  refine kl_M ⟨hx, hb, hml, hown, hA⟩ (w_both l D b kI kL kZ v N kd fa fb T so xa xb xc F M rs hM d d2 hd hd2) (kw_L_72 hA rfl rfl ⟨Nat.le_trans (Nat.le_of_ble_eq_true rfl) hRf, Nat.le_trans (Nat.le_of_ble_eq_true rfl) hRl⟩) hK hP hD hS rfl hl.1 (Nat.le_of_ble_eq_true rfl) ⟨by omega, by omega⟩ dL_law_169 rfl (fun r2 v1 H locs hv1 hP hD hS => ?_)
  have hthr : v1.2.2 0 = 0 := hv1.2
  have hjj : r0 = r2 ∧ lw_J w1.1 v1 := j_mk hI (by decide) hq hv1.1
  refine lv_istore (lv' := [(6, .int r2), (5, .int (nI 0)), (0, .ref b0), (1, .ref (a 0)), (2, .ref (b 0)), (3, .ref o), (4, .int (nI ix))]) hx hb dL_law_172 hl (by decide) rfl (fun ls hl => ?_)
  refine lv_aload_n hx hb dL_law_174 rfl (lv_at hl 4 rfl) ?_
  refine kl_T ⟨hx, hb, hml, hown, hA⟩ (m_thrown l D b kI kL kZ v1) (kw_L_73 hA rfl rfl ⟨Nat.le_trans (Nat.le_of_ble_eq_true rfl) hRf, Nat.le_trans (Nat.le_of_ble_eq_true rfl) hRl⟩) hK hP hS rfl hl.1 (Nat.le_of_ble_eq_true rfl) ⟨by omega, by omega⟩ dL_law_175 rfl (fun H locs hP hS => ?_)
  refine tq_i (congrArg nI hthr) ?_
  refine lv_iload hx hb dL_law_178 (lv_at hl 1 rfl) ?_
  refine tq_eq hx hb dL_law_180 (tgt := 185) (by decide) (by omega) (by omega) (fun h180 => ?_) (fun h180 => ?_)
  · refine lv_iload hx hb dL_law_185 (lv_at hl 1 rfl) ?_
    refine tq_zne hx hb dL_law_187 (tgt := 202) (by decide) (by omega) (fun h187 => ?_) (fun h187 => ?_)
    · omega
    · refine lv_aload_n hx hb dL_law_190 rfl (lv_at hl 5 rfl) ?_
      refine lv_iconst (v := nI 0) hx hb dL_law_191 (by decide +kernel) ?_
      refine tq_lald hx hb hK hP 32 1 rfl rfl (by omega) (by omega) dL_law_192 ?_
      refine lv_iload hx hb dL_law_193 (lv_at hl 0 rfl) ?_
      refine lv_i2l hx hb dL_law_195 rfl ?_
      refine tq_leq hx hb dL_law_196 dL_law_197 (tgt := 202) (by decide) (fun h196 => ?_) (fun h196 => ?_)
      · refine lv_goto hx hb dL_law_202 (tgt := 1197) (by decide) ?_
        refine W.widen (k := cells + 1) (n := slots + 6) (by omega) (by omega) ?_
        exact kk w1.1 v1 w1.2 H locs ls hjj.2 hP hD hS (lv_sub hl [2, 3, 4, 5, 6] rfl)
      · exact absurd (hf0.trans (congrArg Int32.toInt64 hjj.1)) h196
  · omega
set_option maxHeartbeats 4000000 in
set_option maxRecDepth 100000 in
theorem lb_both {p : Program} {l : Launch} {e : Env} {R : Room} {s : State} {m : MethodId} {args : Array Value} {below : List Frame} {meth : Method} {c : Code} {H : Heap} {locs : List Loc} {cells slots : Nat} {Q : State → Prop} {ls : Array Slot} {b0 L : Nat} {xs : Nat → Int32} {D : va_G} {kI kL kZ : ClassId} {a b : Nat → Nat} {o : Nat} {u v : sU} {f : Nat → Int64} {ix : Nat} (h0 : lw_C p l R s m args c b0 L xs D kI kL kZ) (hi : ix + 4 ≤ L) (hL : L ≤ 2048) {N : Nat} {kd fa fb : Nat → Nat} {T : Nat} {so xa xb xc : Nat → Nat} {F : Nat → Prop} {M : Nat} {rs : Nat → Nat} (hI : s_inv u N kd fa fb T so xa xb xc F M rs) (hM : m_inv v N kd fa fb T so xa xb xc F M rs) (hbad : (∀ k, k < N → ¬ (xs (ix + 1)) = nI k) ∨ (∀ k, k < N → ¬ (xs (ix + 2)) = nI k)) (hP : va_P D vwA (lW a o b kI kL kZ u f v) H) (hD : va_D (fun q => s.heap.size ≤ q) (lW a o b kI kL kZ u f v)) (hS : va_S (fun q => s.heap.size ≤ q) s.heap H locs) (hl : lv_has ls 7 [(0, .ref b0), (1, .ref (a 0)), (2, .ref (b 0)), (3, .ref o), (4, .int (nI ix))]) (hcs : cells + 1 ≤ R.cells ∧ slots + 6 ≤ R.slots) (kk : ∀ (u v : sU) (f : Nat → Int64) (H : Heap) (locs : List Loc) (ls : Array Slot), lw_J u v → va_P D vwA (lW a o b kI kL kZ u f v) H → va_D (fun q => s.heap.size ≤ q) (lW a o b kI kL kZ u f v) → va_S (fun q => s.heap.size ≤ q) s.heap H locs → lv_has ls 7 [(0, .ref b0), (1, .ref (a 0)), (2, .ref (b 0)), (3, .ref o), (4, .int (nI ix))] → W p l e R s m args below meth c H locs (cells + 1) (slots + 6) Q (F0 m 1197 ls [])) : W p l e R s m args below meth c H locs cells slots Q (F0 m 137 ls []) := by
  obtain ⟨hx, hb, hml, hown, hA, hXs, hbl, hK, hXX, hl0, hRf, hRl⟩ := h0
  have hbA : ¬ s.heap.size ≤ b0 := by omega
  have hn := inv_N hI
  have hbS : (∀ k, k < u.2.2 0 → ¬ (xs (ix + 1)) = nI k) ∨ (∀ k, k < u.2.2 0 → ¬ (xs (ix + 2)) = nI k) := by rw [hn.1]; exact hbad
  refine lv_aload_n hx hb dL_law_137 rfl (lv_at hl 1 rfl) ?_
  refine lv_aload_n hx hb dL_law_138 rfl (lv_at hl 0 rfl) ?_
  refine lv_iload hx hb dL_law_139 (lv_at hl 4 rfl) ?_
  refine lv_iconst (v := nI 1) hx hb dL_law_141 (by decide +kernel) ?_
  refine tq_iadd hx hb dL_law_142 ?_
  refine va_sld hx hb hXs hbl hbA hS (vp_in_nI (by omega) (by omega)) dL_law_143 ?_
  refine tq_i (congrArg xs (nI_clamp (by omega))) ?_
  refine lv_aload_n hx hb dL_law_144 rfl (lv_at hl 0 rfl) ?_
  refine lv_iload hx hb dL_law_145 (lv_at hl 4 rfl) ?_
  refine lv_iconst (v := nI 2) hx hb dL_law_147 (by decide +kernel) ?_
  refine tq_iadd hx hb dL_law_148 ?_
  refine va_sld hx hb hXs hbl hbA hS (vp_in_nI (by omega) (by omega)) dL_law_149 ?_
  refine tq_i (congrArg xs (nI_clamp (by omega))) ?_
  refine lv_aload_n hx hb dL_law_150 rfl (lv_at hl 3 rfl) ?_
  refine kl_B ⟨hx, hb, hml, hown, hA⟩ (b_both l hl0 D a o kI kL kZ u f (xs (ix + 1)) (xs (ix + 2)) (by omega) hbS) (kh_L_67 hA rfl rfl ⟨Nat.le_trans (Nat.le_of_ble_eq_true rfl) hRf, Nat.le_trans (Nat.le_of_ble_eq_true rfl) hRl⟩) hK (fun U hU hW => hXX.at hS (fun q h1 h2 => by omega) hU hW) hP hD hS rfl hl.1 (Nat.le_of_ble_eq_true rfl) ⟨by omega, by omega⟩ dL_law_151 rfl (fun r1 w1 H locs hw1 hP hD hS => ?_)
  refine tq_i hw1.1 ?_
  refine lv_istore (lv' := [(5, .int (nI 1)), (0, .ref b0), (1, .ref (a 0)), (2, .ref (b 0)), (3, .ref o), (4, .int (nI ix))]) hx hb dL_law_154 hl (by decide) rfl (fun ls hl => ?_)
  refine lv_aload_n hx hb dL_law_156 rfl (lv_at hl 3 rfl) ?_
  refine lv_aload_n hx hb dL_law_157 rfl (lv_at hl 1 rfl) ?_
  refine lv_iload hx hb dL_law_158 (lv_at hl 5 rfl) ?_
  refine lv_iconst (v := nI 1) hx hb dL_law_160 (by decide +kernel) ?_
  refine tq_iadd hx hb dL_law_161 ?_
  refine va_sld hx hb hXs hbl hbA hS (vp_in_nI (by omega) (by omega)) dL_law_162 ?_
  refine tq_i (congrArg xs (nI_clamp (by omega))) ?_
  refine lv_aload_n hx hb dL_law_163 rfl (lv_at hl 1 rfl) ?_
  refine lv_iload hx hb dL_law_164 (lv_at hl 5 rfl) ?_
  refine lv_iconst (v := nI 2) hx hb dL_law_166 (by decide +kernel) ?_
  refine tq_iadd hx hb dL_law_167 ?_
  refine va_sld hx hb hXs hbl hbA hS (vp_in_nI (by omega) (by omega)) dL_law_168 ?_
  refine tq_i (congrArg xs (nI_clamp (by omega))) ?_
  refine kl_M ⟨hx, hb, hml, hown, hA⟩ (n_both l D b kI kL kZ v N kd fa fb T so xa xb xc hM.1 (xs (ix + 1)) (xs (ix + 2)) hbad) (kw_L_72 hA rfl rfl ⟨Nat.le_trans (Nat.le_of_ble_eq_true rfl) hRf, Nat.le_trans (Nat.le_of_ble_eq_true rfl) hRl⟩) hK hP hD hS rfl hl.1 (Nat.le_of_ble_eq_true rfl) ⟨by omega, by omega⟩ dL_law_169 rfl (fun r2 v1 H locs hv1 hP hD hS => ?_)
  have hthr : v1.2.2 0 = 1 := by rw [hv1]; rfl
  have hjj : lw_J w1.1 v1 := by
    rw [hw1.2, hv1]
    exact ⟨_, _, _, _, _, _, _, _, _, _, _, _, hI, minv_thr hM⟩
  refine lv_istore (lv' := [(6, .int r2), (5, .int (nI 1)), (0, .ref b0), (1, .ref (a 0)), (2, .ref (b 0)), (3, .ref o), (4, .int (nI ix))]) hx hb dL_law_172 hl (by decide) rfl (fun ls hl => ?_)
  refine lv_aload_n hx hb dL_law_174 rfl (lv_at hl 4 rfl) ?_
  refine kl_T ⟨hx, hb, hml, hown, hA⟩ (m_thrown l D b kI kL kZ v1) (kw_L_73 hA rfl rfl ⟨Nat.le_trans (Nat.le_of_ble_eq_true rfl) hRf, Nat.le_trans (Nat.le_of_ble_eq_true rfl) hRl⟩) hK hP hS rfl hl.1 (Nat.le_of_ble_eq_true rfl) ⟨by omega, by omega⟩ dL_law_175 rfl (fun H locs hP hS => ?_)
  refine tq_i (congrArg nI hthr) ?_
  refine lv_iload hx hb dL_law_178 (lv_at hl 1 rfl) ?_
  refine tq_eq hx hb dL_law_180 (tgt := 185) (by decide) (by omega) (by omega) (fun h180 => ?_) (fun h180 => ?_)
  · refine lv_iload hx hb dL_law_185 (lv_at hl 1 rfl) ?_
    refine tq_zne hx hb dL_law_187 (tgt := 202) (by decide) (by omega) (fun h187 => ?_) (fun h187 => ?_)
    · refine lv_goto hx hb dL_law_202 (tgt := 1197) (by decide) ?_
      exact kk w1.1 v1 w1.2 H locs ls hjj hP hD hS (lv_sub hl [2, 3, 4, 5, 6] rfl)
    · omega
  · omega
theorem lc_1 {p : Program} {l : Launch} {e : Env} {R : Room} {s : State} {m : MethodId} {args : Array Value} {below : List Frame} {meth : Method} {c : Code} {H : Heap} {locs : List Loc} {cells slots : Nat} {Q : State → Prop} {ls : Array Slot} {b0 L : Nat} {xs : Nat → Int32} {D : va_G} {kI kL kZ : ClassId} {a b : Nat → Nat} {o : Nat} {u v : sU} {f : Nat → Int64} {ix : Nat} (h0 : lw_C p l R s m args c b0 L xs D kI kL kZ) (hi : ix + 4 ≤ L) (hL : L ≤ 2048) (hJ : lw_J u v) (hP : va_P D vwA (lW a o b kI kL kZ u f v) H) (hD : va_D (fun q => s.heap.size ≤ q) (lW a o b kI kL kZ u f v)) (hS : va_S (fun q => s.heap.size ≤ q) s.heap H locs) (hl : lv_has ls 7 [(0, .ref b0), (1, .ref (a 0)), (2, .ref (b 0)), (3, .ref o), (4, .int (nI ix))]) (hcs : cells + 1 ≤ R.cells ∧ slots + 6 ≤ R.slots) (kk : ∀ (u v : sU) (f : Nat → Int64) (H : Heap) (locs : List Loc) (ls : Array Slot), lw_J u v → va_P D vwA (lW a o b kI kL kZ u f v) H → va_D (fun q => s.heap.size ≤ q) (lW a o b kI kL kZ u f v) → va_S (fun q => s.heap.size ≤ q) s.heap H locs → lv_has ls 7 [(0, .ref b0), (1, .ref (a 0)), (2, .ref (b 0)), (3, .ref o), (4, .int (nI ix))] → W p l e R s m args below meth c H locs (cells + 1) (slots + 6) Q (F0 m 1197 ls [])) : W p l e R s m args below meth c H locs cells slots Q (F0 m 137 ls []) := by
  obtain ⟨N, kd, fa, fb, T, so, xa, xb, xc, F, M, rs, hI, hM⟩ := hJ
  by_cases c1 : ∃ k, k < N ∧ xs (ix + 1) = nI k
  · obtain ⟨d, e1, f1⟩ := c1
    by_cases c2 : ∃ k, k < N ∧ xs (ix + 2) = nI k
    · obtain ⟨d2, e2, f2⟩ := c2
      exact lg_both h0 hi hL hI hM d d2 e1 e2 f1 f2 hP hD hS hl hcs kk
    · exact lb_both h0 hi hL hI hM (Or.inr ((fun k hk z => c2 ⟨k, hk, z⟩))) hP hD hS hl hcs kk
  · exact lb_both h0 hi hL hI hM (Or.inl (fun k hk z => c1 ⟨k, hk, z⟩)) hP hD hS hl hcs kk
set_option maxHeartbeats 4000000 in
set_option maxRecDepth 100000 in
theorem lg_some {p : Program} {l : Launch} {e : Env} {R : Room} {s : State} {m : MethodId} {args : Array Value} {below : List Frame} {meth : Method} {c : Code} {H : Heap} {locs : List Loc} {cells slots : Nat} {Q : State → Prop} {ls : Array Slot} {b0 L : Nat} {xs : Nat → Int32} {D : va_G} {kI kL kZ : ClassId} {a b : Nat → Nat} {o : Nat} {u v : sU} {f : Nat → Int64} {ix : Nat} (h0 : lw_C p l R s m args c b0 L xs D kI kL kZ) (hi : ix + 4 ≤ L) (hL : L ≤ 2048) {N : Nat} {kd fa fb : Nat → Nat} {T : Nat} {so xa xb xc : Nat → Nat} {F : Nat → Prop} {M : Nat} {rs : Nat → Nat} (hI : s_inv u N kd fa fb T so xa xb xc F M rs) (hM : m_inv v N kd fa fb T so xa xb xc F M rs) (i d : Nat) (hi6 : i < 6) (hd : d < N) (hxs1 : xs (ix + 1) = nI i) (hxs2 : xs (ix + 2) = nI d) (hP : va_P D vwA (lW a o b kI kL kZ u f v) H) (hD : va_D (fun q => s.heap.size ≤ q) (lW a o b kI kL kZ u f v)) (hS : va_S (fun q => s.heap.size ≤ q) s.heap H locs) (hl : lv_has ls 7 [(0, .ref b0), (1, .ref (a 0)), (2, .ref (b 0)), (3, .ref o), (4, .int (nI ix))]) (hcs : cells + 1 ≤ R.cells ∧ slots + 6 ≤ R.slots) (kk : ∀ (u v : sU) (f : Nat → Int64) (H : Heap) (locs : List Loc) (ls : Array Slot), lw_J u v → va_P D vwA (lW a o b kI kL kZ u f v) H → va_D (fun q => s.heap.size ≤ q) (lW a o b kI kL kZ u f v) → va_S (fun q => s.heap.size ≤ q) s.heap H locs → lv_has ls 7 [(0, .ref b0), (1, .ref (a 0)), (2, .ref (b 0)), (3, .ref o), (4, .int (nI ix))] → W p l e R s m args below meth c H locs (cells + 1) (slots + 6) Q (F0 m 1197 ls [])) : W p l e R s m args below meth c H locs cells slots Q (F0 m 205 ls []) := by
  obtain ⟨hx, hb, hml, hown, hA, hXs, hbl, hK, hXX, hl0, hRf, hRl⟩ := h0
  have hbA : ¬ s.heap.size ≤ b0 := by omega
  refine lv_aload_n hx hb dL_law_205 rfl (lv_at hl 1 rfl) ?_
  refine lv_aload_n hx hb dL_law_206 rfl (lv_at hl 0 rfl) ?_
  refine lv_iload hx hb dL_law_207 (lv_at hl 4 rfl) ?_
  refine lv_iconst (v := nI 1) hx hb dL_law_209 (by decide +kernel) ?_
  refine tq_iadd hx hb dL_law_210 ?_
  refine va_sld hx hb hXs hbl hbA hS (vp_in_nI (by omega) (by omega)) dL_law_211 ?_
  refine tq_i (congrArg xs (nI_clamp (by omega))) ?_
  refine tq_i hxs1 ?_
  refine lv_aload_n hx hb dL_law_212 rfl (lv_at hl 0 rfl) ?_
  refine lv_iload hx hb dL_law_213 (lv_at hl 4 rfl) ?_
  refine lv_iconst (v := nI 2) hx hb dL_law_215 (by decide +kernel) ?_
  refine tq_iadd hx hb dL_law_216 ?_
  refine va_sld hx hb hXs hbl hbA hS (vp_in_nI (by omega) (by omega)) dL_law_217 ?_
  refine tq_i (congrArg xs (nI_clamp (by omega))) ?_
  refine tq_i hxs2 ?_
  refine lv_aload_n hx hb dL_law_218 rfl (lv_at hl 3 rfl) ?_
  refine kl_H ⟨hx, hb, hml, hown, hA⟩ (g_some l D a o kI kL kZ u f N kd fa fb T so xa xb xc F M rs hI i d hi6 hd) (kh_L_76 hA rfl rfl ⟨Nat.le_trans (Nat.le_of_ble_eq_true rfl) hRf, Nat.le_trans (Nat.le_of_ble_eq_true rfl) hRl⟩) hK hP hD hS rfl hl.1 (Nat.le_of_ble_eq_true rfl) ⟨by omega, by omega⟩ dL_law_219 rfl (fun r1 w1 H locs hw1 hP hD hS => ?_)
  obtain ⟨r0, hf0, hq⟩ := hw1.2
  refine tq_i hw1.1 ?_
  refine lv_istore (lv' := [(5, .int (nI 0)), (0, .ref b0), (1, .ref (a 0)), (2, .ref (b 0)), (3, .ref o), (4, .int (nI ix))]) hx hb dL_law_222 hl (by decide) rfl (fun ls hl => ?_)
  refine lv_aload_n hx hb dL_law_224 rfl (lv_at hl 3 rfl) ?_
  refine lv_aload_n hx hb dL_law_225 rfl (lv_at hl 1 rfl) ?_
  refine lv_iload hx hb dL_law_226 (lv_at hl 5 rfl) ?_
  refine lv_iconst (v := nI 1) hx hb dL_law_228 (by decide +kernel) ?_
  refine tq_iadd hx hb dL_law_229 ?_
  refine va_sld hx hb hXs hbl hbA hS (vp_in_nI (by omega) (by omega)) dL_law_230 ?_
  refine tq_i (congrArg xs (nI_clamp (by omega))) ?_
  refine tq_i hxs1 ?_
  refine lv_aload_n hx hb dL_law_231 rfl (lv_at hl 1 rfl) ?_
  refine lv_iload hx hb dL_law_232 (lv_at hl 5 rfl) ?_
  refine lv_iconst (v := nI 2) hx hb dL_law_234 (by decide +kernel) ?_
  refine tq_iadd hx hb dL_law_235 ?_
  refine va_sld hx hb hXs hbl hbA hS (vp_in_nI (by omega) (by omega)) dL_law_236 ?_
  refine tq_i (congrArg xs (nI_clamp (by omega))) ?_
  refine tq_i hxs2 ?_
  refine kl_M ⟨hx, hb, hml, hown, hA⟩ (w_some l D b kI kL kZ v N kd fa fb T so xa xb xc F M rs hM i d hi6 hd) (kw_L_78 hA rfl rfl ⟨Nat.le_trans (Nat.le_of_ble_eq_true rfl) hRf, Nat.le_trans (Nat.le_of_ble_eq_true rfl) hRl⟩) hK hP hD hS rfl hl.1 (Nat.le_of_ble_eq_true rfl) ⟨by omega, by omega⟩ dL_law_237 rfl (fun r2 v1 H locs hv1 hP hD hS => ?_)
  have hthr : v1.2.2 0 = 0 := hv1.2
  have hjj : r0 = r2 ∧ lw_J w1.1 v1 := j_mk hI (by decide) hq hv1.1
  refine lv_istore (lv' := [(6, .int r2), (5, .int (nI 0)), (0, .ref b0), (1, .ref (a 0)), (2, .ref (b 0)), (3, .ref o), (4, .int (nI ix))]) hx hb dL_law_240 hl (by decide) rfl (fun ls hl => ?_)
  refine lv_aload_n hx hb dL_law_242 rfl (lv_at hl 4 rfl) ?_
  refine kl_T ⟨hx, hb, hml, hown, hA⟩ (m_thrown l D b kI kL kZ v1) (kw_L_73 hA rfl rfl ⟨Nat.le_trans (Nat.le_of_ble_eq_true rfl) hRf, Nat.le_trans (Nat.le_of_ble_eq_true rfl) hRl⟩) hK hP hS rfl hl.1 (Nat.le_of_ble_eq_true rfl) ⟨by omega, by omega⟩ dL_law_243 rfl (fun H locs hP hS => ?_)
  refine tq_i (congrArg nI hthr) ?_
  refine lv_iload hx hb dL_law_246 (lv_at hl 1 rfl) ?_
  refine tq_eq hx hb dL_law_248 (tgt := 253) (by decide) (by omega) (by omega) (fun h248 => ?_) (fun h248 => ?_)
  · refine lv_iload hx hb dL_law_253 (lv_at hl 1 rfl) ?_
    refine tq_zne hx hb dL_law_255 (tgt := 270) (by decide) (by omega) (fun h255 => ?_) (fun h255 => ?_)
    · omega
    · refine lv_aload_n hx hb dL_law_258 rfl (lv_at hl 5 rfl) ?_
      refine lv_iconst (v := nI 0) hx hb dL_law_259 (by decide +kernel) ?_
      refine tq_lald hx hb hK hP 32 1 rfl rfl (by omega) (by omega) dL_law_260 ?_
      refine lv_iload hx hb dL_law_261 (lv_at hl 0 rfl) ?_
      refine lv_i2l hx hb dL_law_263 rfl ?_
      refine tq_leq hx hb dL_law_264 dL_law_265 (tgt := 270) (by decide) (fun h264 => ?_) (fun h264 => ?_)
      · refine lv_goto hx hb dL_law_270 (tgt := 1197) (by decide) ?_
        refine W.widen (k := cells + 1) (n := slots + 6) (by omega) (by omega) ?_
        exact kk w1.1 v1 w1.2 H locs ls hjj.2 hP hD hS (lv_sub hl [2, 3, 4, 5, 6] rfl)
      · exact absurd (hf0.trans (congrArg Int32.toInt64 hjj.1)) h264
  · omega
set_option maxHeartbeats 4000000 in
set_option maxRecDepth 100000 in
theorem lb_some {p : Program} {l : Launch} {e : Env} {R : Room} {s : State} {m : MethodId} {args : Array Value} {below : List Frame} {meth : Method} {c : Code} {H : Heap} {locs : List Loc} {cells slots : Nat} {Q : State → Prop} {ls : Array Slot} {b0 L : Nat} {xs : Nat → Int32} {D : va_G} {kI kL kZ : ClassId} {a b : Nat → Nat} {o : Nat} {u v : sU} {f : Nat → Int64} {ix : Nat} (h0 : lw_C p l R s m args c b0 L xs D kI kL kZ) (hi : ix + 4 ≤ L) (hL : L ≤ 2048) {N : Nat} {kd fa fb : Nat → Nat} {T : Nat} {so xa xb xc : Nat → Nat} {F : Nat → Prop} {M : Nat} {rs : Nat → Nat} (hI : s_inv u N kd fa fb T so xa xb xc F M rs) (hM : m_inv v N kd fa fb T so xa xb xc F M rs) (hbad : (∀ k, k < 6 → ¬ (xs (ix + 1)) = nI k) ∨ (∀ k, k < N → ¬ (xs (ix + 2)) = nI k)) (hP : va_P D vwA (lW a o b kI kL kZ u f v) H) (hD : va_D (fun q => s.heap.size ≤ q) (lW a o b kI kL kZ u f v)) (hS : va_S (fun q => s.heap.size ≤ q) s.heap H locs) (hl : lv_has ls 7 [(0, .ref b0), (1, .ref (a 0)), (2, .ref (b 0)), (3, .ref o), (4, .int (nI ix))]) (hcs : cells + 1 ≤ R.cells ∧ slots + 6 ≤ R.slots) (kk : ∀ (u v : sU) (f : Nat → Int64) (H : Heap) (locs : List Loc) (ls : Array Slot), lw_J u v → va_P D vwA (lW a o b kI kL kZ u f v) H → va_D (fun q => s.heap.size ≤ q) (lW a o b kI kL kZ u f v) → va_S (fun q => s.heap.size ≤ q) s.heap H locs → lv_has ls 7 [(0, .ref b0), (1, .ref (a 0)), (2, .ref (b 0)), (3, .ref o), (4, .int (nI ix))] → W p l e R s m args below meth c H locs (cells + 1) (slots + 6) Q (F0 m 1197 ls [])) : W p l e R s m args below meth c H locs cells slots Q (F0 m 205 ls []) := by
  obtain ⟨hx, hb, hml, hown, hA, hXs, hbl, hK, hXX, hl0, hRf, hRl⟩ := h0
  have hbA : ¬ s.heap.size ≤ b0 := by omega
  have hn := inv_N hI
  have hbS : (∀ k, k < 6 → ¬ (xs (ix + 1)) = nI k) ∨ (∀ k, k < u.2.2 0 → ¬ (xs (ix + 2)) = nI k) := by rw [hn.1]; exact hbad
  refine lv_aload_n hx hb dL_law_205 rfl (lv_at hl 1 rfl) ?_
  refine lv_aload_n hx hb dL_law_206 rfl (lv_at hl 0 rfl) ?_
  refine lv_iload hx hb dL_law_207 (lv_at hl 4 rfl) ?_
  refine lv_iconst (v := nI 1) hx hb dL_law_209 (by decide +kernel) ?_
  refine tq_iadd hx hb dL_law_210 ?_
  refine va_sld hx hb hXs hbl hbA hS (vp_in_nI (by omega) (by omega)) dL_law_211 ?_
  refine tq_i (congrArg xs (nI_clamp (by omega))) ?_
  refine lv_aload_n hx hb dL_law_212 rfl (lv_at hl 0 rfl) ?_
  refine lv_iload hx hb dL_law_213 (lv_at hl 4 rfl) ?_
  refine lv_iconst (v := nI 2) hx hb dL_law_215 (by decide +kernel) ?_
  refine tq_iadd hx hb dL_law_216 ?_
  refine va_sld hx hb hXs hbl hbA hS (vp_in_nI (by omega) (by omega)) dL_law_217 ?_
  refine tq_i (congrArg xs (nI_clamp (by omega))) ?_
  refine lv_aload_n hx hb dL_law_218 rfl (lv_at hl 3 rfl) ?_
  refine kl_B ⟨hx, hb, hml, hown, hA⟩ (b_some l hl0 D a o kI kL kZ u f (xs (ix + 1)) (xs (ix + 2)) (by omega) hbS) (kh_L_76 hA rfl rfl ⟨Nat.le_trans (Nat.le_of_ble_eq_true rfl) hRf, Nat.le_trans (Nat.le_of_ble_eq_true rfl) hRl⟩) hK (fun U hU hW => hXX.at hS (fun q h1 h2 => by omega) hU hW) hP hD hS rfl hl.1 (Nat.le_of_ble_eq_true rfl) ⟨by omega, by omega⟩ dL_law_219 rfl (fun r1 w1 H locs hw1 hP hD hS => ?_)
  refine tq_i hw1.1 ?_
  refine lv_istore (lv' := [(5, .int (nI 1)), (0, .ref b0), (1, .ref (a 0)), (2, .ref (b 0)), (3, .ref o), (4, .int (nI ix))]) hx hb dL_law_222 hl (by decide) rfl (fun ls hl => ?_)
  refine lv_aload_n hx hb dL_law_224 rfl (lv_at hl 3 rfl) ?_
  refine lv_aload_n hx hb dL_law_225 rfl (lv_at hl 1 rfl) ?_
  refine lv_iload hx hb dL_law_226 (lv_at hl 5 rfl) ?_
  refine lv_iconst (v := nI 1) hx hb dL_law_228 (by decide +kernel) ?_
  refine tq_iadd hx hb dL_law_229 ?_
  refine va_sld hx hb hXs hbl hbA hS (vp_in_nI (by omega) (by omega)) dL_law_230 ?_
  refine tq_i (congrArg xs (nI_clamp (by omega))) ?_
  refine lv_aload_n hx hb dL_law_231 rfl (lv_at hl 1 rfl) ?_
  refine lv_iload hx hb dL_law_232 (lv_at hl 5 rfl) ?_
  refine lv_iconst (v := nI 2) hx hb dL_law_234 (by decide +kernel) ?_
  refine tq_iadd hx hb dL_law_235 ?_
  refine va_sld hx hb hXs hbl hbA hS (vp_in_nI (by omega) (by omega)) dL_law_236 ?_
  refine tq_i (congrArg xs (nI_clamp (by omega))) ?_
  refine kl_M ⟨hx, hb, hml, hown, hA⟩ (n_some l D b kI kL kZ v N kd fa fb T so xa xb xc hM.1 (xs (ix + 1)) (xs (ix + 2)) hbad) (kw_L_78 hA rfl rfl ⟨Nat.le_trans (Nat.le_of_ble_eq_true rfl) hRf, Nat.le_trans (Nat.le_of_ble_eq_true rfl) hRl⟩) hK hP hD hS rfl hl.1 (Nat.le_of_ble_eq_true rfl) ⟨by omega, by omega⟩ dL_law_237 rfl (fun r2 v1 H locs hv1 hP hD hS => ?_)
  have hthr : v1.2.2 0 = 1 := by rw [hv1]; rfl
  have hjj : lw_J w1.1 v1 := by
    rw [hw1.2, hv1]
    exact ⟨_, _, _, _, _, _, _, _, _, _, _, _, hI, minv_thr hM⟩
  refine lv_istore (lv' := [(6, .int r2), (5, .int (nI 1)), (0, .ref b0), (1, .ref (a 0)), (2, .ref (b 0)), (3, .ref o), (4, .int (nI ix))]) hx hb dL_law_240 hl (by decide) rfl (fun ls hl => ?_)
  refine lv_aload_n hx hb dL_law_242 rfl (lv_at hl 4 rfl) ?_
  refine kl_T ⟨hx, hb, hml, hown, hA⟩ (m_thrown l D b kI kL kZ v1) (kw_L_73 hA rfl rfl ⟨Nat.le_trans (Nat.le_of_ble_eq_true rfl) hRf, Nat.le_trans (Nat.le_of_ble_eq_true rfl) hRl⟩) hK hP hS rfl hl.1 (Nat.le_of_ble_eq_true rfl) ⟨by omega, by omega⟩ dL_law_243 rfl (fun H locs hP hS => ?_)
  refine tq_i (congrArg nI hthr) ?_
  refine lv_iload hx hb dL_law_246 (lv_at hl 1 rfl) ?_
  refine tq_eq hx hb dL_law_248 (tgt := 253) (by decide) (by omega) (by omega) (fun h248 => ?_) (fun h248 => ?_)
  · refine lv_iload hx hb dL_law_253 (lv_at hl 1 rfl) ?_
    refine tq_zne hx hb dL_law_255 (tgt := 270) (by decide) (by omega) (fun h255 => ?_) (fun h255 => ?_)
    · refine lv_goto hx hb dL_law_270 (tgt := 1197) (by decide) ?_
      exact kk w1.1 v1 w1.2 H locs ls hjj hP hD hS (lv_sub hl [2, 3, 4, 5, 6] rfl)
    · omega
  · omega
theorem lc_2 {p : Program} {l : Launch} {e : Env} {R : Room} {s : State} {m : MethodId} {args : Array Value} {below : List Frame} {meth : Method} {c : Code} {H : Heap} {locs : List Loc} {cells slots : Nat} {Q : State → Prop} {ls : Array Slot} {b0 L : Nat} {xs : Nat → Int32} {D : va_G} {kI kL kZ : ClassId} {a b : Nat → Nat} {o : Nat} {u v : sU} {f : Nat → Int64} {ix : Nat} (h0 : lw_C p l R s m args c b0 L xs D kI kL kZ) (hi : ix + 4 ≤ L) (hL : L ≤ 2048) (hJ : lw_J u v) (hP : va_P D vwA (lW a o b kI kL kZ u f v) H) (hD : va_D (fun q => s.heap.size ≤ q) (lW a o b kI kL kZ u f v)) (hS : va_S (fun q => s.heap.size ≤ q) s.heap H locs) (hl : lv_has ls 7 [(0, .ref b0), (1, .ref (a 0)), (2, .ref (b 0)), (3, .ref o), (4, .int (nI ix))]) (hcs : cells + 1 ≤ R.cells ∧ slots + 6 ≤ R.slots) (kk : ∀ (u v : sU) (f : Nat → Int64) (H : Heap) (locs : List Loc) (ls : Array Slot), lw_J u v → va_P D vwA (lW a o b kI kL kZ u f v) H → va_D (fun q => s.heap.size ≤ q) (lW a o b kI kL kZ u f v) → va_S (fun q => s.heap.size ≤ q) s.heap H locs → lv_has ls 7 [(0, .ref b0), (1, .ref (a 0)), (2, .ref (b 0)), (3, .ref o), (4, .int (nI ix))] → W p l e R s m args below meth c H locs (cells + 1) (slots + 6) Q (F0 m 1197 ls [])) : W p l e R s m args below meth c H locs cells slots Q (F0 m 205 ls []) := by
  obtain ⟨N, kd, fa, fb, T, so, xa, xb, xc, F, M, rs, hI, hM⟩ := hJ
  by_cases c1 : ∃ k, k < 6 ∧ xs (ix + 1) = nI k
  · obtain ⟨i, e1, f1⟩ := c1
    by_cases c2 : ∃ k, k < N ∧ xs (ix + 2) = nI k
    · obtain ⟨d, e2, f2⟩ := c2
      exact lg_some h0 hi hL hI hM i d e1 e2 f1 f2 hP hD hS hl hcs kk
    · exact lb_some h0 hi hL hI hM (Or.inr ((fun k hk z => c2 ⟨k, hk, z⟩))) hP hD hS hl hcs kk
  · exact lb_some h0 hi hL hI hM (Or.inl (fun k hk z => c1 ⟨k, hk, z⟩)) hP hD hS hl hcs kk
set_option maxHeartbeats 4000000 in
set_option maxRecDepth 100000 in
theorem lg_below {p : Program} {l : Launch} {e : Env} {R : Room} {s : State} {m : MethodId} {args : Array Value} {below : List Frame} {meth : Method} {c : Code} {H : Heap} {locs : List Loc} {cells slots : Nat} {Q : State → Prop} {ls : Array Slot} {b0 L : Nat} {xs : Nat → Int32} {D : va_G} {kI kL kZ : ClassId} {a b : Nat → Nat} {o : Nat} {u v : sU} {f : Nat → Int64} {ix : Nat} (h0 : lw_C p l R s m args c b0 L xs D kI kL kZ) (hi : ix + 4 ≤ L) (hL : L ≤ 2048) {N : Nat} {kd fa fb : Nat → Nat} {T : Nat} {so xa xb xc : Nat → Nat} {F : Nat → Prop} {M : Nat} {rs : Nat → Nat} (hI : s_inv u N kd fa fb T so xa xb xc F M rs) (hM : m_inv v N kd fa fb T so xa xb xc F M rs) (d d2 : Nat) (hd : d < N) (hd2 : d2 < N) (hxs1 : xs (ix + 1) = nI d) (hxs2 : xs (ix + 2) = nI d2) (hP : va_P D vwA (lW a o b kI kL kZ u f v) H) (hD : va_D (fun q => s.heap.size ≤ q) (lW a o b kI kL kZ u f v)) (hS : va_S (fun q => s.heap.size ≤ q) s.heap H locs) (hl : lv_has ls 7 [(0, .ref b0), (1, .ref (a 0)), (2, .ref (b 0)), (3, .ref o), (4, .int (nI ix))]) (hcs : cells + 1 ≤ R.cells ∧ slots + 6 ≤ R.slots) (kk : ∀ (u v : sU) (f : Nat → Int64) (H : Heap) (locs : List Loc) (ls : Array Slot), lw_J u v → va_P D vwA (lW a o b kI kL kZ u f v) H → va_D (fun q => s.heap.size ≤ q) (lW a o b kI kL kZ u f v) → va_S (fun q => s.heap.size ≤ q) s.heap H locs → lv_has ls 7 [(0, .ref b0), (1, .ref (a 0)), (2, .ref (b 0)), (3, .ref o), (4, .int (nI ix))] → W p l e R s m args below meth c H locs (cells + 1) (slots + 6) Q (F0 m 1197 ls [])) : W p l e R s m args below meth c H locs cells slots Q (F0 m 273 ls []) := by
  obtain ⟨hx, hb, hml, hown, hA, hXs, hbl, hK, hXX, hl0, hRf, hRl⟩ := h0
  have hbA : ¬ s.heap.size ≤ b0 := by omega
  refine lv_aload_n hx hb dL_law_273 rfl (lv_at hl 1 rfl) ?_
  refine lv_aload_n hx hb dL_law_274 rfl (lv_at hl 0 rfl) ?_
  refine lv_iload hx hb dL_law_275 (lv_at hl 4 rfl) ?_
  refine lv_iconst (v := nI 1) hx hb dL_law_277 (by decide +kernel) ?_
  refine tq_iadd hx hb dL_law_278 ?_
  refine va_sld hx hb hXs hbl hbA hS (vp_in_nI (by omega) (by omega)) dL_law_279 ?_
  refine tq_i (congrArg xs (nI_clamp (by omega))) ?_
  refine tq_i hxs1 ?_
  refine lv_aload_n hx hb dL_law_280 rfl (lv_at hl 0 rfl) ?_
  refine lv_iload hx hb dL_law_281 (lv_at hl 4 rfl) ?_
  refine lv_iconst (v := nI 2) hx hb dL_law_283 (by decide +kernel) ?_
  refine tq_iadd hx hb dL_law_284 ?_
  refine va_sld hx hb hXs hbl hbA hS (vp_in_nI (by omega) (by omega)) dL_law_285 ?_
  refine tq_i (congrArg xs (nI_clamp (by omega))) ?_
  refine tq_i hxs2 ?_
  refine lv_aload_n hx hb dL_law_286 rfl (lv_at hl 3 rfl) ?_
  refine kl_H ⟨hx, hb, hml, hown, hA⟩ (g_below l D a o kI kL kZ u f N kd fa fb T so xa xb xc F M rs hI d d2 hd hd2) (kh_L_79 hA rfl rfl ⟨Nat.le_trans (Nat.le_of_ble_eq_true rfl) hRf, Nat.le_trans (Nat.le_of_ble_eq_true rfl) hRl⟩) hK hP hD hS rfl hl.1 (Nat.le_of_ble_eq_true rfl) ⟨by omega, by omega⟩ dL_law_287 rfl (fun r1 w1 H locs hw1 hP hD hS => ?_)
  obtain ⟨r0, hf0, hq⟩ := hw1.2
  refine tq_i hw1.1 ?_
  refine lv_istore (lv' := [(5, .int (nI 0)), (0, .ref b0), (1, .ref (a 0)), (2, .ref (b 0)), (3, .ref o), (4, .int (nI ix))]) hx hb dL_law_290 hl (by decide) rfl (fun ls hl => ?_)
  refine lv_aload_n hx hb dL_law_292 rfl (lv_at hl 3 rfl) ?_
  refine lv_aload_n hx hb dL_law_293 rfl (lv_at hl 1 rfl) ?_
  refine lv_iload hx hb dL_law_294 (lv_at hl 5 rfl) ?_
  refine lv_iconst (v := nI 1) hx hb dL_law_296 (by decide +kernel) ?_
  refine tq_iadd hx hb dL_law_297 ?_
  refine va_sld hx hb hXs hbl hbA hS (vp_in_nI (by omega) (by omega)) dL_law_298 ?_
  refine tq_i (congrArg xs (nI_clamp (by omega))) ?_
  refine tq_i hxs1 ?_
  refine lv_aload_n hx hb dL_law_299 rfl (lv_at hl 1 rfl) ?_
  refine lv_iload hx hb dL_law_300 (lv_at hl 5 rfl) ?_
  refine lv_iconst (v := nI 2) hx hb dL_law_302 (by decide +kernel) ?_
  refine tq_iadd hx hb dL_law_303 ?_
  refine va_sld hx hb hXs hbl hbA hS (vp_in_nI (by omega) (by omega)) dL_law_304 ?_
  refine tq_i (congrArg xs (nI_clamp (by omega))) ?_
  refine tq_i hxs2 ?_
  refine kl_M ⟨hx, hb, hml, hown, hA⟩ (w_below l D b kI kL kZ v N kd fa fb T so xa xb xc F M rs hM d d2 hd hd2) (kw_L_81 hA rfl rfl ⟨Nat.le_trans (Nat.le_of_ble_eq_true rfl) hRf, Nat.le_trans (Nat.le_of_ble_eq_true rfl) hRl⟩) hK hP hD hS rfl hl.1 (Nat.le_of_ble_eq_true rfl) ⟨by omega, by omega⟩ dL_law_305 rfl (fun r2 v1 H locs hv1 hP hD hS => ?_)
  have hthr : v1.2.2 0 = 0 := hv1.2
  have hjj : r0 = r2 ∧ lw_J w1.1 v1 := j_tl hq hv1.1
  refine lv_istore (lv' := [(6, .int r2), (5, .int (nI 0)), (0, .ref b0), (1, .ref (a 0)), (2, .ref (b 0)), (3, .ref o), (4, .int (nI ix))]) hx hb dL_law_308 hl (by decide) rfl (fun ls hl => ?_)
  refine lv_aload_n hx hb dL_law_310 rfl (lv_at hl 4 rfl) ?_
  refine kl_T ⟨hx, hb, hml, hown, hA⟩ (m_thrown l D b kI kL kZ v1) (kw_L_73 hA rfl rfl ⟨Nat.le_trans (Nat.le_of_ble_eq_true rfl) hRf, Nat.le_trans (Nat.le_of_ble_eq_true rfl) hRl⟩) hK hP hS rfl hl.1 (Nat.le_of_ble_eq_true rfl) ⟨by omega, by omega⟩ dL_law_311 rfl (fun H locs hP hS => ?_)
  refine tq_i (congrArg nI hthr) ?_
  refine lv_iload hx hb dL_law_314 (lv_at hl 1 rfl) ?_
  refine tq_eq hx hb dL_law_316 (tgt := 321) (by decide) (by omega) (by omega) (fun h316 => ?_) (fun h316 => ?_)
  · refine lv_iload hx hb dL_law_321 (lv_at hl 1 rfl) ?_
    refine tq_zne hx hb dL_law_323 (tgt := 338) (by decide) (by omega) (fun h323 => ?_) (fun h323 => ?_)
    · omega
    · refine lv_aload_n hx hb dL_law_326 rfl (lv_at hl 5 rfl) ?_
      refine lv_iconst (v := nI 0) hx hb dL_law_327 (by decide +kernel) ?_
      refine tq_lald hx hb hK hP 32 1 rfl rfl (by omega) (by omega) dL_law_328 ?_
      refine lv_iload hx hb dL_law_329 (lv_at hl 0 rfl) ?_
      refine lv_i2l hx hb dL_law_331 rfl ?_
      refine tq_leq hx hb dL_law_332 dL_law_333 (tgt := 338) (by decide) (fun h332 => ?_) (fun h332 => ?_)
      · refine lv_goto hx hb dL_law_338 (tgt := 1197) (by decide) ?_
        refine W.widen (k := cells + 1) (n := slots + 6) (by omega) (by omega) ?_
        exact kk w1.1 v1 w1.2 H locs ls hjj.2 hP hD hS (lv_sub hl [2, 3, 4, 5, 6] rfl)
      · exact absurd (hf0.trans (congrArg Int32.toInt64 hjj.1)) h332
  · omega
set_option maxHeartbeats 4000000 in
set_option maxRecDepth 100000 in
theorem lb_below {p : Program} {l : Launch} {e : Env} {R : Room} {s : State} {m : MethodId} {args : Array Value} {below : List Frame} {meth : Method} {c : Code} {H : Heap} {locs : List Loc} {cells slots : Nat} {Q : State → Prop} {ls : Array Slot} {b0 L : Nat} {xs : Nat → Int32} {D : va_G} {kI kL kZ : ClassId} {a b : Nat → Nat} {o : Nat} {u v : sU} {f : Nat → Int64} {ix : Nat} (h0 : lw_C p l R s m args c b0 L xs D kI kL kZ) (hi : ix + 4 ≤ L) (hL : L ≤ 2048) {N : Nat} {kd fa fb : Nat → Nat} {T : Nat} {so xa xb xc : Nat → Nat} {F : Nat → Prop} {M : Nat} {rs : Nat → Nat} (hI : s_inv u N kd fa fb T so xa xb xc F M rs) (hM : m_inv v N kd fa fb T so xa xb xc F M rs) (hbad : (∀ k, k < N → ¬ (xs (ix + 1)) = nI k) ∨ (∀ k, k < N → ¬ (xs (ix + 2)) = nI k)) (hP : va_P D vwA (lW a o b kI kL kZ u f v) H) (hD : va_D (fun q => s.heap.size ≤ q) (lW a o b kI kL kZ u f v)) (hS : va_S (fun q => s.heap.size ≤ q) s.heap H locs) (hl : lv_has ls 7 [(0, .ref b0), (1, .ref (a 0)), (2, .ref (b 0)), (3, .ref o), (4, .int (nI ix))]) (hcs : cells + 1 ≤ R.cells ∧ slots + 6 ≤ R.slots) (kk : ∀ (u v : sU) (f : Nat → Int64) (H : Heap) (locs : List Loc) (ls : Array Slot), lw_J u v → va_P D vwA (lW a o b kI kL kZ u f v) H → va_D (fun q => s.heap.size ≤ q) (lW a o b kI kL kZ u f v) → va_S (fun q => s.heap.size ≤ q) s.heap H locs → lv_has ls 7 [(0, .ref b0), (1, .ref (a 0)), (2, .ref (b 0)), (3, .ref o), (4, .int (nI ix))] → W p l e R s m args below meth c H locs (cells + 1) (slots + 6) Q (F0 m 1197 ls [])) : W p l e R s m args below meth c H locs cells slots Q (F0 m 273 ls []) := by
  obtain ⟨hx, hb, hml, hown, hA, hXs, hbl, hK, hXX, hl0, hRf, hRl⟩ := h0
  have hbA : ¬ s.heap.size ≤ b0 := by omega
  have hn := inv_N hI
  have hbS : (∀ k, k < u.2.2 0 → ¬ (xs (ix + 1)) = nI k) ∨ (∀ k, k < u.2.2 0 → ¬ (xs (ix + 2)) = nI k) := by rw [hn.1]; exact hbad
  refine lv_aload_n hx hb dL_law_273 rfl (lv_at hl 1 rfl) ?_
  refine lv_aload_n hx hb dL_law_274 rfl (lv_at hl 0 rfl) ?_
  refine lv_iload hx hb dL_law_275 (lv_at hl 4 rfl) ?_
  refine lv_iconst (v := nI 1) hx hb dL_law_277 (by decide +kernel) ?_
  refine tq_iadd hx hb dL_law_278 ?_
  refine va_sld hx hb hXs hbl hbA hS (vp_in_nI (by omega) (by omega)) dL_law_279 ?_
  refine tq_i (congrArg xs (nI_clamp (by omega))) ?_
  refine lv_aload_n hx hb dL_law_280 rfl (lv_at hl 0 rfl) ?_
  refine lv_iload hx hb dL_law_281 (lv_at hl 4 rfl) ?_
  refine lv_iconst (v := nI 2) hx hb dL_law_283 (by decide +kernel) ?_
  refine tq_iadd hx hb dL_law_284 ?_
  refine va_sld hx hb hXs hbl hbA hS (vp_in_nI (by omega) (by omega)) dL_law_285 ?_
  refine tq_i (congrArg xs (nI_clamp (by omega))) ?_
  refine lv_aload_n hx hb dL_law_286 rfl (lv_at hl 3 rfl) ?_
  refine kl_B ⟨hx, hb, hml, hown, hA⟩ (b_below l hl0 D a o kI kL kZ u f (xs (ix + 1)) (xs (ix + 2)) (by omega) hbS) (kh_L_79 hA rfl rfl ⟨Nat.le_trans (Nat.le_of_ble_eq_true rfl) hRf, Nat.le_trans (Nat.le_of_ble_eq_true rfl) hRl⟩) hK (fun U hU hW => hXX.at hS (fun q h1 h2 => by omega) hU hW) hP hD hS rfl hl.1 (Nat.le_of_ble_eq_true rfl) ⟨by omega, by omega⟩ dL_law_287 rfl (fun r1 w1 H locs hw1 hP hD hS => ?_)
  refine tq_i hw1.1 ?_
  refine lv_istore (lv' := [(5, .int (nI 1)), (0, .ref b0), (1, .ref (a 0)), (2, .ref (b 0)), (3, .ref o), (4, .int (nI ix))]) hx hb dL_law_290 hl (by decide) rfl (fun ls hl => ?_)
  refine lv_aload_n hx hb dL_law_292 rfl (lv_at hl 3 rfl) ?_
  refine lv_aload_n hx hb dL_law_293 rfl (lv_at hl 1 rfl) ?_
  refine lv_iload hx hb dL_law_294 (lv_at hl 5 rfl) ?_
  refine lv_iconst (v := nI 1) hx hb dL_law_296 (by decide +kernel) ?_
  refine tq_iadd hx hb dL_law_297 ?_
  refine va_sld hx hb hXs hbl hbA hS (vp_in_nI (by omega) (by omega)) dL_law_298 ?_
  refine tq_i (congrArg xs (nI_clamp (by omega))) ?_
  refine lv_aload_n hx hb dL_law_299 rfl (lv_at hl 1 rfl) ?_
  refine lv_iload hx hb dL_law_300 (lv_at hl 5 rfl) ?_
  refine lv_iconst (v := nI 2) hx hb dL_law_302 (by decide +kernel) ?_
  refine tq_iadd hx hb dL_law_303 ?_
  refine va_sld hx hb hXs hbl hbA hS (vp_in_nI (by omega) (by omega)) dL_law_304 ?_
  refine tq_i (congrArg xs (nI_clamp (by omega))) ?_
  refine kl_M ⟨hx, hb, hml, hown, hA⟩ (n_below l D b kI kL kZ v N kd fa fb T so xa xb xc hM.1 (xs (ix + 1)) (xs (ix + 2)) hbad) (kw_L_81 hA rfl rfl ⟨Nat.le_trans (Nat.le_of_ble_eq_true rfl) hRf, Nat.le_trans (Nat.le_of_ble_eq_true rfl) hRl⟩) hK hP hD hS rfl hl.1 (Nat.le_of_ble_eq_true rfl) ⟨by omega, by omega⟩ dL_law_305 rfl (fun r2 v1 H locs hv1 hP hD hS => ?_)
  have hthr : v1.2.2 0 = 1 := by rw [hv1]; rfl
  have hjj : lw_J w1.1 v1 := by
    rw [hw1.2, hv1]
    exact ⟨_, _, _, _, _, _, _, _, _, _, _, _, hI, minv_thr hM⟩
  refine lv_istore (lv' := [(6, .int r2), (5, .int (nI 1)), (0, .ref b0), (1, .ref (a 0)), (2, .ref (b 0)), (3, .ref o), (4, .int (nI ix))]) hx hb dL_law_308 hl (by decide) rfl (fun ls hl => ?_)
  refine lv_aload_n hx hb dL_law_310 rfl (lv_at hl 4 rfl) ?_
  refine kl_T ⟨hx, hb, hml, hown, hA⟩ (m_thrown l D b kI kL kZ v1) (kw_L_73 hA rfl rfl ⟨Nat.le_trans (Nat.le_of_ble_eq_true rfl) hRf, Nat.le_trans (Nat.le_of_ble_eq_true rfl) hRl⟩) hK hP hS rfl hl.1 (Nat.le_of_ble_eq_true rfl) ⟨by omega, by omega⟩ dL_law_311 rfl (fun H locs hP hS => ?_)
  refine tq_i (congrArg nI hthr) ?_
  refine lv_iload hx hb dL_law_314 (lv_at hl 1 rfl) ?_
  refine tq_eq hx hb dL_law_316 (tgt := 321) (by decide) (by omega) (by omega) (fun h316 => ?_) (fun h316 => ?_)
  · refine lv_iload hx hb dL_law_321 (lv_at hl 1 rfl) ?_
    refine tq_zne hx hb dL_law_323 (tgt := 338) (by decide) (by omega) (fun h323 => ?_) (fun h323 => ?_)
    · refine lv_goto hx hb dL_law_338 (tgt := 1197) (by decide) ?_
      exact kk w1.1 v1 w1.2 H locs ls hjj hP hD hS (lv_sub hl [2, 3, 4, 5, 6] rfl)
    · omega
  · omega
theorem lc_3 {p : Program} {l : Launch} {e : Env} {R : Room} {s : State} {m : MethodId} {args : Array Value} {below : List Frame} {meth : Method} {c : Code} {H : Heap} {locs : List Loc} {cells slots : Nat} {Q : State → Prop} {ls : Array Slot} {b0 L : Nat} {xs : Nat → Int32} {D : va_G} {kI kL kZ : ClassId} {a b : Nat → Nat} {o : Nat} {u v : sU} {f : Nat → Int64} {ix : Nat} (h0 : lw_C p l R s m args c b0 L xs D kI kL kZ) (hi : ix + 4 ≤ L) (hL : L ≤ 2048) (hJ : lw_J u v) (hP : va_P D vwA (lW a o b kI kL kZ u f v) H) (hD : va_D (fun q => s.heap.size ≤ q) (lW a o b kI kL kZ u f v)) (hS : va_S (fun q => s.heap.size ≤ q) s.heap H locs) (hl : lv_has ls 7 [(0, .ref b0), (1, .ref (a 0)), (2, .ref (b 0)), (3, .ref o), (4, .int (nI ix))]) (hcs : cells + 1 ≤ R.cells ∧ slots + 6 ≤ R.slots) (kk : ∀ (u v : sU) (f : Nat → Int64) (H : Heap) (locs : List Loc) (ls : Array Slot), lw_J u v → va_P D vwA (lW a o b kI kL kZ u f v) H → va_D (fun q => s.heap.size ≤ q) (lW a o b kI kL kZ u f v) → va_S (fun q => s.heap.size ≤ q) s.heap H locs → lv_has ls 7 [(0, .ref b0), (1, .ref (a 0)), (2, .ref (b 0)), (3, .ref o), (4, .int (nI ix))] → W p l e R s m args below meth c H locs (cells + 1) (slots + 6) Q (F0 m 1197 ls [])) : W p l e R s m args below meth c H locs cells slots Q (F0 m 273 ls []) := by
  obtain ⟨N, kd, fa, fb, T, so, xa, xb, xc, F, M, rs, hI, hM⟩ := hJ
  by_cases c1 : ∃ k, k < N ∧ xs (ix + 1) = nI k
  · obtain ⟨d, e1, f1⟩ := c1
    by_cases c2 : ∃ k, k < N ∧ xs (ix + 2) = nI k
    · obtain ⟨d2, e2, f2⟩ := c2
      exact lg_below h0 hi hL hI hM d d2 e1 e2 f1 f2 hP hD hS hl hcs kk
    · exact lb_below h0 hi hL hI hM (Or.inr ((fun k hk z => c2 ⟨k, hk, z⟩))) hP hD hS hl hcs kk
  · exact lb_below h0 hi hL hI hM (Or.inl (fun k hk z => c1 ⟨k, hk, z⟩)) hP hD hS hl hcs kk
set_option maxHeartbeats 4000000 in
set_option maxRecDepth 100000 in
theorem lg_equal {p : Program} {l : Launch} {e : Env} {R : Room} {s : State} {m : MethodId} {args : Array Value} {below : List Frame} {meth : Method} {c : Code} {H : Heap} {locs : List Loc} {cells slots : Nat} {Q : State → Prop} {ls : Array Slot} {b0 L : Nat} {xs : Nat → Int32} {D : va_G} {kI kL kZ : ClassId} {a b : Nat → Nat} {o : Nat} {u v : sU} {f : Nat → Int64} {ix : Nat} (h0 : lw_C p l R s m args c b0 L xs D kI kL kZ) (hi : ix + 4 ≤ L) (hL : L ≤ 2048) {N : Nat} {kd fa fb : Nat → Nat} {T : Nat} {so xa xb xc : Nat → Nat} {F : Nat → Prop} {M : Nat} {rs : Nat → Nat} (hI : s_inv u N kd fa fb T so xa xb xc F M rs) (hM : m_inv v N kd fa fb T so xa xb xc F M rs) (d d2 : Nat) (hd : d < N) (hd2 : d2 < N) (hxs1 : xs (ix + 1) = nI d) (hxs2 : xs (ix + 2) = nI d2) (hP : va_P D vwA (lW a o b kI kL kZ u f v) H) (hD : va_D (fun q => s.heap.size ≤ q) (lW a o b kI kL kZ u f v)) (hS : va_S (fun q => s.heap.size ≤ q) s.heap H locs) (hl : lv_has ls 7 [(0, .ref b0), (1, .ref (a 0)), (2, .ref (b 0)), (3, .ref o), (4, .int (nI ix))]) (hcs : cells + 1 ≤ R.cells ∧ slots + 6 ≤ R.slots) (kk : ∀ (u v : sU) (f : Nat → Int64) (H : Heap) (locs : List Loc) (ls : Array Slot), lw_J u v → va_P D vwA (lW a o b kI kL kZ u f v) H → va_D (fun q => s.heap.size ≤ q) (lW a o b kI kL kZ u f v) → va_S (fun q => s.heap.size ≤ q) s.heap H locs → lv_has ls 7 [(0, .ref b0), (1, .ref (a 0)), (2, .ref (b 0)), (3, .ref o), (4, .int (nI ix))] → W p l e R s m args below meth c H locs (cells + 1) (slots + 6) Q (F0 m 1197 ls [])) : W p l e R s m args below meth c H locs cells slots Q (F0 m 341 ls []) := by
  obtain ⟨hx, hb, hml, hown, hA, hXs, hbl, hK, hXX, hl0, hRf, hRl⟩ := h0
  have hbA : ¬ s.heap.size ≤ b0 := by omega
  refine lv_aload_n hx hb dL_law_341 rfl (lv_at hl 1 rfl) ?_
  refine lv_aload_n hx hb dL_law_342 rfl (lv_at hl 0 rfl) ?_
  refine lv_iload hx hb dL_law_343 (lv_at hl 4 rfl) ?_
  refine lv_iconst (v := nI 1) hx hb dL_law_345 (by decide +kernel) ?_
  refine tq_iadd hx hb dL_law_346 ?_
  refine va_sld hx hb hXs hbl hbA hS (vp_in_nI (by omega) (by omega)) dL_law_347 ?_
  refine tq_i (congrArg xs (nI_clamp (by omega))) ?_
  refine tq_i hxs1 ?_
  refine lv_aload_n hx hb dL_law_348 rfl (lv_at hl 0 rfl) ?_
  refine lv_iload hx hb dL_law_349 (lv_at hl 4 rfl) ?_
  refine lv_iconst (v := nI 2) hx hb dL_law_351 (by decide +kernel) ?_
  refine tq_iadd hx hb dL_law_352 ?_
  refine va_sld hx hb hXs hbl hbA hS (vp_in_nI (by omega) (by omega)) dL_law_353 ?_
  refine tq_i (congrArg xs (nI_clamp (by omega))) ?_
  refine tq_i hxs2 ?_
  refine lv_aload_n hx hb dL_law_354 rfl (lv_at hl 3 rfl) ?_
  refine kl_H ⟨hx, hb, hml, hown, hA⟩ (g_equal l D a o kI kL kZ u f N kd fa fb T so xa xb xc F M rs hI d d2 hd hd2) (kh_L_82 hA rfl rfl ⟨Nat.le_trans (Nat.le_of_ble_eq_true rfl) hRf, Nat.le_trans (Nat.le_of_ble_eq_true rfl) hRl⟩) hK hP hD hS rfl hl.1 (Nat.le_of_ble_eq_true rfl) ⟨by omega, by omega⟩ dL_law_355 rfl (fun r1 w1 H locs hw1 hP hD hS => ?_)
  obtain ⟨r0, hf0, hq⟩ := hw1.2
  refine tq_i hw1.1 ?_
  refine lv_istore (lv' := [(5, .int (nI 0)), (0, .ref b0), (1, .ref (a 0)), (2, .ref (b 0)), (3, .ref o), (4, .int (nI ix))]) hx hb dL_law_358 hl (by decide) rfl (fun ls hl => ?_)
  refine lv_aload_n hx hb dL_law_360 rfl (lv_at hl 3 rfl) ?_
  refine lv_aload_n hx hb dL_law_361 rfl (lv_at hl 1 rfl) ?_
  refine lv_iload hx hb dL_law_362 (lv_at hl 5 rfl) ?_
  refine lv_iconst (v := nI 1) hx hb dL_law_364 (by decide +kernel) ?_
  refine tq_iadd hx hb dL_law_365 ?_
  refine va_sld hx hb hXs hbl hbA hS (vp_in_nI (by omega) (by omega)) dL_law_366 ?_
  refine tq_i (congrArg xs (nI_clamp (by omega))) ?_
  refine tq_i hxs1 ?_
  refine lv_aload_n hx hb dL_law_367 rfl (lv_at hl 1 rfl) ?_
  refine lv_iload hx hb dL_law_368 (lv_at hl 5 rfl) ?_
  refine lv_iconst (v := nI 2) hx hb dL_law_370 (by decide +kernel) ?_
  refine tq_iadd hx hb dL_law_371 ?_
  refine va_sld hx hb hXs hbl hbA hS (vp_in_nI (by omega) (by omega)) dL_law_372 ?_
  refine tq_i (congrArg xs (nI_clamp (by omega))) ?_
  refine tq_i hxs2 ?_
  refine kl_M ⟨hx, hb, hml, hown, hA⟩ (w_equal l D b kI kL kZ v N kd fa fb T so xa xb xc F M rs hM d d2 hd hd2) (kw_L_84 hA rfl rfl ⟨Nat.le_trans (Nat.le_of_ble_eq_true rfl) hRf, Nat.le_trans (Nat.le_of_ble_eq_true rfl) hRl⟩) hK hP hD hS rfl hl.1 (Nat.le_of_ble_eq_true rfl) ⟨by omega, by omega⟩ dL_law_373 rfl (fun r2 v1 H locs hv1 hP hD hS => ?_)
  have hthr : v1.2.2 0 = 0 := hv1.2
  have hjj : r0 = r2 ∧ lw_J w1.1 v1 := j_tl hq hv1.1
  refine lv_istore (lv' := [(6, .int r2), (5, .int (nI 0)), (0, .ref b0), (1, .ref (a 0)), (2, .ref (b 0)), (3, .ref o), (4, .int (nI ix))]) hx hb dL_law_376 hl (by decide) rfl (fun ls hl => ?_)
  refine lv_aload_n hx hb dL_law_378 rfl (lv_at hl 4 rfl) ?_
  refine kl_T ⟨hx, hb, hml, hown, hA⟩ (m_thrown l D b kI kL kZ v1) (kw_L_73 hA rfl rfl ⟨Nat.le_trans (Nat.le_of_ble_eq_true rfl) hRf, Nat.le_trans (Nat.le_of_ble_eq_true rfl) hRl⟩) hK hP hS rfl hl.1 (Nat.le_of_ble_eq_true rfl) ⟨by omega, by omega⟩ dL_law_379 rfl (fun H locs hP hS => ?_)
  refine tq_i (congrArg nI hthr) ?_
  refine lv_iload hx hb dL_law_382 (lv_at hl 1 rfl) ?_
  refine tq_eq hx hb dL_law_384 (tgt := 389) (by decide) (by omega) (by omega) (fun h384 => ?_) (fun h384 => ?_)
  · refine lv_iload hx hb dL_law_389 (lv_at hl 1 rfl) ?_
    refine tq_zne hx hb dL_law_391 (tgt := 406) (by decide) (by omega) (fun h391 => ?_) (fun h391 => ?_)
    · omega
    · refine lv_aload_n hx hb dL_law_394 rfl (lv_at hl 5 rfl) ?_
      refine lv_iconst (v := nI 0) hx hb dL_law_395 (by decide +kernel) ?_
      refine tq_lald hx hb hK hP 32 1 rfl rfl (by omega) (by omega) dL_law_396 ?_
      refine lv_iload hx hb dL_law_397 (lv_at hl 0 rfl) ?_
      refine lv_i2l hx hb dL_law_399 rfl ?_
      refine tq_leq hx hb dL_law_400 dL_law_401 (tgt := 406) (by decide) (fun h400 => ?_) (fun h400 => ?_)
      · refine lv_goto hx hb dL_law_406 (tgt := 1197) (by decide) ?_
        refine W.widen (k := cells + 1) (n := slots + 6) (by omega) (by omega) ?_
        exact kk w1.1 v1 w1.2 H locs ls hjj.2 hP hD hS (lv_sub hl [2, 3, 4, 5, 6] rfl)
      · exact absurd (hf0.trans (congrArg Int32.toInt64 hjj.1)) h400
  · omega
set_option maxHeartbeats 4000000 in
set_option maxRecDepth 100000 in
theorem lb_equal {p : Program} {l : Launch} {e : Env} {R : Room} {s : State} {m : MethodId} {args : Array Value} {below : List Frame} {meth : Method} {c : Code} {H : Heap} {locs : List Loc} {cells slots : Nat} {Q : State → Prop} {ls : Array Slot} {b0 L : Nat} {xs : Nat → Int32} {D : va_G} {kI kL kZ : ClassId} {a b : Nat → Nat} {o : Nat} {u v : sU} {f : Nat → Int64} {ix : Nat} (h0 : lw_C p l R s m args c b0 L xs D kI kL kZ) (hi : ix + 4 ≤ L) (hL : L ≤ 2048) {N : Nat} {kd fa fb : Nat → Nat} {T : Nat} {so xa xb xc : Nat → Nat} {F : Nat → Prop} {M : Nat} {rs : Nat → Nat} (hI : s_inv u N kd fa fb T so xa xb xc F M rs) (hM : m_inv v N kd fa fb T so xa xb xc F M rs) (hbad : (∀ k, k < N → ¬ (xs (ix + 1)) = nI k) ∨ (∀ k, k < N → ¬ (xs (ix + 2)) = nI k)) (hP : va_P D vwA (lW a o b kI kL kZ u f v) H) (hD : va_D (fun q => s.heap.size ≤ q) (lW a o b kI kL kZ u f v)) (hS : va_S (fun q => s.heap.size ≤ q) s.heap H locs) (hl : lv_has ls 7 [(0, .ref b0), (1, .ref (a 0)), (2, .ref (b 0)), (3, .ref o), (4, .int (nI ix))]) (hcs : cells + 1 ≤ R.cells ∧ slots + 6 ≤ R.slots) (kk : ∀ (u v : sU) (f : Nat → Int64) (H : Heap) (locs : List Loc) (ls : Array Slot), lw_J u v → va_P D vwA (lW a o b kI kL kZ u f v) H → va_D (fun q => s.heap.size ≤ q) (lW a o b kI kL kZ u f v) → va_S (fun q => s.heap.size ≤ q) s.heap H locs → lv_has ls 7 [(0, .ref b0), (1, .ref (a 0)), (2, .ref (b 0)), (3, .ref o), (4, .int (nI ix))] → W p l e R s m args below meth c H locs (cells + 1) (slots + 6) Q (F0 m 1197 ls [])) : W p l e R s m args below meth c H locs cells slots Q (F0 m 341 ls []) := by
  obtain ⟨hx, hb, hml, hown, hA, hXs, hbl, hK, hXX, hl0, hRf, hRl⟩ := h0
  have hbA : ¬ s.heap.size ≤ b0 := by omega
  have hn := inv_N hI
  have hbS : (∀ k, k < u.2.2 0 → ¬ (xs (ix + 1)) = nI k) ∨ (∀ k, k < u.2.2 0 → ¬ (xs (ix + 2)) = nI k) := by rw [hn.1]; exact hbad
  refine lv_aload_n hx hb dL_law_341 rfl (lv_at hl 1 rfl) ?_
  refine lv_aload_n hx hb dL_law_342 rfl (lv_at hl 0 rfl) ?_
  refine lv_iload hx hb dL_law_343 (lv_at hl 4 rfl) ?_
  refine lv_iconst (v := nI 1) hx hb dL_law_345 (by decide +kernel) ?_
  refine tq_iadd hx hb dL_law_346 ?_
  refine va_sld hx hb hXs hbl hbA hS (vp_in_nI (by omega) (by omega)) dL_law_347 ?_
  refine tq_i (congrArg xs (nI_clamp (by omega))) ?_
  refine lv_aload_n hx hb dL_law_348 rfl (lv_at hl 0 rfl) ?_
  refine lv_iload hx hb dL_law_349 (lv_at hl 4 rfl) ?_
  refine lv_iconst (v := nI 2) hx hb dL_law_351 (by decide +kernel) ?_
  refine tq_iadd hx hb dL_law_352 ?_
  refine va_sld hx hb hXs hbl hbA hS (vp_in_nI (by omega) (by omega)) dL_law_353 ?_
  refine tq_i (congrArg xs (nI_clamp (by omega))) ?_
  refine lv_aload_n hx hb dL_law_354 rfl (lv_at hl 3 rfl) ?_
  refine kl_B ⟨hx, hb, hml, hown, hA⟩ (b_equal l hl0 D a o kI kL kZ u f (xs (ix + 1)) (xs (ix + 2)) (by omega) hbS) (kh_L_82 hA rfl rfl ⟨Nat.le_trans (Nat.le_of_ble_eq_true rfl) hRf, Nat.le_trans (Nat.le_of_ble_eq_true rfl) hRl⟩) hK (fun U hU hW => hXX.at hS (fun q h1 h2 => by omega) hU hW) hP hD hS rfl hl.1 (Nat.le_of_ble_eq_true rfl) ⟨by omega, by omega⟩ dL_law_355 rfl (fun r1 w1 H locs hw1 hP hD hS => ?_)
  refine tq_i hw1.1 ?_
  refine lv_istore (lv' := [(5, .int (nI 1)), (0, .ref b0), (1, .ref (a 0)), (2, .ref (b 0)), (3, .ref o), (4, .int (nI ix))]) hx hb dL_law_358 hl (by decide) rfl (fun ls hl => ?_)
  refine lv_aload_n hx hb dL_law_360 rfl (lv_at hl 3 rfl) ?_
  refine lv_aload_n hx hb dL_law_361 rfl (lv_at hl 1 rfl) ?_
  refine lv_iload hx hb dL_law_362 (lv_at hl 5 rfl) ?_
  refine lv_iconst (v := nI 1) hx hb dL_law_364 (by decide +kernel) ?_
  refine tq_iadd hx hb dL_law_365 ?_
  refine va_sld hx hb hXs hbl hbA hS (vp_in_nI (by omega) (by omega)) dL_law_366 ?_
  refine tq_i (congrArg xs (nI_clamp (by omega))) ?_
  refine lv_aload_n hx hb dL_law_367 rfl (lv_at hl 1 rfl) ?_
  refine lv_iload hx hb dL_law_368 (lv_at hl 5 rfl) ?_
  refine lv_iconst (v := nI 2) hx hb dL_law_370 (by decide +kernel) ?_
  refine tq_iadd hx hb dL_law_371 ?_
  refine va_sld hx hb hXs hbl hbA hS (vp_in_nI (by omega) (by omega)) dL_law_372 ?_
  refine tq_i (congrArg xs (nI_clamp (by omega))) ?_
  refine kl_M ⟨hx, hb, hml, hown, hA⟩ (n_equal l D b kI kL kZ v N kd fa fb T so xa xb xc hM.1 (xs (ix + 1)) (xs (ix + 2)) hbad) (kw_L_84 hA rfl rfl ⟨Nat.le_trans (Nat.le_of_ble_eq_true rfl) hRf, Nat.le_trans (Nat.le_of_ble_eq_true rfl) hRl⟩) hK hP hD hS rfl hl.1 (Nat.le_of_ble_eq_true rfl) ⟨by omega, by omega⟩ dL_law_373 rfl (fun r2 v1 H locs hv1 hP hD hS => ?_)
  have hthr : v1.2.2 0 = 1 := by rw [hv1]; rfl
  have hjj : lw_J w1.1 v1 := by
    rw [hw1.2, hv1]
    exact ⟨_, _, _, _, _, _, _, _, _, _, _, _, hI, minv_thr hM⟩
  refine lv_istore (lv' := [(6, .int r2), (5, .int (nI 1)), (0, .ref b0), (1, .ref (a 0)), (2, .ref (b 0)), (3, .ref o), (4, .int (nI ix))]) hx hb dL_law_376 hl (by decide) rfl (fun ls hl => ?_)
  refine lv_aload_n hx hb dL_law_378 rfl (lv_at hl 4 rfl) ?_
  refine kl_T ⟨hx, hb, hml, hown, hA⟩ (m_thrown l D b kI kL kZ v1) (kw_L_73 hA rfl rfl ⟨Nat.le_trans (Nat.le_of_ble_eq_true rfl) hRf, Nat.le_trans (Nat.le_of_ble_eq_true rfl) hRl⟩) hK hP hS rfl hl.1 (Nat.le_of_ble_eq_true rfl) ⟨by omega, by omega⟩ dL_law_379 rfl (fun H locs hP hS => ?_)
  refine tq_i (congrArg nI hthr) ?_
  refine lv_iload hx hb dL_law_382 (lv_at hl 1 rfl) ?_
  refine tq_eq hx hb dL_law_384 (tgt := 389) (by decide) (by omega) (by omega) (fun h384 => ?_) (fun h384 => ?_)
  · refine lv_iload hx hb dL_law_389 (lv_at hl 1 rfl) ?_
    refine tq_zne hx hb dL_law_391 (tgt := 406) (by decide) (by omega) (fun h391 => ?_) (fun h391 => ?_)
    · refine lv_goto hx hb dL_law_406 (tgt := 1197) (by decide) ?_
      exact kk w1.1 v1 w1.2 H locs ls hjj hP hD hS (lv_sub hl [2, 3, 4, 5, 6] rfl)
    · omega
  · omega
theorem lc_4 {p : Program} {l : Launch} {e : Env} {R : Room} {s : State} {m : MethodId} {args : Array Value} {below : List Frame} {meth : Method} {c : Code} {H : Heap} {locs : List Loc} {cells slots : Nat} {Q : State → Prop} {ls : Array Slot} {b0 L : Nat} {xs : Nat → Int32} {D : va_G} {kI kL kZ : ClassId} {a b : Nat → Nat} {o : Nat} {u v : sU} {f : Nat → Int64} {ix : Nat} (h0 : lw_C p l R s m args c b0 L xs D kI kL kZ) (hi : ix + 4 ≤ L) (hL : L ≤ 2048) (hJ : lw_J u v) (hP : va_P D vwA (lW a o b kI kL kZ u f v) H) (hD : va_D (fun q => s.heap.size ≤ q) (lW a o b kI kL kZ u f v)) (hS : va_S (fun q => s.heap.size ≤ q) s.heap H locs) (hl : lv_has ls 7 [(0, .ref b0), (1, .ref (a 0)), (2, .ref (b 0)), (3, .ref o), (4, .int (nI ix))]) (hcs : cells + 1 ≤ R.cells ∧ slots + 6 ≤ R.slots) (kk : ∀ (u v : sU) (f : Nat → Int64) (H : Heap) (locs : List Loc) (ls : Array Slot), lw_J u v → va_P D vwA (lW a o b kI kL kZ u f v) H → va_D (fun q => s.heap.size ≤ q) (lW a o b kI kL kZ u f v) → va_S (fun q => s.heap.size ≤ q) s.heap H locs → lv_has ls 7 [(0, .ref b0), (1, .ref (a 0)), (2, .ref (b 0)), (3, .ref o), (4, .int (nI ix))] → W p l e R s m args below meth c H locs (cells + 1) (slots + 6) Q (F0 m 1197 ls [])) : W p l e R s m args below meth c H locs cells slots Q (F0 m 341 ls []) := by
  obtain ⟨N, kd, fa, fb, T, so, xa, xb, xc, F, M, rs, hI, hM⟩ := hJ
  by_cases c1 : ∃ k, k < N ∧ xs (ix + 1) = nI k
  · obtain ⟨d, e1, f1⟩ := c1
    by_cases c2 : ∃ k, k < N ∧ xs (ix + 2) = nI k
    · obtain ⟨d2, e2, f2⟩ := c2
      exact lg_equal h0 hi hL hI hM d d2 e1 e2 f1 f2 hP hD hS hl hcs kk
    · exact lb_equal h0 hi hL hI hM (Or.inr ((fun k hk z => c2 ⟨k, hk, z⟩))) hP hD hS hl hcs kk
  · exact lb_equal h0 hi hL hI hM (Or.inl (fun k hk z => c1 ⟨k, hk, z⟩)) hP hD hS hl hcs kk
