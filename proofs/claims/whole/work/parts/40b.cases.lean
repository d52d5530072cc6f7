/-! The law's cases. Written by wip/whole/gen/genL2.py. -/
set_option maxHeartbeats 4000000 in
set_option maxRecDepth 100000 in
theorem lg_roleBelow {p : Program} {l : Launch} {e : Env} {R : Room} {s : State} {m : MethodId} {args : Array Value} {below : List Frame} {meth : Method} {c : Code} {H : Heap} {locs : List Loc} {cells slots : Nat} {Q : State → Prop} {ls : Array Slot} {b0 L : Nat} {xs : Nat → Int32} {D : va_G} {kI kL kZ : ClassId} {a b : Nat → Nat} {o : Nat} {u v : sU} {f : Nat → Int64} {ix : Nat} (h0 : lw_C p l R s m args c b0 L xs D kI kL kZ) (hi : ix + 4 ≤ L) (hL : L ≤ 2048) {N : Nat} {kd fa fb : Nat → Nat} {T : Nat} {so xa xb xc : Nat → Nat} {F : Nat → Prop} {M : Nat} {rs : Nat → Nat} (hI : s_inv u N kd fa fb T so xa xb xc F M rs) (hM : m_inv v N kd fa fb T so xa xb xc F M rs) (d d2 : Nat) (hd : d < 6) (hd2 : d2 < 6) (hxs1 : xs (ix + 1) = nI d) (hxs2 : xs (ix + 2) = nI d2) (hP : va_P D vwA (lW a o b kI kL kZ u f v) H) (hD : va_D (fun q => s.heap.size ≤ q) (lW a o b kI kL kZ u f v)) (hS : va_S (fun q => s.heap.size ≤ q) s.heap H locs) (hl : lv_has ls 7 [(0, .ref b0), (1, .ref (a 0)), (2, .ref (b 0)), (3, .ref o), (4, .int (nI ix))]) (hcs : cells + 1 ≤ R.cells ∧ slots + 6 ≤ R.slots) (kk : ∀ (u v : sU) (f : Nat → Int64) (H : Heap) (locs : List Loc) (ls : Array Slot), lw_J u v → va_P D vwA (lW a o b kI kL kZ u f v) H → va_D (fun q => s.heap.size ≤ q) (lW a o b kI kL kZ u f v) → va_S (fun q => s.heap.size ≤ q) s.heap H locs → lv_has ls 7 [(0, .ref b0), (1, .ref (a 0)), (2, .ref (b 0)), (3, .ref o), (4, .int (nI ix))] → W p l e R s m args below meth c H locs (cells + 1) (slots + 6) Q (F0 m 1197 ls [])) : W p l e R s m args below meth c H locs cells slots Q (F0 m 409 ls []) := by
  obtain ⟨hx, hb, hml, hown, hA, hXs, hbl, hK, hXX, hl0, hRf, hRl⟩ := h0
  have hbA : ¬ s.heap.size ≤ b0 := by omega
  refine lv_aload_n hx hb dL_law_409 rfl (lv_at hl 1 rfl) ?_
  refine lv_aload_n hx hb dL_law_410 rfl (lv_at hl 0 rfl) ?_
  refine lv_iload hx hb dL_law_411 (lv_at hl 4 rfl) ?_
  refine lv_iconst (v := nI 1) hx hb dL_law_413 (by decide +kernel) ?_
  refine tq_iadd hx hb dL_law_414 ?_
  refine va_sld hx hb hXs hbl hbA hS (vp_in_nI (by omega) (by omega)) dL_law_415 ?_
  refine tq_i (congrArg xs (nI_clamp (by omega))) ?_
  refine tq_i hxs1 ?_
  refine lv_aload_n hx hb dL_law_416 rfl (lv_at hl 0 rfl) ?_
  refine lv_iload hx hb dL_law_417 (lv_at hl 4 rfl) ?_
  refine lv_iconst (v := nI 2) hx hb dL_law_419 (by decide +kernel) ?_
  refine tq_iadd hx hb dL_law_420 ?_
  refine va_sld hx hb hXs hbl hbA hS (vp_in_nI (by omega) (by omega)) dL_law_421 ?_
  refine tq_i (congrArg xs (nI_clamp (by omega))) ?_
  refine tq_i hxs2 ?_
  refine lv_aload_n hx hb dL_law_422 rfl (lv_at hl 3 rfl) ?_
  refine kl_H ⟨hx, hb, hml, hown, hA⟩ (g_roleBelow l D a o kI kL kZ u f N kd fa fb T so xa xb xc F M rs hI d d2 hd hd2) (kh_L_85 hA rfl rfl ⟨Nat.le_trans (Nat.le_of_ble_eq_true rfl) hRf, Nat.le_trans (Nat.le_of_ble_eq_true rfl) hRl⟩) hK hP hD hS rfl hl.1 (Nat.le_of_ble_eq_true rfl) ⟨by omega, by omega⟩ dL_law_423 rfl (fun r1 w1 H locs hw1 hP hD hS => ?_)
  obtain ⟨r0, hf0, hq⟩ := hw1.2
  refine tq_i hw1.1 ?_
  refine lv_istore (lv' := [(5, .int (nI 0)), (0, .ref b0), (1, .ref (a 0)), (2, .ref (b 0)), (3, .ref o), (4, .int (nI ix))]) hx hb dL_law_426 hl (by decide) rfl (fun ls hl => ?_)
  refine lv_aload_n hx hb dL_law_428 rfl (lv_at hl 3 rfl) ?_
  refine lv_aload_n hx hb dL_law_429 rfl (lv_at hl 1 rfl) ?_
  refine lv_iload hx hb dL_law_430 (lv_at hl 5 rfl) ?_
  refine lv_iconst (v := nI 1) hx hb dL_law_432 (by decide +kernel) ?_
  refine tq_iadd hx hb dL_law_433 ?_
  refine va_sld hx hb hXs hbl hbA hS (vp_in_nI (by omega) (by omega)) dL_law_434 ?_
  refine tq_i (congrArg xs (nI_clamp (by omega))) ?_
  refine tq_i hxs1 ?_
  refine lv_aload_n hx hb dL_law_435 rfl (lv_at hl 1 rfl) ?_
  refine lv_iload hx hb dL_law_436 (lv_at hl 5 rfl) ?_
  refine lv_iconst (v := nI 2) hx hb dL_law_438 (by decide +kernel) ?_
  refine tq_iadd hx hb dL_law_439 ?_
  refine va_sld hx hb hXs hbl hbA hS (vp_in_nI (by omega) (by omega)) dL_law_440 ?_
  refine tq_i (congrArg xs (nI_clamp (by omega))) ?_
  refine tq_i hxs2 ?_
  refine kl_M ⟨hx, hb, hml, hown, hA⟩ (w_roleBelow l D b kI kL kZ v N kd fa fb T so xa xb xc F M rs hM d d2 hd hd2) (kw_L_87 hA rfl rfl ⟨Nat.le_trans (Nat.le_of_ble_eq_true rfl) hRf, Nat.le_trans (Nat.le_of_ble_eq_true rfl) hRl⟩) hK hP hD hS rfl hl.1 (Nat.le_of_ble_eq_true rfl) ⟨by omega, by omega⟩ dL_law_441 rfl (fun r2 v1 H locs hv1 hP hD hS => ?_)
  have hthr : v1.2.2 0 = 0 := hv1.2
  have hjj : r0 = r2 ∧ lw_J w1.1 v1 := j_tl hq hv1.1
  refine lv_istore (lv' := [(6, .int r2), (5, .int (nI 0)), (0, .ref b0), (1, .ref (a 0)), (2, .ref (b 0)), (3, .ref o), (4, .int (nI ix))]) hx hb dL_law_444 hl (by decide) rfl (fun ls hl => ?_)
  refine lv_aload_n hx hb dL_law_446 rfl (lv_at hl 4 rfl) ?_
  refine kl_T ⟨hx, hb, hml, hown, hA⟩ (m_thrown l D b kI kL kZ v1) (kw_L_73 hA rfl rfl ⟨Nat.le_trans (Nat.le_of_ble_eq_true rfl) hRf, Nat.le_trans (Nat.le_of_ble_eq_true rfl) hRl⟩) hK hP hS rfl hl.1 (Nat.le_of_ble_eq_true rfl) ⟨by omega, by omega⟩ dL_law_447 rfl (fun H locs hP hS => ?_)
  refine tq_i (congrArg nI hthr) ?_
  refine lv_iload hx hb dL_law_450 (lv_at hl 1 rfl) ?_
  refine tq_eq hx hb dL_law_452 (tgt := 457) (by decide) (by omega) (by omega) (fun h452 => ?_) (fun h452 => ?_)
  · refine lv_iload hx hb dL_law_457 (lv_at hl 1 rfl) ?_
    refine tq_zne hx hb dL_law_459 (tgt := 474) (by decide) (by omega) (fun h459 => ?_) (fun h459 => ?_)
    · omega
    · refine lv_aload_n hx hb dL_law_462 rfl (lv_at hl 5 rfl) ?_
      refine lv_iconst (v := nI 0) hx hb dL_law_463 (by decide +kernel) ?_
      refine tq_lald hx hb hK hP 32 1 rfl rfl (by omega) (by omega) dL_law_464 ?_
      refine lv_iload hx hb dL_law_465 (lv_at hl 0 rfl) ?_
      refine lv_i2l hx hb dL_law_467 rfl ?_
      refine tq_leq hx hb dL_law_468 dL_law_469 (tgt := 474) (by decide) (fun h468 => ?_) (fun h468 => ?_)
      · refine lv_goto hx hb dL_law_474 (tgt := 1197) (by decide) ?_
        refine W.widen (k := cells + 1) (n := slots + 6) (by omega) (by omega) ?_
        exact kk w1.1 v1 w1.2 H locs ls hjj.2 hP hD hS (lv_sub hl [2, 3, 4, 5, 6] rfl)
      · exact absurd (hf0.trans (congrArg Int32.toInt64 hjj.1)) h468
  · omega
set_option maxHeartbeats 4000000 in
set_option maxRecDepth 100000 in
theorem lb_roleBelow {p : Program} {l : Launch} {e : Env} {R : Room} {s : State} {m : MethodId} {args : Array Value} {below : List Frame} {meth : Method} {c : Code} {H : Heap} {locs : List Loc} {cells slots : Nat} {Q : State → Prop} {ls : Array Slot} {b0 L : Nat} {xs : Nat → Int32} {D : va_G} {kI kL kZ : ClassId} {a b : Nat → Nat} {o : Nat} {u v : sU} {f : Nat → Int64} {ix : Nat} (h0 : lw_C p l R s m args c b0 L xs D kI kL kZ) (hi : ix + 4 ≤ L) (hL : L ≤ 2048) {N : Nat} {kd fa fb : Nat → Nat} {T : Nat} {so xa xb xc : Nat → Nat} {F : Nat → Prop} {M : Nat} {rs : Nat → Nat} (hI : s_inv u N kd fa fb T so xa xb xc F M rs) (hM : m_inv v N kd fa fb T so xa xb xc F M rs) (hbad : (∀ k, k < 6 → ¬ (xs (ix + 1)) = nI k) ∨ (∀ k, k < 6 → ¬ (xs (ix + 2)) = nI k)) (hP : va_P D vwA (lW a o b kI kL kZ u f v) H) (hD : va_D (fun q => s.heap.size ≤ q) (lW a o b kI kL kZ u f v)) (hS : va_S (fun q => s.heap.size ≤ q) s.heap H locs) (hl : lv_has ls 7 [(0, .ref b0), (1, .ref (a 0)), (2, .ref (b 0)), (3, .ref o), (4, .int (nI ix))]) (hcs : cells + 1 ≤ R.cells ∧ slots + 6 ≤ R.slots) (kk : ∀ (u v : sU) (f : Nat → Int64) (H : Heap) (locs : List Loc) (ls : Array Slot), lw_J u v → va_P D vwA (lW a o b kI kL kZ u f v) H → va_D (fun q => s.heap.size ≤ q) (lW a o b kI kL kZ u f v) → va_S (fun q => s.heap.size ≤ q) s.heap H locs → lv_has ls 7 [(0, .ref b0), (1, .ref (a 0)), (2, .ref (b 0)), (3, .ref o), (4, .int (nI ix))] → W p l e R s m args below meth c H locs (cells + 1) (slots + 6) Q (F0 m 1197 ls [])) : W p l e R s m args below meth c H locs cells slots Q (F0 m 409 ls []) := by
  obtain ⟨hx, hb, hml, hown, hA, hXs, hbl, hK, hXX, hl0, hRf, hRl⟩ := h0
  have hbA : ¬ s.heap.size ≤ b0 := by omega
  have hn := inv_N hI
  have hbS : (∀ k, k < 6 → ¬ (xs (ix + 1)) = nI k) ∨ (∀ k, k < 6 → ¬ (xs (ix + 2)) = nI k) := by exact hbad
  refine lv_aload_n hx hb dL_law_409 rfl (lv_at hl 1 rfl) ?_
  refine lv_aload_n hx hb dL_law_410 rfl (lv_at hl 0 rfl) ?_
  refine lv_iload hx hb dL_law_411 (lv_at hl 4 rfl) ?_
  refine lv_iconst (v := nI 1) hx hb dL_law_413 (by decide +kernel) ?_
  refine tq_iadd hx hb dL_law_414 ?_
  refine va_sld hx hb hXs hbl hbA hS (vp_in_nI (by omega) (by omega)) dL_law_415 ?_
  refine tq_i (congrArg xs (nI_clamp (by omega))) ?_
  refine lv_aload_n hx hb dL_law_416 rfl (lv_at hl 0 rfl) ?_
  refine lv_iload hx hb dL_law_417 (lv_at hl 4 rfl) ?_
  refine lv_iconst (v := nI 2) hx hb dL_law_419 (by decide +kernel) ?_
  refine tq_iadd hx hb dL_law_420 ?_
  refine va_sld hx hb hXs hbl hbA hS (vp_in_nI (by omega) (by omega)) dL_law_421 ?_
  refine tq_i (congrArg xs (nI_clamp (by omega))) ?_
  refine lv_aload_n hx hb dL_law_422 rfl (lv_at hl 3 rfl) ?_
  refine kl_B ⟨hx, hb, hml, hown, hA⟩ (b_roleBelow l hl0 D a o kI kL kZ u f (xs (ix + 1)) (xs (ix + 2)) (by omega) hbS) (kh_L_85 hA rfl rfl ⟨Nat.le_trans (Nat.le_of_ble_eq_true rfl) hRf, Nat.le_trans (Nat.le_of_ble_eq_true rfl) hRl⟩) hK (fun U hU hW => hXX.at hS (fun q h1 h2 => by omega) hU hW) hP hD hS rfl hl.1 (Nat.le_of_ble_eq_true rfl) ⟨by omega, by omega⟩ dL_law_423 rfl (fun r1 w1 H locs hw1 hP hD hS => ?_)
  refine tq_i hw1.1 ?_
  refine lv_istore (lv' := [(5, .int (nI 1)), (0, .ref b0), (1, .ref (a 0)), (2, .ref (b 0)), (3, .ref o), (4, .int (nI ix))]) hx hb dL_law_426 hl (by decide) rfl (fun ls hl => ?_)
  refine lv_aload_n hx hb dL_law_428 rfl (lv_at hl 3 rfl) ?_
  refine lv_aload_n hx hb dL_law_429 rfl (lv_at hl 1 rfl) ?_
  refine lv_iload hx hb dL_law_430 (lv_at hl 5 rfl) ?_
  refine lv_iconst (v := nI 1) hx hb dL_law_432 (by decide +kernel) ?_
  refine tq_iadd hx hb dL_law_433 ?_
  refine va_sld hx hb hXs hbl hbA hS (vp_in_nI (by omega) (by omega)) dL_law_434 ?_
  refine tq_i (congrArg xs (nI_clamp (by omega))) ?_
  refine lv_aload_n hx hb dL_law_435 rfl (lv_at hl 1 rfl) ?_
  refine lv_iload hx hb dL_law_436 (lv_at hl 5 rfl) ?_
  refine lv_iconst (v := nI 2) hx hb dL_law_438 (by decide +kernel) ?_
  refine tq_iadd hx hb dL_law_439 ?_
  refine va_sld hx hb hXs hbl hbA hS (vp_in_nI (by omega) (by omega)) dL_law_440 ?_
  refine tq_i (congrArg xs (nI_clamp (by omega))) ?_
  refine kl_M ⟨hx, hb, hml, hown, hA⟩ (n_roleBelow l D b kI kL kZ v N kd fa fb T so xa xb xc hM.1 (xs (ix + 1)) (xs (ix + 2)) hbad) (kw_L_87 hA rfl rfl ⟨Nat.le_trans (Nat.le_of_ble_eq_true rfl) hRf, Nat.le_trans (Nat.le_of_ble_eq_true rfl) hRl⟩) hK hP hD hS rfl hl.1 (Nat.le_of_ble_eq_true rfl) ⟨by omega, by omega⟩ dL_law_441 rfl (fun r2 v1 H locs hv1 hP hD hS => ?_)
  have hthr : v1.2.2 0 = 1 := by rw [hv1]; rfl
  have hjj : lw_J w1.1 v1 := by
    rw [hw1.2, hv1]
    exact ⟨_, _, _, _, _, _, _, _, _, _, _, _, hI, minv_thr hM⟩
  refine lv_istore (lv' := [(6, .int r2), (5, .int (nI 1)), (0, .ref b0), (1, .ref (a 0)), (2, .ref (b 0)), (3, .ref o), (4, .int (nI ix))]) hx hb dL_law_444 hl (by decide) rfl (fun ls hl => ?_)
  refine lv_aload_n hx hb dL_law_446 rfl (lv_at hl 4 rfl) ?_
  refine kl_T ⟨hx, hb, hml, hown, hA⟩ (m_thrown l D b kI kL kZ v1) (kw_L_73 hA rfl rfl ⟨Nat.le_trans (Nat.le_of_ble_eq_true rfl) hRf, Nat.le_trans (Nat.le_of_ble_eq_true rfl) hRl⟩) hK hP hS rfl hl.1 (Nat.le_of_ble_eq_true rfl) ⟨by omega, by omega⟩ dL_law_447 rfl (fun H locs hP hS => ?_)
  refine tq_i (congrArg nI hthr) ?_
  refine lv_iload hx hb dL_law_450 (lv_at hl 1 rfl) ?_
  refine tq_eq hx hb dL_law_452 (tgt := 457) (by decide) (by omega) (by omega) (fun h452 => ?_) (fun h452 => ?_)
  · refine lv_iload hx hb dL_law_457 (lv_at hl 1 rfl) ?_
    refine tq_zne hx hb dL_law_459 (tgt := 474) (by decide) (by omega) (fun h459 => ?_) (fun h459 => ?_)
    · refine lv_goto hx hb dL_law_474 (tgt := 1197) (by decide) ?_
      exact kk w1.1 v1 w1.2 H locs ls hjj hP hD hS (lv_sub hl [2, 3, 4, 5, 6] rfl)
    · omega
  · omega
theorem lc_5 {p : Program} {l : Launch} {e : Env} {R : Room} {s : State} {m : MethodId} {args : Array Value} {below : List Frame} {meth : Method} {c : Code} {H : Heap} {locs : List Loc} {cells slots : Nat} {Q : State → Prop} {ls : Array Slot} {b0 L : Nat} {xs : Nat → Int32} {D : va_G} {kI kL kZ : ClassId} {a b : Nat → Nat} {o : Nat} {u v : sU} {f : Nat → Int64} {ix : Nat} (h0 : lw_C p l R s m args c b0 L xs D kI kL kZ) (hi : ix + 4 ≤ L) (hL : L ≤ 2048) (hJ : lw_J u v) (hP : va_P D vwA (lW a o b kI kL kZ u f v) H) (hD : va_D (fun q => s.heap.size ≤ q) (lW a o b kI kL kZ u f v)) (hS : va_S (fun q => s.heap.size ≤ q) s.heap H locs) (hl : lv_has ls 7 [(0, .ref b0), (1, .ref (a 0)), (2, .ref (b 0)), (3, .ref o), (4, .int (nI ix))]) (hcs : cells + 1 ≤ R.cells ∧ slots + 6 ≤ R.slots) (kk : ∀ (u v : sU) (f : Nat → Int64) (H : Heap) (locs : List Loc) (ls : Array Slot), lw_J u v → va_P D vwA (lW a o b kI kL kZ u f v) H → va_D (fun q => s.heap.size ≤ q) (lW a o b kI kL kZ u f v) → va_S (fun q => s.heap.size ≤ q) s.heap H locs → lv_has ls 7 [(0, .ref b0), (1, .ref (a 0)), (2, .ref (b 0)), (3, .ref o), (4, .int (nI ix))] → W p l e R s m args below meth c H locs (cells + 1) (slots + 6) Q (F0 m 1197 ls [])) : W p l e R s m args below meth c H locs cells slots Q (F0 m 409 ls []) := by
  obtain ⟨N, kd, fa, fb, T, so, xa, xb, xc, F, M, rs, hI, hM⟩ := hJ
  by_cases c1 : ∃ k, k < 6 ∧ xs (ix + 1) = nI k
  · obtain ⟨d, e1, f1⟩ := c1
    by_cases c2 : ∃ k, k < 6 ∧ xs (ix + 2) = nI k
    · obtain ⟨d2, e2, f2⟩ := c2
      exact lg_roleBelow h0 hi hL hI hM d d2 e1 e2 f1 f2 hP hD hS hl hcs kk
    · exact lb_roleBelow h0 hi hL hI hM (Or.inr ((fun k hk z => c2 ⟨k, hk, z⟩))) hP hD hS hl hcs kk
  · exact lb_roleBelow h0 hi hL hI hM (Or.inl (fun k hk z => c1 ⟨k, hk, z⟩)) hP hD hS hl hcs kk
set_option maxHeartbeats 4000000 in
set_option maxRecDepth 100000 in
theorem lg_chain {p : Program} {l : Launch} {e : Env} {R : Room} {s : State} {m : MethodId} {args : Array Value} {below : List Frame} {meth : Method} {c : Code} {H : Heap} {locs : List Loc} {cells slots : Nat} {Q : State → Prop} {ls : Array Slot} {b0 L : Nat} {xs : Nat → Int32} {D : va_G} {kI kL kZ : ClassId} {a b : Nat → Nat} {o : Nat} {u v : sU} {f : Nat → Int64} {ix : Nat} (h0 : lw_C p l R s m args c b0 L xs D kI kL kZ) (hi : ix + 4 ≤ L) (hL : L ≤ 2048) {N : Nat} {kd fa fb : Nat → Nat} {T : Nat} {so xa xb xc : Nat → Nat} {F : Nat → Prop} {M : Nat} {rs : Nat → Nat} (hI : s_inv u N kd fa fb T so xa xb xc F M rs) (hM : m_inv v N kd fa fb T so xa xb xc F M rs) (d d2 d3 : Nat) (hd : d < 6) (hd2 : d2 < 6) (hd3 : d3 < 6) (hxs1 : xs (ix + 1) = nI d) (hxs2 : xs (ix + 2) = nI d2) (hxs3 : xs (ix + 3) = nI d3) (hP : va_P D vwA (lW a o b kI kL kZ u f v) H) (hD : va_D (fun q => s.heap.size ≤ q) (lW a o b kI kL kZ u f v)) (hS : va_S (fun q => s.heap.size ≤ q) s.heap H locs) (hl : lv_has ls 7 [(0, .ref b0), (1, .ref (a 0)), (2, .ref (b 0)), (3, .ref o), (4, .int (nI ix))]) (hcs : cells + 1 ≤ R.cells ∧ slots + 6 ≤ R.slots) (kk : ∀ (u v : sU) (f : Nat → Int64) (H : Heap) (locs : List Loc) (ls : Array Slot), lw_J u v → va_P D vwA (lW a o b kI kL kZ u f v) H → va_D (fun q => s.heap.size ≤ q) (lW a o b kI kL kZ u f v) → va_S (fun q => s.heap.size ≤ q) s.heap H locs → lv_has ls 7 [(0, .ref b0), (1, .ref (a 0)), (2, .ref (b 0)), (3, .ref o), (4, .int (nI ix))] → W p l e R s m args below meth c H locs (cells + 1) (slots + 6) Q (F0 m 1197 ls [])) : W p l e R s m args below meth c H locs cells slots Q (F0 m 477 ls []) := by
  obtain ⟨hx, hb, hml, hown, hA, hXs, hbl, hK, hXX, hl0, hRf, hRl⟩ := h0
  have hbA : ¬ s.heap.size ≤ b0 := by omega
  refine lv_aload_n hx hb dL_law_477 rfl (lv_at hl 1 rfl) ?_
  refine lv_aload_n hx hb dL_law_478 rfl (lv_at hl 0 rfl) ?_
  refine lv_iload hx hb dL_law_479 (lv_at hl 4 rfl) ?_
  refine lv_iconst (v := nI 1) hx hb dL_law_481 (by decide +kernel) ?_
  refine tq_iadd hx hb dL_law_482 ?_
  refine va_sld hx hb hXs hbl hbA hS (vp_in_nI (by omega) (by omega)) dL_law_483 ?_
  refine tq_i (congrArg xs (nI_clamp (by omega))) ?_
  refine tq_i hxs1 ?_
  refine lv_aload_n hx hb dL_law_484 rfl (lv_at hl 0 rfl) ?_
  refine lv_iload hx hb dL_law_485 (lv_at hl 4 rfl) ?_
  refine lv_iconst (v := nI 2) hx hb dL_law_487 (by decide +kernel) ?_
  refine tq_iadd hx hb dL_law_488 ?_
  refine va_sld hx hb hXs hbl hbA hS (vp_in_nI (by omega) (by omega)) dL_law_489 ?_
  refine tq_i (congrArg xs (nI_clamp (by omega))) ?_
  refine tq_i hxs2 ?_
  refine lv_aload_n hx hb dL_law_490 rfl (lv_at hl 0 rfl) ?_
  refine lv_iload hx hb dL_law_491 (lv_at hl 4 rfl) ?_
  refine lv_iconst (v := nI 3) hx hb dL_law_493 (by decide +kernel) ?_
  refine tq_iadd hx hb dL_law_494 ?_
  refine va_sld hx hb hXs hbl hbA hS (vp_in_nI (by omega) (by omega)) dL_law_495 ?_
  refine tq_i (congrArg xs (nI_clamp (by omega))) ?_
  refine tq_i hxs3 ?_
  refine lv_aload_n hx hb dL_law_496 rfl (lv_at hl 3 rfl) ?_
  refine kl_H ⟨hx, hb, hml, hown, hA⟩ (g_chain l D a o kI kL kZ u f N kd fa fb T so xa xb xc F M rs hI d d2 d3 hd hd2 hd3) (kh_L_88 hA rfl rfl ⟨Nat.le_trans (Nat.le_of_ble_eq_true rfl) hRf, Nat.le_trans (Nat.le_of_ble_eq_true rfl) hRl⟩) hK hP hD hS rfl hl.1 (Nat.le_of_ble_eq_true rfl) ⟨by omega, by omega⟩ dL_law_497 rfl (fun r1 w1 H locs hw1 hP hD hS => ?_)
  obtain ⟨r0, hf0, hq⟩ := hw1.2
  refine tq_i hw1.1 ?_
  refine lv_istore (lv' := [(5, .int (nI 0)), (0, .ref b0), (1, .ref (a 0)), (2, .ref (b 0)), (3, .ref o), (4, .int (nI ix))]) hx hb dL_law_500 hl (by decide) rfl (fun ls hl => ?_)
  refine lv_aload_n hx hb dL_law_502 rfl (lv_at hl 3 rfl) ?_
  refine lv_aload_n hx hb dL_law_503 rfl (lv_at hl 1 rfl) ?_
  refine lv_iload hx hb dL_law_504 (lv_at hl 5 rfl) ?_
  refine lv_iconst (v := nI 1) hx hb dL_law_506 (by decide +kernel) ?_
  refine tq_iadd hx hb dL_law_507 ?_
  refine va_sld hx hb hXs hbl hbA hS (vp_in_nI (by omega) (by omega)) dL_law_508 ?_
  refine tq_i (congrArg xs (nI_clamp (by omega))) ?_
  refine tq_i hxs1 ?_
  refine lv_aload_n hx hb dL_law_509 rfl (lv_at hl 1 rfl) ?_
  refine lv_iload hx hb dL_law_510 (lv_at hl 5 rfl) ?_
  refine lv_iconst (v := nI 2) hx hb dL_law_512 (by decide +kernel) ?_
  refine tq_iadd hx hb dL_law_513 ?_
  refine va_sld hx hb hXs hbl hbA hS (vp_in_nI (by omega) (by omega)) dL_law_514 ?_
  refine tq_i (congrArg xs (nI_clamp (by omega))) ?_
  refine tq_i hxs2 ?_
  refine lv_aload_n hx hb dL_law_515 rfl (lv_at hl 1 rfl) ?_
  refine lv_iload hx hb dL_law_516 (lv_at hl 5 rfl) ?_
  refine lv_iconst (v := nI 3) hx hb dL_law_518 (by decide +kernel) ?_
  refine tq_iadd hx hb dL_law_519 ?_
  refine va_sld hx hb hXs hbl hbA hS (vp_in_nI (by omega) (by omega)) dL_law_520 ?_
  refine tq_i (congrArg xs (nI_clamp (by omega))) ?_
  refine tq_i hxs3 ?_
  refine kl_M ⟨hx, hb, hml, hown, hA⟩ (w_chain l D b kI kL kZ v N kd fa fb T so xa xb xc F M rs hM d d2 d3 hd hd2 hd3) (kw_L_91 hA rfl rfl ⟨Nat.le_trans (Nat.le_of_ble_eq_true rfl) hRf, Nat.le_trans (Nat.le_of_ble_eq_true rfl) hRl⟩) hK hP hD hS rfl hl.1 (Nat.le_of_ble_eq_true rfl) ⟨by omega, by omega⟩ dL_law_521 rfl (fun r2 v1 H locs hv1 hP hD hS => ?_)
  have hthr : v1.2.2 0 = 0 := hv1.2
  have hjj : r0 = r2 ∧ lw_J w1.1 v1 := j_tl hq hv1.1
  refine lv_istore (lv' := [(6, .int r2), (5, .int (nI 0)), (0, .ref b0), (1, .ref (a 0)), (2, .ref (b 0)), (3, .ref o), (4, .int (nI ix))]) hx hb dL_law_524 hl (by decide) rfl (fun ls hl => ?_)
  refine lv_aload_n hx hb dL_law_526 rfl (lv_at hl 4 rfl) ?_
  refine kl_T ⟨hx, hb, hml, hown, hA⟩ (m_thrown l D b kI kL kZ v1) (kw_L_73 hA rfl rfl ⟨Nat.le_trans (Nat.le_of_ble_eq_true rfl) hRf, Nat.le_trans (Nat.le_of_ble_eq_true rfl) hRl⟩) hK hP hS rfl hl.1 (Nat.le_of_ble_eq_true rfl) ⟨by omega, by omega⟩ dL_law_527 rfl (fun H locs hP hS => ?_)
  refine tq_i (congrArg nI hthr) ?_
  refine lv_iload hx hb dL_law_530 (lv_at hl 1 rfl) ?_
  refine tq_eq hx hb dL_law_532 (tgt := 537) (by decide) (by omega) (by omega) (fun h532 => ?_) (fun h532 => ?_)
  · refine lv_iload hx hb dL_law_537 (lv_at hl 1 rfl) ?_
    refine tq_zne hx hb dL_law_539 (tgt := 554) (by decide) (by omega) (fun h539 => ?_) (fun h539 => ?_)
    · omega
    · refine lv_aload_n hx hb dL_law_542 rfl (lv_at hl 5 rfl) ?_
      refine lv_iconst (v := nI 0) hx hb dL_law_543 (by decide +kernel) ?_
      refine tq_lald hx hb hK hP 32 1 rfl rfl (by omega) (by omega) dL_law_544 ?_
      refine lv_iload hx hb dL_law_545 (lv_at hl 0 rfl) ?_
      refine lv_i2l hx hb dL_law_547 rfl ?_
      refine tq_leq hx hb dL_law_548 dL_law_549 (tgt := 554) (by decide) (fun h548 => ?_) (fun h548 => ?_)
      · refine lv_goto hx hb dL_law_554 (tgt := 1197) (by decide) ?_
        refine W.widen (k := cells + 1) (n := slots + 6) (by omega) (by omega) ?_
        exact kk w1.1 v1 w1.2 H locs ls hjj.2 hP hD hS (lv_sub hl [2, 3, 4, 5, 6] rfl)
      · exact absurd (hf0.trans (congrArg Int32.toInt64 hjj.1)) h548
  · omega
set_option maxHeartbeats 4000000 in
set_option maxRecDepth 100000 in
theorem lb_chain {p : Program} {l : Launch} {e : Env} {R : Room} {s : State} {m : MethodId} {args : Array Value} {below : List Frame} {meth : Method} {c : Code} {H : Heap} {locs : List Loc} {cells slots : Nat} {Q : State → Prop} {ls : Array Slot} {b0 L : Nat} {xs : Nat → Int32} {D : va_G} {kI kL kZ : ClassId} {a b : Nat → Nat} {o : Nat} {u v : sU} {f : Nat → Int64} {ix : Nat} (h0 : lw_C p l R s m args c b0 L xs D kI kL kZ) (hi : ix + 4 ≤ L) (hL : L ≤ 2048) {N : Nat} {kd fa fb : Nat → Nat} {T : Nat} {so xa xb xc : Nat → Nat} {F : Nat → Prop} {M : Nat} {rs : Nat → Nat} (hI : s_inv u N kd fa fb T so xa xb xc F M rs) (hM : m_inv v N kd fa fb T so xa xb xc F M rs) (hbad : (∀ k, k < 6 → ¬ (xs (ix + 1)) = nI k) ∨ (∀ k, k < 6 → ¬ (xs (ix + 2)) = nI k) ∨ (∀ k, k < 6 → ¬ (xs (ix + 3)) = nI k)) (hP : va_P D vwA (lW a o b kI kL kZ u f v) H) (hD : va_D (fun q => s.heap.size ≤ q) (lW a o b kI kL kZ u f v)) (hS : va_S (fun q => s.heap.size ≤ q) s.heap H locs) (hl : lv_has ls 7 [(0, .ref b0), (1, .ref (a 0)), (2, .ref (b 0)), (3, .ref o), (4, .int (nI ix))]) (hcs : cells + 1 ≤ R.cells ∧ slots + 6 ≤ R.slots) (kk : ∀ (u v : sU) (f : Nat → Int64) (H : Heap) (locs : List Loc) (ls : Array Slot), lw_J u v → va_P D vwA (lW a o b kI kL kZ u f v) H → va_D (fun q => s.heap.size ≤ q) (lW a o b kI kL kZ u f v) → va_S (fun q => s.heap.size ≤ q) s.heap H locs → lv_has ls 7 [(0, .ref b0), (1, .ref (a 0)), (2, .ref (b 0)), (3, .ref o), (4, .int (nI ix))] → W p l e R s m args below meth c H locs (cells + 1) (slots + 6) Q (F0 m 1197 ls [])) : W p l e R s m args below meth c H locs cells slots Q (F0 m 477 ls []) := by
  obtain ⟨hx, hb, hml, hown, hA, hXs, hbl, hK, hXX, hl0, hRf, hRl⟩ := h0
  have hbA : ¬ s.heap.size ≤ b0 := by omega
  have hn := inv_N hI
  have hbS : (∀ k, k < 6 → ¬ (xs (ix + 1)) = nI k) ∨ (∀ k, k < 6 → ¬ (xs (ix + 2)) = nI k) ∨ (∀ k, k < 6 → ¬ (xs (ix + 3)) = nI k) := by exact hbad
  refine lv_aload_n hx hb dL_law_477 rfl (lv_at hl 1 rfl) ?_
  refine lv_aload_n hx hb dL_law_478 rfl (lv_at hl 0 rfl) ?_
  refine lv_iload hx hb dL_law_479 (lv_at hl 4 rfl) ?_
  refine lv_iconst (v := nI 1) hx hb dL_law_481 (by decide +kernel) ?_
  refine tq_iadd hx hb dL_law_482 ?_
  refine va_sld hx hb hXs hbl hbA hS (vp_in_nI (by omega) (by omega)) dL_law_483 ?_
  refine tq_i (congrArg xs (nI_clamp (by omega))) ?_
  refine lv_aload_n hx hb dL_law_484 rfl (lv_at hl 0 rfl) ?_
  refine lv_iload hx hb dL_law_485 (lv_at hl 4 rfl) ?_
  refine lv_iconst (v := nI 2) hx hb dL_law_487 (by decide +kernel) ?_
  refine tq_iadd hx hb dL_law_488 ?_
  refine va_sld hx hb hXs hbl hbA hS (vp_in_nI (by omega) (by omega)) dL_law_489 ?_
  refine tq_i (congrArg xs (nI_clamp (by omega))) ?_
  refine lv_aload_n hx hb dL_law_490 rfl (lv_at hl 0 rfl) ?_
  refine lv_iload hx hb dL_law_491 (lv_at hl 4 rfl) ?_
  refine lv_iconst (v := nI 3) hx hb dL_law_493 (by decide +kernel) ?_
  refine tq_iadd hx hb dL_law_494 ?_
  refine va_sld hx hb hXs hbl hbA hS (vp_in_nI (by omega) (by omega)) dL_law_495 ?_
  refine tq_i (congrArg xs (nI_clamp (by omega))) ?_
  refine lv_aload_n hx hb dL_law_496 rfl (lv_at hl 3 rfl) ?_
  refine kl_B ⟨hx, hb, hml, hown, hA⟩ (b_chain l hl0 D a o kI kL kZ u f (xs (ix + 1)) (xs (ix + 2)) (xs (ix + 3)) (by omega) hbS) (kh_L_88 hA rfl rfl ⟨Nat.le_trans (Nat.le_of_ble_eq_true rfl) hRf, Nat.le_trans (Nat.le_of_ble_eq_true rfl) hRl⟩) hK (fun U hU hW => hXX.at hS (fun q h1 h2 => by omega) hU hW) hP hD hS rfl hl.1 (Nat.le_of_ble_eq_true rfl) ⟨by omega, by omega⟩ dL_law_497 rfl (fun r1 w1 H locs hw1 hP hD hS => ?_)
  refine tq_i hw1.1 ?_
  refine lv_istore (lv' := [(5, .int (nI 1)), (0, .ref b0), (1, .ref (a 0)), (2, .ref (b 0)), (3, .ref o), (4, .int (nI ix))]) hx hb dL_law_500 hl (by decide) rfl (fun ls hl => ?_)
  refine lv_aload_n hx hb dL_law_502 rfl (lv_at hl 3 rfl) ?_
  refine lv_aload_n hx hb dL_law_503 rfl (lv_at hl 1 rfl) ?_
  refine lv_iload hx hb dL_law_504 (lv_at hl 5 rfl) ?_
  refine lv_iconst (v := nI 1) hx hb dL_law_506 (by decide +kernel) ?_
  refine tq_iadd hx hb dL_law_507 ?_
  refine va_sld hx hb hXs hbl hbA hS (vp_in_nI (by omega) (by omega)) dL_law_508 ?_
  refine tq_i (congrArg xs (nI_clamp (by omega))) ?_
  refine lv_aload_n hx hb dL_law_509 rfl (lv_at hl 1 rfl) ?_
  refine lv_iload hx hb dL_law_510 (lv_at hl 5 rfl) ?_
  refine lv_iconst (v := nI 2) hx hb dL_law_512 (by decide +kernel) ?_
  refine tq_iadd hx hb dL_law_513 ?_
  refine va_sld hx hb hXs hbl hbA hS (vp_in_nI (by omega) (by omega)) dL_law_514 ?_
  refine tq_i (congrArg xs (nI_clamp (by omega))) ?_
  refine lv_aload_n hx hb dL_law_515 rfl (lv_at hl 1 rfl) ?_
  refine lv_iload hx hb dL_law_516 (lv_at hl 5 rfl) ?_
  refine lv_iconst (v := nI 3) hx hb dL_law_518 (by decide +kernel) ?_
  refine tq_iadd hx hb dL_law_519 ?_
  refine va_sld hx hb hXs hbl hbA hS (vp_in_nI (by omega) (by omega)) dL_law_520 ?_
  refine tq_i (congrArg xs (nI_clamp (by omega))) ?_
  refine kl_M ⟨hx, hb, hml, hown, hA⟩ (n_chain l D b kI kL kZ v N kd fa fb T so xa xb xc hM.1 (xs (ix + 1)) (xs (ix + 2)) (xs (ix + 3)) hbad) (kw_L_91 hA rfl rfl ⟨Nat.le_trans (Nat.le_of_ble_eq_true rfl) hRf, Nat.le_trans (Nat.le_of_ble_eq_true rfl) hRl⟩) hK hP hD hS rfl hl.1 (Nat.le_of_ble_eq_true rfl) ⟨by omega, by omega⟩ dL_law_521 rfl (fun r2 v1 H locs hv1 hP hD hS => ?_)
  have hthr : v1.2.2 0 = 1 := by rw [hv1]; rfl
  have hjj : lw_J w1.1 v1 := by
    rw [hw1.2, hv1]
    exact ⟨_, _, _, _, _, _, _, _, _, _, _, _, hI, minv_thr hM⟩
  refine lv_istore (lv' := [(6, .int r2), (5, .int (nI 1)), (0, .ref b0), (1, .ref (a 0)), (2, .ref (b 0)), (3, .ref o), (4, .int (nI ix))]) hx hb dL_law_524 hl (by decide) rfl (fun ls hl => ?_)
  refine lv_aload_n hx hb dL_law_526 rfl (lv_at hl 4 rfl) ?_
  refine kl_T ⟨hx, hb, hml, hown, hA⟩ (m_thrown l D b kI kL kZ v1) (kw_L_73 hA rfl rfl ⟨Nat.le_trans (Nat.le_of_ble_eq_true rfl) hRf, Nat.le_trans (Nat.le_of_ble_eq_true rfl) hRl⟩) hK hP hS rfl hl.1 (Nat.le_of_ble_eq_true rfl) ⟨by omega, by omega⟩ dL_law_527 rfl (fun H locs hP hS => ?_)
  refine tq_i (congrArg nI hthr) ?_
  refine lv_iload hx hb dL_law_530 (lv_at hl 1 rfl) ?_
  refine tq_eq hx hb dL_law_532 (tgt := 537) (by decide) (by omega) (by omega) (fun h532 => ?_) (fun h532 => ?_)
  · refine lv_iload hx hb dL_law_537 (lv_at hl 1 rfl) ?_
    refine tq_zne hx hb dL_law_539 (tgt := 554) (by decide) (by omega) (fun h539 => ?_) (fun h539 => ?_)
    · refine lv_goto hx hb dL_law_554 (tgt := 1197) (by decide) ?_
      exact kk w1.1 v1 w1.2 H locs ls hjj hP hD hS (lv_sub hl [2, 3, 4, 5, 6] rfl)
    · omega
  · omega
theorem lc_6 {p : Program} {l : Launch} {e : Env} {R : Room} {s : State} {m : MethodId} {args : Array Value} {below : List Frame} {meth : Method} {c : Code} {H : Heap} {locs : List Loc} {cells slots : Nat} {Q : State → Prop} {ls : Array Slot} {b0 L : Nat} {xs : Nat → Int32} {D : va_G} {kI kL kZ : ClassId} {a b : Nat → Nat} {o : Nat} {u v : sU} {f : Nat → Int64} {ix : Nat} (h0 : lw_C p l R s m args c b0 L xs D kI kL kZ) (hi : ix + 4 ≤ L) (hL : L ≤ 2048) (hJ : lw_J u v) (hP : va_P D vwA (lW a o b kI kL kZ u f v) H) (hD : va_D (fun q => s.heap.size ≤ q) (lW a o b kI kL kZ u f v)) (hS : va_S (fun q => s.heap.size ≤ q) s.heap H locs) (hl : lv_has ls 7 [(0, .ref b0), (1, .ref (a 0)), (2, .ref (b 0)), (3, .ref o), (4, .int (nI ix))]) (hcs : cells + 1 ≤ R.cells ∧ slots + 6 ≤ R.slots) (kk : ∀ (u v : sU) (f : Nat → Int64) (H : Heap) (locs : List Loc) (ls : Array Slot), lw_J u v → va_P D vwA (lW a o b kI kL kZ u f v) H → va_D (fun q => s.heap.size ≤ q) (lW a o b kI kL kZ u f v) → va_S (fun q => s.heap.size ≤ q) s.heap H locs → lv_has ls 7 [(0, .ref b0), (1, .ref (a 0)), (2, .ref (b 0)), (3, .ref o), (4, .int (nI ix))] → W p l e R s m args below meth c H locs (cells + 1) (slots + 6) Q (F0 m 1197 ls [])) : W p l e R s m args below meth c H locs cells slots Q (F0 m 477 ls []) := by
  obtain ⟨N, kd, fa, fb, T, so, xa, xb, xc, F, M, rs, hI, hM⟩ := hJ
  by_cases c1 : ∃ k, k < 6 ∧ xs (ix + 1) = nI k
  · obtain ⟨d, e1, f1⟩ := c1
    by_cases c2 : ∃ k, k < 6 ∧ xs (ix + 2) = nI k
    · obtain ⟨d2, e2, f2⟩ := c2
      by_cases c3 : ∃ k, k < 6 ∧ xs (ix + 3) = nI k
      · obtain ⟨d3, e3, f3⟩ := c3
        exact lg_chain h0 hi hL hI hM d d2 d3 e1 e2 e3 f1 f2 f3 hP hD hS hl hcs kk
      · exact lb_chain h0 hi hL hI hM (Or.inr (Or.inr ((fun k hk z => c3 ⟨k, hk, z⟩)))) hP hD hS hl hcs kk
    · exact lb_chain h0 hi hL hI hM (Or.inr (Or.inl (fun k hk z => c2 ⟨k, hk, z⟩))) hP hD hS hl hcs kk
  · exact lb_chain h0 hi hL hI hM (Or.inl (fun k hk z => c1 ⟨k, hk, z⟩)) hP hD hS hl hcs kk
set_option maxHeartbeats 4000000 in
set_option maxRecDepth 100000 in
theorem lg_isBelow {p : Program} {l : Launch} {e : Env} {R : Room} {s : State} {m : MethodId} {args : Array Value} {below : List Frame} {meth : Method} {c : Code} {H : Heap} {locs : List Loc} {cells slots : Nat} {Q : State → Prop} {ls : Array Slot} {b0 L : Nat} {xs : Nat → Int32} {D : va_G} {kI kL kZ : ClassId} {a b : Nat → Nat} {o : Nat} {u v : sU} {f : Nat → Int64} {ix : Nat} (h0 : lw_C p l R s m args c b0 L xs D kI kL kZ) (hi : ix + 4 ≤ L) (hL : L ≤ 2048) {N : Nat} {kd fa fb : Nat → Nat} {T : Nat} {so xa xb xc : Nat → Nat} {F : Nat → Prop} {M : Nat} {rs : Nat → Nat} (hI : s_inv u N kd fa fb T so xa xb xc F M rs) (hM : m_inv v N kd fa fb T so xa xb xc F M rs) (d d2 : Nat) (hd : d < N) (hd2 : d2 < N) (hxs1 : xs (ix + 1) = nI d) (hxs2 : xs (ix + 2) = nI d2) (hP : va_P D vwA (lW a o b kI kL kZ u f v) H) (hD : va_D (fun q => s.heap.size ≤ q) (lW a o b kI kL kZ u f v)) (hS : va_S (fun q => s.heap.size ≤ q) s.heap H locs) (hl : lv_has ls 7 [(0, .ref b0), (1, .ref (a 0)), (2, .ref (b 0)), (3, .ref o), (4, .int (nI ix))]) (hcs : cells + 1 ≤ R.cells ∧ slots + 6 ≤ R.slots) (kk : ∀ (u v : sU) (f : Nat → Int64) (H : Heap) (locs : List Loc) (ls : Array Slot), lw_J u v → va_P D vwA (lW a o b kI kL kZ u f v) H → va_D (fun q => s.heap.size ≤ q) (lW a o b kI kL kZ u f v) → va_S (fun q => s.heap.size ≤ q) s.heap H locs → lv_has ls 7 [(0, .ref b0), (1, .ref (a 0)), (2, .ref (b 0)), (3, .ref o), (4, .int (nI ix))] → W p l e R s m args below meth c H locs (cells + 1) (slots + 6) Q (F0 m 1197 ls [])) : W p l e R s m args below meth c H locs cells slots Q (F0 m 582 ls []) := by
  obtain ⟨hx, hb, hml, hown, hA, hXs, hbl, hK, hXX, hl0, hRf, hRl⟩ := h0
  have hbA : ¬ s.heap.size ≤ b0 := by omega
  refine lv_aload_n hx hb dL_law_582 rfl (lv_at hl 1 rfl) ?_
  refine lv_aload_n hx hb dL_law_583 rfl (lv_at hl 0 rfl) ?_
  refine lv_iload hx hb dL_law_584 (lv_at hl 4 rfl) ?_
  refine lv_iconst (v := nI 1) hx hb dL_law_586 (by decide +kernel) ?_
  refine tq_iadd hx hb dL_law_587 ?_
  refine va_sld hx hb hXs hbl hbA hS (vp_in_nI (by omega) (by omega)) dL_law_588 ?_
  refine tq_i (congrArg xs (nI_clamp (by omega))) ?_
  refine tq_i hxs1 ?_
  refine lv_aload_n hx hb dL_law_589 rfl (lv_at hl 0 rfl) ?_
  refine lv_iload hx hb dL_law_590 (lv_at hl 4 rfl) ?_
  refine lv_iconst (v := nI 2) hx hb dL_law_592 (by decide +kernel) ?_
  refine tq_iadd hx hb dL_law_593 ?_
  refine va_sld hx hb hXs hbl hbA hS (vp_in_nI (by omega) (by omega)) dL_law_594 ?_
  refine tq_i (congrArg xs (nI_clamp (by omega))) ?_
  refine tq_i hxs2 ?_
  refine lv_aload_n hx hb dL_law_595 rfl (lv_at hl 3 rfl) ?_
  refine kl_H ⟨hx, hb, hml, hown, hA⟩ (g_isBelow l D a o kI kL kZ u f N kd fa fb T so xa xb xc F M rs hI d d2 hd hd2) (kh_L_97 hA rfl rfl ⟨Nat.le_trans (Nat.le_of_ble_eq_true rfl) hRf, Nat.le_trans (Nat.le_of_ble_eq_true rfl) hRl⟩) hK hP hD hS rfl hl.1 (Nat.le_of_ble_eq_true rfl) ⟨by omega, by omega⟩ dL_law_596 rfl (fun r1 w1 H locs hw1 hP hD hS => ?_)
  obtain ⟨r0, hf0, hq⟩ := hw1.2
  refine tq_i hw1.1 ?_
  refine lv_istore (lv' := [(5, .int (nI 0)), (0, .ref b0), (1, .ref (a 0)), (2, .ref (b 0)), (3, .ref o), (4, .int (nI ix))]) hx hb dL_law_599 hl (by decide) rfl (fun ls hl => ?_)
  refine lv_aload_n hx hb dL_law_601 rfl (lv_at hl 3 rfl) ?_
  refine lv_aload_n hx hb dL_law_602 rfl (lv_at hl 1 rfl) ?_
  refine lv_iload hx hb dL_law_603 (lv_at hl 5 rfl) ?_
  refine lv_iconst (v := nI 1) hx hb dL_law_605 (by decide +kernel) ?_
  refine tq_iadd hx hb dL_law_606 ?_
  refine va_sld hx hb hXs hbl hbA hS (vp_in_nI (by omega) (by omega)) dL_law_607 ?_
  refine tq_i (congrArg xs (nI_clamp (by omega))) ?_
  refine tq_i hxs1 ?_
  refine lv_aload_n hx hb dL_law_608 rfl (lv_at hl 1 rfl) ?_
  refine lv_iload hx hb dL_law_609 (lv_at hl 5 rfl) ?_
  refine lv_iconst (v := nI 2) hx hb dL_law_611 (by decide +kernel) ?_
  refine tq_iadd hx hb dL_law_612 ?_
  refine va_sld hx hb hXs hbl hbA hS (vp_in_nI (by omega) (by omega)) dL_law_613 ?_
  refine tq_i (congrArg xs (nI_clamp (by omega))) ?_
  refine tq_i hxs2 ?_
  refine kl_M ⟨hx, hb, hml, hown, hA⟩ (w_isBelow l D b kI kL kZ v N kd fa fb T so xa xb xc F M rs hM d d2 hd hd2) (kw_L_99 hA rfl rfl ⟨Nat.le_trans (Nat.le_of_ble_eq_true rfl) hRf, Nat.le_trans (Nat.le_of_ble_eq_true rfl) hRl⟩) hK hP hD hS rfl hl.1 (Nat.le_of_ble_eq_true rfl) ⟨by omega, by omega⟩ dL_law_614 rfl (fun r2 v1 H locs hv1 hP hD hS => ?_)
  have hthr : v1.2.2 0 = 0 := hv1.2
  have hjj : r0 = r2 ∧ lw_J w1.1 v1 := j_eq hq hv1.1
  obtain ⟨b2, hb2⟩ : ∃ b2 : Bool, r2 = bI b2 := ⟨_, hv1.1.1⟩
  refine tq_i hb2 ?_
  refine lv_istore (lv' := [(6, .int (bI b2)), (5, .int (nI 0)), (0, .ref b0), (1, .ref (a 0)), (2, .ref (b 0)), (3, .ref o), (4, .int (nI ix))]) hx hb dL_law_617 hl (by decide) rfl (fun ls hl => ?_)
  refine lv_aload_n hx hb dL_law_619 rfl (lv_at hl 4 rfl) ?_
  refine kl_T ⟨hx, hb, hml, hown, hA⟩ (m_thrown l D b kI kL kZ v1) (kw_L_73 hA rfl rfl ⟨Nat.le_trans (Nat.le_of_ble_eq_true rfl) hRf, Nat.le_trans (Nat.le_of_ble_eq_true rfl) hRl⟩) hK hP hS rfl hl.1 (Nat.le_of_ble_eq_true rfl) ⟨by omega, by omega⟩ dL_law_620 rfl (fun H locs hP hS => ?_)
  refine tq_i (congrArg nI hthr) ?_
  refine lv_iload hx hb dL_law_623 (lv_at hl 1 rfl) ?_
  refine tq_eq hx hb dL_law_625 (tgt := 630) (by decide) (by omega) (by omega) (fun h625 => ?_) (fun h625 => ?_)
  · refine lv_iload hx hb dL_law_630 (lv_at hl 1 rfl) ?_
    refine tq_zne hx hb dL_law_632 (tgt := 654) (by decide) (by omega) (fun h632 => ?_) (fun h632 => ?_)
    · omega
    · refine lv_aload_n hx hb dL_law_635 rfl (lv_at hl 5 rfl) ?_
      refine lv_iconst (v := nI 0) hx hb dL_law_636 (by decide +kernel) ?_
      refine tq_lald hx hb hK hP 32 1 rfl rfl (by omega) (by omega) dL_law_637 ?_
      refine lv_iload hx hb dL_law_638 (lv_at hl 0 rfl) ?_
      refine tq_bf hx hb dL_law_640 (tgt := 647) (by decide) (fun h640 => ?_) (fun h640 => ?_)
      · refine lv_lconst (v := 0) hx hb dL_law_647 (by decide +kernel) ?_
        refine tq_leq hx hb dL_law_648 dL_law_649 (tgt := 654) (by decide) (fun h648 => ?_) (fun h648 => ?_)
        · refine lv_goto hx hb dL_law_654 (tgt := 1197) (by decide) ?_
          refine W.widen (k := cells + 1) (n := slots + 6) (by omega) (by omega) ?_
          exact kk w1.1 v1 w1.2 H locs ls hjj.2 hP hD hS (lv_sub hl [2, 3, 4, 5, 6] rfl)
        · exact absurd (by rw [hf0, hjj.1, hb2, h640]; rfl) h648
      · refine lv_lconst (v := 1) hx hb dL_law_643 (by decide +kernel) ?_
        refine lv_goto hx hb dL_law_644 (tgt := 648) (by decide) ?_
        refine tq_leq hx hb dL_law_648 dL_law_649 (tgt := 654) (by decide) (fun h648 => ?_) (fun h648 => ?_)
        · refine lv_goto hx hb dL_law_654 (tgt := 1197) (by decide) ?_
          refine W.widen (k := cells + 1) (n := slots + 6) (by omega) (by omega) ?_
          exact kk w1.1 v1 w1.2 H locs ls hjj.2 hP hD hS (lv_sub hl [2, 3, 4, 5, 6] rfl)
        · exact absurd (by rw [hf0, hjj.1, hb2, h640]; rfl) h648
  · omega
set_option maxHeartbeats 4000000 in
set_option maxRecDepth 100000 in
theorem lb_isBelow {p : Program} {l : Launch} {e : Env} {R : Room} {s : State} {m : MethodId} {args : Array Value} {below : List Frame} {meth : Method} {c : Code} {H : Heap} {locs : List Loc} {cells slots : Nat} {Q : State → Prop} {ls : Array Slot} {b0 L : Nat} {xs : Nat → Int32} {D : va_G} {kI kL kZ : ClassId} {a b : Nat → Nat} {o : Nat} {u v : sU} {f : Nat → Int64} {ix : Nat} (h0 : lw_C p l R s m args c b0 L xs D kI kL kZ) (hi : ix + 4 ≤ L) (hL : L ≤ 2048) {N : Nat} {kd fa fb : Nat → Nat} {T : Nat} {so xa xb xc : Nat → Nat} {F : Nat → Prop} {M : Nat} {rs : Nat → Nat} (hI : s_inv u N kd fa fb T so xa xb xc F M rs) (hM : m_inv v N kd fa fb T so xa xb xc F M rs) (hbad : (∀ k, k < N → ¬ (xs (ix + 1)) = nI k) ∨ (∀ k, k < N → ¬ (xs (ix + 2)) = nI k)) (hP : va_P D vwA (lW a o b kI kL kZ u f v) H) (hD : va_D (fun q => s.heap.size ≤ q) (lW a o b kI kL kZ u f v)) (hS : va_S (fun q => s.heap.size ≤ q) s.heap H locs) (hl : lv_has ls 7 [(0, .ref b0), (1, .ref (a 0)), (2, .ref (b 0)), (3, .ref o), (4, .int (nI ix))]) (hcs : cells + 1 ≤ R.cells ∧ slots + 6 ≤ R.slots) (kk : ∀ (u v : sU) (f : Nat → Int64) (H : Heap) (locs : List Loc) (ls : Array Slot), lw_J u v → va_P D vwA (lW a o b kI kL kZ u f v) H → va_D (fun q => s.heap.size ≤ q) (lW a o b kI kL kZ u f v) → va_S (fun q => s.heap.size ≤ q) s.heap H locs → lv_has ls 7 [(0, .ref b0), (1, .ref (a 0)), (2, .ref (b 0)), (3, .ref o), (4, .int (nI ix))] → W p l e R s m args below meth c H locs (cells + 1) (slots + 6) Q (F0 m 1197 ls [])) : W p l e R s m args below meth c H locs cells slots Q (F0 m 582 ls []) := by
  obtain ⟨hx, hb, hml, hown, hA, hXs, hbl, hK, hXX, hl0, hRf, hRl⟩ := h0
  have hbA : ¬ s.heap.size ≤ b0 := by omega
  have hn := inv_N hI
  have hbS : (∀ k, k < u.2.2 0 → ¬ (xs (ix + 1)) = nI k) ∨ (∀ k, k < u.2.2 0 → ¬ (xs (ix + 2)) = nI k) := by rw [hn.1]; exact hbad
  refine lv_aload_n hx hb dL_law_582 rfl (lv_at hl 1 rfl) ?_
  refine lv_aload_n hx hb dL_law_583 rfl (lv_at hl 0 rfl) ?_
  refine lv_iload hx hb dL_law_584 (lv_at hl 4 rfl) ?_
  refine lv_iconst (v := nI 1) hx hb dL_law_586 (by decide +kernel) ?_
  refine tq_iadd hx hb dL_law_587 ?_
  refine va_sld hx hb hXs hbl hbA hS (vp_in_nI (by omega) (by omega)) dL_law_588 ?_
  refine tq_i (congrArg xs (nI_clamp (by omega))) ?_
  refine lv_aload_n hx hb dL_law_589 rfl (lv_at hl 0 rfl) ?_
  refine lv_iload hx hb dL_law_590 (lv_at hl 4 rfl) ?_
  refine lv_iconst (v := nI 2) hx hb dL_law_592 (by decide +kernel) ?_
  refine tq_iadd hx hb dL_law_593 ?_
  refine va_sld hx hb hXs hbl hbA hS (vp_in_nI (by omega) (by omega)) dL_law_594 ?_
  refine tq_i (congrArg xs (nI_clamp (by omega))) ?_
  refine lv_aload_n hx hb dL_law_595 rfl (lv_at hl 3 rfl) ?_
  refine kl_B ⟨hx, hb, hml, hown, hA⟩ (b_isBelow l hl0 D a o kI kL kZ u f (xs (ix + 1)) (xs (ix + 2)) (by omega) hbS) (kh_L_97 hA rfl rfl ⟨Nat.le_trans (Nat.le_of_ble_eq_true rfl) hRf, Nat.le_trans (Nat.le_of_ble_eq_true rfl) hRl⟩) hK (fun U hU hW => hXX.at hS (fun q h1 h2 => by omega) hU hW) hP hD hS rfl hl.1 (Nat.le_of_ble_eq_true rfl) ⟨by omega, by omega⟩ dL_law_596 rfl (fun r1 w1 H locs hw1 hP hD hS => ?_)
  refine tq_i hw1.1 ?_
  refine lv_istore (lv' := [(5, .int (nI 1)), (0, .ref b0), (1, .ref (a 0)), (2, .ref (b 0)), (3, .ref o), (4, .int (nI ix))]) hx hb dL_law_599 hl (by decide) rfl (fun ls hl => ?_)
  refine lv_aload_n hx hb dL_law_601 rfl (lv_at hl 3 rfl) ?_
  refine lv_aload_n hx hb dL_law_602 rfl (lv_at hl 1 rfl) ?_
  refine lv_iload hx hb dL_law_603 (lv_at hl 5 rfl) ?_
  refine lv_iconst (v := nI 1) hx hb dL_law_605 (by decide +kernel) ?_
  refine tq_iadd hx hb dL_law_606 ?_
  refine va_sld hx hb hXs hbl hbA hS (vp_in_nI (by omega) (by omega)) dL_law_607 ?_
  refine tq_i (congrArg xs (nI_clamp (by omega))) ?_
  refine lv_aload_n hx hb dL_law_608 rfl (lv_at hl 1 rfl) ?_
  refine lv_iload hx hb dL_law_609 (lv_at hl 5 rfl) ?_
  refine lv_iconst (v := nI 2) hx hb dL_law_611 (by decide +kernel) ?_
  refine tq_iadd hx hb dL_law_612 ?_
  refine va_sld hx hb hXs hbl hbA hS (vp_in_nI (by omega) (by omega)) dL_law_613 ?_
  refine tq_i (congrArg xs (nI_clamp (by omega))) ?_
  refine kl_M ⟨hx, hb, hml, hown, hA⟩ (n_isBelow l D b kI kL kZ v N kd fa fb T so xa xb xc hM.1 (xs (ix + 1)) (xs (ix + 2)) hbad) (kw_L_99 hA rfl rfl ⟨Nat.le_trans (Nat.le_of_ble_eq_true rfl) hRf, Nat.le_trans (Nat.le_of_ble_eq_true rfl) hRl⟩) hK hP hD hS rfl hl.1 (Nat.le_of_ble_eq_true rfl) ⟨by omega, by omega⟩ dL_law_614 rfl (fun r2 v1 H locs hv1 hP hD hS => ?_)
  have hthr : v1.2.2 0 = 1 := by rw [hv1]; rfl
  have hjj : lw_J w1.1 v1 := by
    rw [hw1.2, hv1]
    exact ⟨_, _, _, _, _, _, _, _, _, _, _, _, hI, minv_thr hM⟩
  refine lv_istore (lv' := [(6, .int r2), (5, .int (nI 1)), (0, .ref b0), (1, .ref (a 0)), (2, .ref (b 0)), (3, .ref o), (4, .int (nI ix))]) hx hb dL_law_617 hl (by decide) rfl (fun ls hl => ?_)
  refine lv_aload_n hx hb dL_law_619 rfl (lv_at hl 4 rfl) ?_
  refine kl_T ⟨hx, hb, hml, hown, hA⟩ (m_thrown l D b kI kL kZ v1) (kw_L_73 hA rfl rfl ⟨Nat.le_trans (Nat.le_of_ble_eq_true rfl) hRf, Nat.le_trans (Nat.le_of_ble_eq_true rfl) hRl⟩) hK hP hS rfl hl.1 (Nat.le_of_ble_eq_true rfl) ⟨by omega, by omega⟩ dL_law_620 rfl (fun H locs hP hS => ?_)
  refine tq_i (congrArg nI hthr) ?_
  refine lv_iload hx hb dL_law_623 (lv_at hl 1 rfl) ?_
  refine tq_eq hx hb dL_law_625 (tgt := 630) (by decide) (by omega) (by omega) (fun h625 => ?_) (fun h625 => ?_)
  · refine lv_iload hx hb dL_law_630 (lv_at hl 1 rfl) ?_
    refine tq_zne hx hb dL_law_632 (tgt := 654) (by decide) (by omega) (fun h632 => ?_) (fun h632 => ?_)
    · refine lv_goto hx hb dL_law_654 (tgt := 1197) (by decide) ?_
      exact kk w1.1 v1 w1.2 H locs ls hjj hP hD hS (lv_sub hl [2, 3, 4, 5, 6] rfl)
    · omega
  · omega
theorem lc_8 {p : Program} {l : Launch} {e : Env} {R : Room} {s : State} {m : MethodId} {args : Array Value} {below : List Frame} {meth : Method} {c : Code} {H : Heap} {locs : List Loc} {cells slots : Nat} {Q : State → Prop} {ls : Array Slot} {b0 L : Nat} {xs : Nat → Int32} {D : va_G} {kI kL kZ : ClassId} {a b : Nat → Nat} {o : Nat} {u v : sU} {f : Nat → Int64} {ix : Nat} (h0 : lw_C p l R s m args c b0 L xs D kI kL kZ) (hi : ix + 4 ≤ L) (hL : L ≤ 2048) (hJ : lw_J u v) (hP : va_P D vwA (lW a o b kI kL kZ u f v) H) (hD : va_D (fun q => s.heap.size ≤ q) (lW a o b kI kL kZ u f v)) (hS : va_S (fun q => s.heap.size ≤ q) s.heap H locs) (hl : lv_has ls 7 [(0, .ref b0), (1, .ref (a 0)), (2, .ref (b 0)), (3, .ref o), (4, .int (nI ix))]) (hcs : cells + 1 ≤ R.cells ∧ slots + 6 ≤ R.slots) (kk : ∀ (u v : sU) (f : Nat → Int64) (H : Heap) (locs : List Loc) (ls : Array Slot), lw_J u v → va_P D vwA (lW a o b kI kL kZ u f v) H → va_D (fun q => s.heap.size ≤ q) (lW a o b kI kL kZ u f v) → va_S (fun q => s.heap.size ≤ q) s.heap H locs → lv_has ls 7 [(0, .ref b0), (1, .ref (a 0)), (2, .ref (b 0)), (3, .ref o), (4, .int (nI ix))] → W p l e R s m args below meth c H locs (cells + 1) (slots + 6) Q (F0 m 1197 ls [])) : W p l e R s m args below meth c H locs cells slots Q (F0 m 582 ls []) := by
  obtain ⟨N, kd, fa, fb, T, so, xa, xb, xc, F, M, rs, hI, hM⟩ := hJ
  by_cases c1 : ∃ k, k < N ∧ xs (ix + 1) = nI k
  · obtain ⟨d, e1, f1⟩ := c1
    by_cases c2 : ∃ k, k < N ∧ xs (ix + 2) = nI k
    · obtain ⟨d2, e2, f2⟩ := c2
      exact lg_isBelow h0 hi hL hI hM d d2 e1 e2 f1 f2 hP hD hS hl hcs kk
    · exact lb_isBelow h0 hi hL hI hM (Or.inr ((fun k hk z => c2 ⟨k, hk, z⟩))) hP hD hS hl hcs kk
  · exact lb_isBelow h0 hi hL hI hM (Or.inl (fun k hk z => c1 ⟨k, hk, z⟩)) hP hD hS hl hcs kk
set_option maxHeartbeats 4000000 in
set_option maxRecDepth 100000 in
theorem lg_supers {p : Program} {l : Launch} {e : Env} {R : Room} {s : State} {m : MethodId} {args : Array Value} {below : List Frame} {meth : Method} {c : Code} {H : Heap} {locs : List Loc} {cells slots : Nat} {Q : State → Prop} {ls : Array Slot} {b0 L : Nat} {xs : Nat → Int32} {D : va_G} {kI kL kZ : ClassId} {a b : Nat → Nat} {o : Nat} {u v : sU} {f : Nat → Int64} {ix : Nat} (h0 : lw_C p l R s m args c b0 L xs D kI kL kZ) (hi : ix + 4 ≤ L) (hL : L ≤ 2048) {N : Nat} {kd fa fb : Nat → Nat} {T : Nat} {so xa xb xc : Nat → Nat} {F : Nat → Prop} {M : Nat} {rs : Nat → Nat} (hI : s_inv u N kd fa fb T so xa xb xc F M rs) (hM : m_inv v N kd fa fb T so xa xb xc F M rs) (d : Nat) (hd : d < N) (hxs1 : xs (ix + 1) = nI d) (hP : va_P D vwA (lW a o b kI kL kZ u f v) H) (hD : va_D (fun q => s.heap.size ≤ q) (lW a o b kI kL kZ u f v)) (hS : va_S (fun q => s.heap.size ≤ q) s.heap H locs) (hl : lv_has ls 7 [(0, .ref b0), (1, .ref (a 0)), (2, .ref (b 0)), (3, .ref o), (4, .int (nI ix))]) (hcs : cells + 1 ≤ R.cells ∧ slots + 6 ≤ R.slots) (kk : ∀ (u v : sU) (f : Nat → Int64) (H : Heap) (locs : List Loc) (ls : Array Slot), lw_J u v → va_P D vwA (lW a o b kI kL kZ u f v) H → va_D (fun q => s.heap.size ≤ q) (lW a o b kI kL kZ u f v) → va_S (fun q => s.heap.size ≤ q) s.heap H locs → lv_has ls 7 [(0, .ref b0), (1, .ref (a 0)), (2, .ref (b 0)), (3, .ref o), (4, .int (nI ix))] → W p l e R s m args below meth c H locs (cells + 1) (slots + 6) Q (F0 m 1197 ls [])) : W p l e R s m args below meth c H locs cells slots Q (F0 m 657 ls []) := by
  obtain ⟨hx, hb, hml, hown, hA, hXs, hbl, hK, hXX, hl0, hRf, hRl⟩ := h0
  have hbA : ¬ s.heap.size ≤ b0 := by omega
  refine lv_aload_n hx hb dL_law_657 rfl (lv_at hl 1 rfl) ?_
  refine lv_aload_n hx hb dL_law_658 rfl (lv_at hl 0 rfl) ?_
  refine lv_iload hx hb dL_law_659 (lv_at hl 4 rfl) ?_
  refine lv_iconst (v := nI 1) hx hb dL_law_661 (by decide +kernel) ?_
  refine tq_iadd hx hb dL_law_662 ?_
  refine va_sld hx hb hXs hbl hbA hS (vp_in_nI (by omega) (by omega)) dL_law_663 ?_
  refine tq_i (congrArg xs (nI_clamp (by omega))) ?_
  refine tq_i hxs1 ?_
  refine lv_aload_n hx hb dL_law_664 rfl (lv_at hl 3 rfl) ?_
  refine kl_H ⟨hx, hb, hml, hown, hA⟩ (g_supers l D a o kI kL kZ u f N kd fa fb T so xa xb xc F M rs hI d hd) (kh_L_100 hA rfl rfl ⟨Nat.le_trans (Nat.le_of_ble_eq_true rfl) hRf, Nat.le_trans (Nat.le_of_ble_eq_true rfl) hRl⟩) hK hP hD hS rfl hl.1 (Nat.le_of_ble_eq_true rfl) ⟨by omega, by omega⟩ dL_law_665 rfl (fun r1 w1 H locs hw1 hP hD hS => ?_)
  obtain ⟨r0, hf0, hq⟩ := hw1.2
  refine tq_i hw1.1 ?_
  refine lv_istore (lv' := [(5, .int (nI 0)), (0, .ref b0), (1, .ref (a 0)), (2, .ref (b 0)), (3, .ref o), (4, .int (nI ix))]) hx hb dL_law_668 hl (by decide) rfl (fun ls hl => ?_)
  refine lv_aload_n hx hb dL_law_670 rfl (lv_at hl 3 rfl) ?_
  refine lv_aload_n hx hb dL_law_671 rfl (lv_at hl 1 rfl) ?_
  refine lv_iload hx hb dL_law_672 (lv_at hl 5 rfl) ?_
  refine lv_iconst (v := nI 1) hx hb dL_law_674 (by decide +kernel) ?_
  refine tq_iadd hx hb dL_law_675 ?_
  refine va_sld hx hb hXs hbl hbA hS (vp_in_nI (by omega) (by omega)) dL_law_676 ?_
  refine tq_i (congrArg xs (nI_clamp (by omega))) ?_
  refine tq_i hxs1 ?_
  refine kl_M ⟨hx, hb, hml, hown, hA⟩ (w_supers l D b kI kL kZ v N kd fa fb T so xa xb xc F M rs hM d hd) (kw_L_103 hA rfl rfl ⟨Nat.le_trans (Nat.le_of_ble_eq_true rfl) hRf, Nat.le_trans (Nat.le_of_ble_eq_true rfl) hRl⟩) hK hP hD hS rfl hl.1 (Nat.le_of_ble_eq_true rfl) ⟨by omega, by omega⟩ dL_law_677 rfl (fun r2 v1 H locs hv1 hP hD hS => ?_)
  have hthr : v1.2.2 0 = 0 := hv1.2
  have hjj : r0 = r2 ∧ lw_J w1.1 v1 := j_eq hq hv1.1
  refine lv_istore (lv' := [(6, .int r2), (5, .int (nI 0)), (0, .ref b0), (1, .ref (a 0)), (2, .ref (b 0)), (3, .ref o), (4, .int (nI ix))]) hx hb dL_law_680 hl (by decide) rfl (fun ls hl => ?_)
  refine lv_aload_n hx hb dL_law_682 rfl (lv_at hl 4 rfl) ?_
  refine kl_T ⟨hx, hb, hml, hown, hA⟩ (m_thrown l D b kI kL kZ v1) (kw_L_73 hA rfl rfl ⟨Nat.le_trans (Nat.le_of_ble_eq_true rfl) hRf, Nat.le_trans (Nat.le_of_ble_eq_true rfl) hRl⟩) hK hP hS rfl hl.1 (Nat.le_of_ble_eq_true rfl) ⟨by omega, by omega⟩ dL_law_683 rfl (fun H locs hP hS => ?_)
  refine tq_i (congrArg nI hthr) ?_
  refine lv_iload hx hb dL_law_686 (lv_at hl 1 rfl) ?_
  refine tq_eq hx hb dL_law_688 (tgt := 693) (by decide) (by omega) (by omega) (fun h688 => ?_) (fun h688 => ?_)
  · refine lv_iload hx hb dL_law_693 (lv_at hl 1 rfl) ?_
    refine tq_zne hx hb dL_law_695 (tgt := 710) (by decide) (by omega) (fun h695 => ?_) (fun h695 => ?_)
    · omega
    · refine lv_aload_n hx hb dL_law_698 rfl (lv_at hl 5 rfl) ?_
      refine lv_iconst (v := nI 0) hx hb dL_law_699 (by decide +kernel) ?_
      refine tq_lald hx hb hK hP 32 1 rfl rfl (by omega) (by omega) dL_law_700 ?_
      refine lv_iload hx hb dL_law_701 (lv_at hl 0 rfl) ?_
      refine lv_i2l hx hb dL_law_703 rfl ?_
      refine tq_leq hx hb dL_law_704 dL_law_705 (tgt := 710) (by decide) (fun h704 => ?_) (fun h704 => ?_)
      · refine lv_goto hx hb dL_law_710 (tgt := 1197) (by decide) ?_
        refine W.widen (k := cells + 1) (n := slots + 6) (by omega) (by omega) ?_
        exact kk w1.1 v1 w1.2 H locs ls hjj.2 hP hD hS (lv_sub hl [2, 3, 4, 5, 6] rfl)
      · exact absurd (hf0.trans (congrArg Int32.toInt64 hjj.1)) h704
  · omega
set_option maxHeartbeats 4000000 in
set_option maxRecDepth 100000 in
theorem lb_supers {p : Program} {l : Launch} {e : Env} {R : Room} {s : State} {m : MethodId} {args : Array Value} {below : List Frame} {meth : Method} {c : Code} {H : Heap} {locs : List Loc} {cells slots : Nat} {Q : State → Prop} {ls : Array Slot} {b0 L : Nat} {xs : Nat → Int32} {D : va_G} {kI kL kZ : ClassId} {a b : Nat → Nat} {o : Nat} {u v : sU} {f : Nat → Int64} {ix : Nat} (h0 : lw_C p l R s m args c b0 L xs D kI kL kZ) (hi : ix + 4 ≤ L) (hL : L ≤ 2048) {N : Nat} {kd fa fb : Nat → Nat} {T : Nat} {so xa xb xc : Nat → Nat} {F : Nat → Prop} {M : Nat} {rs : Nat → Nat} (hI : s_inv u N kd fa fb T so xa xb xc F M rs) (hM : m_inv v N kd fa fb T so xa xb xc F M rs) (hbad : (∀ k, k < N → ¬ (xs (ix + 1)) = nI k)) (hP : va_P D vwA (lW a o b kI kL kZ u f v) H) (hD : va_D (fun q => s.heap.size ≤ q) (lW a o b kI kL kZ u f v)) (hS : va_S (fun q => s.heap.size ≤ q) s.heap H locs) (hl : lv_has ls 7 [(0, .ref b0), (1, .ref (a 0)), (2, .ref (b 0)), (3, .ref o), (4, .int (nI ix))]) (hcs : cells + 1 ≤ R.cells ∧ slots + 6 ≤ R.slots) (kk : ∀ (u v : sU) (f : Nat → Int64) (H : Heap) (locs : List Loc) (ls : Array Slot), lw_J u v → va_P D vwA (lW a o b kI kL kZ u f v) H → va_D (fun q => s.heap.size ≤ q) (lW a o b kI kL kZ u f v) → va_S (fun q => s.heap.size ≤ q) s.heap H locs → lv_has ls 7 [(0, .ref b0), (1, .ref (a 0)), (2, .ref (b 0)), (3, .ref o), (4, .int (nI ix))] → W p l e R s m args below meth c H locs (cells + 1) (slots + 6) Q (F0 m 1197 ls [])) : W p l e R s m args below meth c H locs cells slots Q (F0 m 657 ls []) := by
  obtain ⟨hx, hb, hml, hown, hA, hXs, hbl, hK, hXX, hl0, hRf, hRl⟩ := h0
  have hbA : ¬ s.heap.size ≤ b0 := by omega
  have hn := inv_N hI
  have hbS : (∀ k, k < u.2.2 0 → ¬ (xs (ix + 1)) = nI k) := by rw [hn.1]; exact hbad
  refine lv_aload_n hx hb dL_law_657 rfl (lv_at hl 1 rfl) ?_
  refine lv_aload_n hx hb dL_law_658 rfl (lv_at hl 0 rfl) ?_
  refine lv_iload hx hb dL_law_659 (lv_at hl 4 rfl) ?_
  refine lv_iconst (v := nI 1) hx hb dL_law_661 (by decide +kernel) ?_
  refine tq_iadd hx hb dL_law_662 ?_
  refine va_sld hx hb hXs hbl hbA hS (vp_in_nI (by omega) (by omega)) dL_law_663 ?_
  refine tq_i (congrArg xs (nI_clamp (by omega))) ?_
  refine lv_aload_n hx hb dL_law_664 rfl (lv_at hl 3 rfl) ?_
  refine kl_B ⟨hx, hb, hml, hown, hA⟩ (b_supers l hl0 D a o kI kL kZ u f (xs (ix + 1)) (by omega) hbS) (kh_L_100 hA rfl rfl ⟨Nat.le_trans (Nat.le_of_ble_eq_true rfl) hRf, Nat.le_trans (Nat.le_of_ble_eq_true rfl) hRl⟩) hK (fun U hU hW => hXX.at hS (fun q h1 h2 => by omega) hU hW) hP hD hS rfl hl.1 (Nat.le_of_ble_eq_true rfl) ⟨by omega, by omega⟩ dL_law_665 rfl (fun r1 w1 H locs hw1 hP hD hS => ?_)
  refine tq_i hw1.1 ?_
  refine lv_istore (lv' := [(5, .int (nI 1)), (0, .ref b0), (1, .ref (a 0)), (2, .ref (b 0)), (3, .ref o), (4, .int (nI ix))]) hx hb dL_law_668 hl (by decide) rfl (fun ls hl => ?_)
  refine lv_aload_n hx hb dL_law_670 rfl (lv_at hl 3 rfl) ?_
  refine lv_aload_n hx hb dL_law_671 rfl (lv_at hl 1 rfl) ?_
  refine lv_iload hx hb dL_law_672 (lv_at hl 5 rfl) ?_
  refine lv_iconst (v := nI 1) hx hb dL_law_674 (by decide +kernel) ?_
  refine tq_iadd hx hb dL_law_675 ?_
  refine va_sld hx hb hXs hbl hbA hS (vp_in_nI (by omega) (by omega)) dL_law_676 ?_
  refine tq_i (congrArg xs (nI_clamp (by omega))) ?_
  refine kl_M ⟨hx, hb, hml, hown, hA⟩ (n_supers l D b kI kL kZ v N kd fa fb T so xa xb xc hM.1 (xs (ix + 1)) hbad) (kw_L_103 hA rfl rfl ⟨Nat.le_trans (Nat.le_of_ble_eq_true rfl) hRf, Nat.le_trans (Nat.le_of_ble_eq_true rfl) hRl⟩) hK hP hD hS rfl hl.1 (Nat.le_of_ble_eq_true rfl) ⟨by omega, by omega⟩ dL_law_677 rfl (fun r2 v1 H locs hv1 hP hD hS => ?_)
  have hthr : v1.2.2 0 = 1 := by rw [hv1]; rfl
  have hjj : lw_J w1.1 v1 := by
    rw [hw1.2, hv1]
    exact ⟨_, _, _, _, _, _, _, _, _, _, _, _, hI, minv_thr hM⟩
  refine lv_istore (lv' := [(6, .int r2), (5, .int (nI 1)), (0, .ref b0), (1, .ref (a 0)), (2, .ref (b 0)), (3, .ref o), (4, .int (nI ix))]) hx hb dL_law_680 hl (by decide) rfl (fun ls hl => ?_)
  refine lv_aload_n hx hb dL_law_682 rfl (lv_at hl 4 rfl) ?_
  refine kl_T ⟨hx, hb, hml, hown, hA⟩ (m_thrown l D b kI kL kZ v1) (kw_L_73 hA rfl rfl ⟨Nat.le_trans (Nat.le_of_ble_eq_true rfl) hRf, Nat.le_trans (Nat.le_of_ble_eq_true rfl) hRl⟩) hK hP hS rfl hl.1 (Nat.le_of_ble_eq_true rfl) ⟨by omega, by omega⟩ dL_law_683 rfl (fun H locs hP hS => ?_)
  refine tq_i (congrArg nI hthr) ?_
  refine lv_iload hx hb dL_law_686 (lv_at hl 1 rfl) ?_
  refine tq_eq hx hb dL_law_688 (tgt := 693) (by decide) (by omega) (by omega) (fun h688 => ?_) (fun h688 => ?_)
  · refine lv_iload hx hb dL_law_693 (lv_at hl 1 rfl) ?_
    refine tq_zne hx hb dL_law_695 (tgt := 710) (by decide) (by omega) (fun h695 => ?_) (fun h695 => ?_)
    · refine lv_goto hx hb dL_law_710 (tgt := 1197) (by decide) ?_
      exact kk w1.1 v1 w1.2 H locs ls hjj hP hD hS (lv_sub hl [2, 3, 4, 5, 6] rfl)
    · omega
  · omega
theorem lc_9 {p : Program} {l : Launch} {e : Env} {R : Room} {s : State} {m : MethodId} {args : Array Value} {below : List Frame} {meth : Method} {c : Code} {H : Heap} {locs : List Loc} {cells slots : Nat} {Q : State → Prop} {ls : Array Slot} {b0 L : Nat} {xs : Nat → Int32} {D : va_G} {kI kL kZ : ClassId} {a b : Nat → Nat} {o : Nat} {u v : sU} {f : Nat → Int64} {ix : Nat} (h0 : lw_C p l R s m args c b0 L xs D kI kL kZ) (hi : ix + 4 ≤ L) (hL : L ≤ 2048) (hJ : lw_J u v) (hP : va_P D vwA (lW a o b kI kL kZ u f v) H) (hD : va_D (fun q => s.heap.size ≤ q) (lW a o b kI kL kZ u f v)) (hS : va_S (fun q => s.heap.size ≤ q) s.heap H locs) (hl : lv_has ls 7 [(0, .ref b0), (1, .ref (a 0)), (2, .ref (b 0)), (3, .ref o), (4, .int (nI ix))]) (hcs : cells + 1 ≤ R.cells ∧ slots + 6 ≤ R.slots) (kk : ∀ (u v : sU) (f : Nat → Int64) (H : Heap) (locs : List Loc) (ls : Array Slot), lw_J u v → va_P D vwA (lW a o b kI kL kZ u f v) H → va_D (fun q => s.heap.size ≤ q) (lW a o b kI kL kZ u f v) → va_S (fun q => s.heap.size ≤ q) s.heap H locs → lv_has ls 7 [(0, .ref b0), (1, .ref (a 0)), (2, .ref (b 0)), (3, .ref o), (4, .int (nI ix))] → W p l e R s m args below meth c H locs (cells + 1) (slots + 6) Q (F0 m 1197 ls [])) : W p l e R s m args below meth c H locs cells slots Q (F0 m 657 ls []) := by
  obtain ⟨N, kd, fa, fb, T, so, xa, xb, xc, F, M, rs, hI, hM⟩ := hJ
  by_cases c1 : ∃ k, k < N ∧ xs (ix + 1) = nI k
  · obtain ⟨d, e1, f1⟩ := c1
    exact lg_supers h0 hi hL hI hM d e1 f1 hP hD hS hl hcs kk
  · exact lb_supers h0 hi hL hI hM ((fun k hk z => c1 ⟨k, hk, z⟩)) hP hD hS hl hcs kk
