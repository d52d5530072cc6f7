/-! The law's cases. Written by wip/whole/gen/genL2.py. -/
set_option maxHeartbeats 4000000 in
set_option maxRecDepth 100000 in
theorem lg_sup {p : Program} {l : Launch} {e : Env} {R : Room} {s : State} {m : MethodId} {args : Array Value} {below : List Frame} {meth : Method} {c : Code} {H : Heap} {locs : List Loc} {cells slots : Nat} {Q : State → Prop} {ls : Array Slot} {b0 L : Nat} {xs : Nat → Int32} {D : va_G} {kI kL kZ : ClassId} {a b : Nat → Nat} {o : Nat} {u v : sU} {f : Nat → Int64} {ix : Nat} (h0 : lw_C p l R s m args c b0 L xs D kI kL kZ) (hi : ix + 4 ≤ L) (hL : L ≤ 2048) {N : Nat} {kd fa fb : Nat → Nat} {T : Nat} {so xa xb xc : Nat → Nat} {F : Nat → Prop} {M : Nat} {rs : Nat → Nat} (hI : s_inv u N kd fa fb T so xa xb xc F M rs) (hM : m_inv v N kd fa fb T so xa xb xc F M rs) (d : Nat) (hd : d < N) (hxs1 : xs (ix + 1) = nI d) (hP : va_P D vwA (lW a o b kI kL kZ u f v) H) (hD : va_D (fun q => s.heap.size ≤ q) (lW a o b kI kL kZ u f v)) (hS : va_S (fun q => s.heap.size ≤ q) s.heap H locs) (hl : lv_has ls 7 [(0, .ref b0), (1, .ref (a 0)), (2, .ref (b 0)), (3, .ref o), (4, .int (nI ix))]) (hcs : cells + 1 ≤ R.cells ∧ slots + 6 ≤ R.slots) (kk : ∀ (u v : sU) (f : Nat → Int64) (H : Heap) (locs : List Loc) (ls : Array Slot), lw_J u v → va_P D vwA (lW a o b kI kL kZ u f v) H → va_D (fun q => s.heap.size ≤ q) (lW a o b kI kL kZ u f v) → va_S (fun q => s.heap.size ≤ q) s.heap H locs → lv_has ls 7 [(0, .ref b0), (1, .ref (a 0)), (2, .ref (b 0)), (3, .ref o), (4, .int (nI ix))] → W p l e R s m args below meth c H locs (cells + 1) (slots + 6) Q (F0 m 1197 ls [])) : W p l e R s m args below meth c H locs cells slots Q (F0 m 713 ls []) := by
  obtain ⟨hx, hb, hml, hown, hA, hXs, hbl, hK, hXX, hl0, hRf, hRl⟩ := h0
  have hbA : ¬ s.heap.size ≤ b0 := by omega
  refine lv_aload_n hx hb dL_law_713 rfl (lv_at hl 1 rfl) ?_
  refine lv_aload_n hx hb dL_law_714 rfl (lv_at hl 0 rfl) ?_
  refine lv_iload hx hb dL_law_715 (lv_at hl 4 rfl) ?_
  refine lv_iconst (v := nI 1) hx hb dL_law_717 (by decide +kernel) ?_
  refine tq_iadd hx hb dL_law_718 ?_
  refine va_sld hx hb hXs hbl hbA hS (vp_in_nI (by omega) (by omega)) dL_law_719 ?_
  refine tq_i (congrArg xs (nI_clamp (by omega))) ?_
  refine tq_i hxs1 ?_
  refine lv_aload_n hx hb dL_law_720 rfl (lv_at hl 0 rfl) ?_
  refine lv_iload hx hb dL_law_721 (lv_at hl 4 rfl) ?_
  refine lv_iconst (v := nI 2) hx hb dL_law_723 (by decide +kernel) ?_
  refine tq_iadd hx hb dL_law_724 ?_
  refine va_sld hx hb hXs hbl hbA hS (vp_in_nI (by omega) (by omega)) dL_law_725 ?_
  refine tq_i (congrArg xs (nI_clamp (by omega))) ?_
  refine lv_aload_n hx hb dL_law_726 rfl (lv_at hl 3 rfl) ?_
  refine kl_H ⟨hx, hb, hml, hown, hA⟩ (g_sup l D a o kI kL kZ u f N kd fa fb T so xa xb xc F M rs hI d (xs (ix + 2)) hd) (kh_L_104 hA rfl rfl ⟨Nat.le_trans (Nat.le_of_ble_eq_true rfl) hRf, Nat.le_trans (Nat.le_of_ble_eq_true rfl) hRl⟩) hK hP hD hS rfl hl.1 (Nat.le_of_ble_eq_true rfl) ⟨by omega, by omega⟩ dL_law_727 rfl (fun r1 w1 H locs hw1 hP hD hS => ?_)
  obtain ⟨r0, hf0, hq⟩ := hw1.2
  refine tq_i hw1.1 ?_
  refine lv_istore (lv' := [(5, .int (nI 0)), (0, .ref b0), (1, .ref (a 0)), (2, .ref (b 0)), (3, .ref o), (4, .int (nI ix))]) hx hb dL_law_730 hl (by decide) rfl (fun ls hl => ?_)
  refine lv_aload_n hx hb dL_law_732 rfl (lv_at hl 3 rfl) ?_
  refine lv_aload_n hx hb dL_law_733 rfl (lv_at hl 1 rfl) ?_
  refine lv_iload hx hb dL_law_734 (lv_at hl 5 rfl) ?_
  refine lv_iconst (v := nI 1) hx hb dL_law_736 (by decide +kernel) ?_
  refine tq_iadd hx hb dL_law_737 ?_
  refine va_sld hx hb hXs hbl hbA hS (vp_in_nI (by omega) (by omega)) dL_law_738 ?_
  refine tq_i (congrArg xs (nI_clamp (by omega))) ?_
  refine tq_i hxs1 ?_
  refine lv_aload_n hx hb dL_law_739 rfl (lv_at hl 1 rfl) ?_
  refine lv_iload hx hb dL_law_740 (lv_at hl 5 rfl) ?_
  refine lv_iconst (v := nI 2) hx hb dL_law_742 (by decide +kernel) ?_
  refine tq_iadd hx hb dL_law_743 ?_
  refine va_sld hx hb hXs hbl hbA hS (vp_in_nI (by omega) (by omega)) dL_law_744 ?_
  refine tq_i (congrArg xs (nI_clamp (by omega))) ?_
  refine kl_M ⟨hx, hb, hml, hown, hA⟩ (w_sup l D b kI kL kZ v N kd fa fb T so xa xb xc F M rs hM d (xs (ix + 2)) hd) (kw_L_106 hA rfl rfl ⟨Nat.le_trans (Nat.le_of_ble_eq_true rfl) hRf, Nat.le_trans (Nat.le_of_ble_eq_true rfl) hRl⟩) hK hP hD hS rfl hl.1 (Nat.le_of_ble_eq_true rfl) ⟨by omega, by omega⟩ dL_law_745 rfl (fun r2 v1 H locs hv1 hP hD hS => ?_)
  have hthr : v1.2.2 0 = 0 := hv1.2
  have hjj : r0 = r2 ∧ lw_J w1.1 v1 := j_sup (inv_N hI).2.2.1 hq hv1.1
  refine lv_istore (lv' := [(6, .int r2), (5, .int (nI 0)), (0, .ref b0), (1, .ref (a 0)), (2, .ref (b 0)), (3, .ref o), (4, .int (nI ix))]) hx hb dL_law_748 hl (by decide) rfl (fun ls hl => ?_)
  refine lv_aload_n hx hb dL_law_750 rfl (lv_at hl 4 rfl) ?_
  refine kl_T ⟨hx, hb, hml, hown, hA⟩ (m_thrown l D b kI kL kZ v1) (kw_L_73 hA rfl rfl ⟨Nat.le_trans (Nat.le_of_ble_eq_true rfl) hRf, Nat.le_trans (Nat.le_of_ble_eq_true rfl) hRl⟩) hK hP hS rfl hl.1 (Nat.le_of_ble_eq_true rfl) ⟨by omega, by omega⟩ dL_law_751 rfl (fun H locs hP hS => ?_)
  refine tq_i (congrArg nI hthr) ?_
  refine lv_iload hx hb dL_law_754 (lv_at hl 1 rfl) ?_
  refine tq_eq hx hb dL_law_756 (tgt := 761) (by decide) (by omega) (by omega) (fun h756 => ?_) (fun h756 => ?_)
  · refine lv_iload hx hb dL_law_761 (lv_at hl 1 rfl) ?_
    refine tq_zne hx hb dL_law_763 (tgt := 778) (by decide) (by omega) (fun h763 => ?_) (fun h763 => ?_)
    · omega
    · refine lv_aload_n hx hb dL_law_766 rfl (lv_at hl 5 rfl) ?_
      refine lv_iconst (v := nI 0) hx hb dL_law_767 (by decide +kernel) ?_
      refine tq_lald hx hb hK hP 32 1 rfl rfl (by omega) (by omega) dL_law_768 ?_
      refine lv_iload hx hb dL_law_769 (lv_at hl 0 rfl) ?_
      refine lv_i2l hx hb dL_law_771 rfl ?_
      refine tq_leq hx hb dL_law_772 dL_law_773 (tgt := 778) (by decide) (fun h772 => ?_) (fun h772 => ?_)
      · refine lv_goto hx hb dL_law_778 (tgt := 1197) (by decide) ?_
        refine W.widen (k := cells + 1) (n := slots + 6) (by omega) (by omega) ?_
        exact kk w1.1 v1 w1.2 H locs ls hjj.2 hP hD hS (lv_sub hl [2, 3, 4, 5, 6] rfl)
      · exact absurd (hf0.trans (congrArg Int32.toInt64 hjj.1)) h772
  · omega
set_option maxHeartbeats 4000000 in
set_option maxRecDepth 100000 in
theorem lb_sup {p : Program} {l : Launch} {e : Env} {R : Room} {s : State} {m : MethodId} {args : Array Value} {below : List Frame} {meth : Method} {c : Code} {H : Heap} {locs : List Loc} {cells slots : Nat} {Q : State → Prop} {ls : Array Slot} {b0 L : Nat} {xs : Nat → Int32} {D : va_G} {kI kL kZ : ClassId} {a b : Nat → Nat} {o : Nat} {u v : sU} {f : Nat → Int64} {ix : Nat} (h0 : lw_C p l R s m args c b0 L xs D kI kL kZ) (hi : ix + 4 ≤ L) (hL : L ≤ 2048) {N : Nat} {kd fa fb : Nat → Nat} {T : Nat} {so xa xb xc : Nat → Nat} {F : Nat → Prop} {M : Nat} {rs : Nat → Nat} (hI : s_inv u N kd fa fb T so xa xb xc F M rs) (hM : m_inv v N kd fa fb T so xa xb xc F M rs) (hbad : (∀ k, k < N → ¬ (xs (ix + 1)) = nI k)) (hP : va_P D vwA (lW a o b kI kL kZ u f v) H) (hD : va_D (fun q => s.heap.size ≤ q) (lW a o b kI kL kZ u f v)) (hS : va_S (fun q => s.heap.size ≤ q) s.heap H locs) (hl : lv_has ls 7 [(0, .ref b0), (1, .ref (a 0)), (2, .ref (b 0)), (3, .ref o), (4, .int (nI ix))]) (hcs : cells + 1 ≤ R.cells ∧ slots + 6 ≤ R.slots) (kk : ∀ (u v : sU) (f : Nat → Int64) (H : Heap) (locs : List Loc) (ls : Array Slot), lw_J u v → va_P D vwA (lW a o b kI kL kZ u f v) H → va_D (fun q => s.heap.size ≤ q) (lW a o b kI kL kZ u f v) → va_S (fun q => s.heap.size ≤ q) s.heap H locs → lv_has ls 7 [(0, .ref b0), (1, .ref (a 0)), (2, .ref (b 0)), (3, .ref o), (4, .int (nI ix))] → W p l e R s m args below meth c H locs (cells + 1) (slots + 6) Q (F0 m 1197 ls [])) : W p l e R s m args below meth c H locs cells slots Q (F0 m 713 ls []) := by
  obtain ⟨hx, hb, hml, hown, hA, hXs, hbl, hK, hXX, hl0, hRf, hRl⟩ := h0
  have hbA : ¬ s.heap.size ≤ b0 := by omega
  have hn := inv_N hI
  have hbS : (∀ k, k < u.2.2 0 → ¬ (xs (ix + 1)) = nI k) := by rw [hn.1]; exact hbad
  refine lv_aload_n hx hb dL_law_713 rfl (lv_at hl 1 rfl) ?_
  refine lv_aload_n hx hb dL_law_714 rfl (lv_at hl 0 rfl) ?_
  refine lv_iload hx hb dL_law_715 (lv_at hl 4 rfl) ?_
  refine lv_iconst (v := nI 1) hx hb dL_law_717 (by decide +kernel) ?_
  refine tq_iadd hx hb dL_law_718 ?_
  refine va_sld hx hb hXs hbl hbA hS (vp_in_nI (by omega) (by omega)) dL_law_719 ?_
  refine tq_i (congrArg xs (nI_clamp (by omega))) ?_
  refine lv_aload_n hx hb dL_law_720 rfl (lv_at hl 0 rfl) ?_
  refine lv_iload hx hb dL_law_721 (lv_at hl 4 rfl) ?_
  refine lv_iconst (v := nI 2) hx hb dL_law_723 (by decide +kernel) ?_
  refine tq_iadd hx hb dL_law_724 ?_
  refine va_sld hx hb hXs hbl hbA hS (vp_in_nI (by omega) (by omega)) dL_law_725 ?_
  refine tq_i (congrArg xs (nI_clamp (by omega))) ?_
  refine lv_aload_n hx hb dL_law_726 rfl (lv_at hl 3 rfl) ?_
  refine kl_B ⟨hx, hb, hml, hown, hA⟩ (b_sup l hl0 D a o kI kL kZ u f (xs (ix + 1)) (xs (ix + 2)) (by omega) hbS) (kh_L_104 hA rfl rfl ⟨Nat.le_trans (Nat.le_of_ble_eq_true rfl) hRf, Nat.le_trans (Nat.le_of_ble_eq_true rfl) hRl⟩) hK (fun U hU hW => hXX.at hS (fun q h1 h2 => by omega) hU hW) hP hD hS rfl hl.1 (Nat.le_of_ble_eq_true rfl) ⟨by omega, by omega⟩ dL_law_727 rfl (fun r1 w1 H locs hw1 hP hD hS => ?_)
  refine tq_i hw1.1 ?_
  refine lv_istore (lv' := [(5, .int (nI 1)), (0, .ref b0), (1, .ref (a 0)), (2, .ref (b 0)), (3, .ref o), (4, .int (nI ix))]) hx hb dL_law_730 hl (by decide) rfl (fun ls hl => ?_)
  refine lv_aload_n hx hb dL_law_732 rfl (lv_at hl 3 rfl) ?_
  refine lv_aload_n hx hb dL_law_733 rfl (lv_at hl 1 rfl) ?_
  refine lv_iload hx hb dL_law_734 (lv_at hl 5 rfl) ?_
  refine lv_iconst (v := nI 1) hx hb dL_law_736 (by decide +kernel) ?_
  refine tq_iadd hx hb dL_law_737 ?_
  refine va_sld hx hb hXs hbl hbA hS (vp_in_nI (by omega) (by omega)) dL_law_738 ?_
  refine tq_i (congrArg xs (nI_clamp (by omega))) ?_
  refine lv_aload_n hx hb dL_law_739 rfl (lv_at hl 1 rfl) ?_
  refine lv_iload hx hb dL_law_740 (lv_at hl 5 rfl) ?_
  refine lv_iconst (v := nI 2) hx hb dL_law_742 (by decide +kernel) ?_
  refine tq_iadd hx hb dL_law_743 ?_
  refine va_sld hx hb hXs hbl hbA hS (vp_in_nI (by omega) (by omega)) dL_law_744 ?_
  refine tq_i (congrArg xs (nI_clamp (by omega))) ?_
  refine kl_M ⟨hx, hb, hml, hown, hA⟩ (n_sup l D b kI kL kZ v N kd fa fb T so xa xb xc hM.1 (xs (ix + 1)) (xs (ix + 2)) hbad) (kw_L_106 hA rfl rfl ⟨Nat.le_trans (Nat.le_of_ble_eq_true rfl) hRf, Nat.le_trans (Nat.le_of_ble_eq_true rfl) hRl⟩) hK hP hD hS rfl hl.1 (Nat.le_of_ble_eq_true rfl) ⟨by omega, by omega⟩ dL_law_745 rfl (fun r2 v1 H locs hv1 hP hD hS => ?_)
  have hthr : v1.2.2 0 = 1 := by rw [hv1]; rfl
  have hjj : lw_J w1.1 v1 := by
    rw [hw1.2, hv1]
    exact ⟨_, _, _, _, _, _, _, _, _, _, _, _, hI, minv_thr hM⟩
  refine lv_istore (lv' := [(6, .int r2), (5, .int (nI 1)), (0, .ref b0), (1, .ref (a 0)), (2, .ref (b 0)), (3, .ref o), (4, .int (nI ix))]) hx hb dL_law_748 hl (by decide) rfl (fun ls hl => ?_)
  refine lv_aload_n hx hb dL_law_750 rfl (lv_at hl 4 rfl) ?_
  refine kl_T ⟨hx, hb, hml, hown, hA⟩ (m_thrown l D b kI kL kZ v1) (kw_L_73 hA rfl rfl ⟨Nat.le_trans (Nat.le_of_ble_eq_true rfl) hRf, Nat.le_trans (Nat.le_of_ble_eq_true rfl) hRl⟩) hK hP hS rfl hl.1 (Nat.le_of_ble_eq_true rfl) ⟨by omega, by omega⟩ dL_law_751 rfl (fun H locs hP hS => ?_)
  refine tq_i (congrArg nI hthr) ?_
  refine lv_iload hx hb dL_law_754 (lv_at hl 1 rfl) ?_
  refine tq_eq hx hb dL_law_756 (tgt := 761) (by decide) (by omega) (by omega) (fun h756 => ?_) (fun h756 => ?_)
  · refine lv_iload hx hb dL_law_761 (lv_at hl 1 rfl) ?_
    refine tq_zne hx hb dL_law_763 (tgt := 778) (by decide) (by omega) (fun h763 => ?_) (fun h763 => ?_)
    · refine lv_goto hx hb dL_law_778 (tgt := 1197) (by decide) ?_
      exact kk w1.1 v1 w1.2 H locs ls hjj hP hD hS (lv_sub hl [2, 3, 4, 5, 6] rfl)
    · omega
  · omega
theorem lc_10 {p : Program} {l : Launch} {e : Env} {R : Room} {s : State} {m : MethodId} {args : Array Value} {below : List Frame} {meth : Method} {c : Code} {H : Heap} {locs : List Loc} {cells slots : Nat} {Q : State → Prop} {ls : Array Slot} {b0 L : Nat} {xs : Nat → Int32} {D : va_G} {kI kL kZ : ClassId} {a b : Nat → Nat} {o : Nat} {u v : sU} {f : Nat → Int64} {ix : Nat} (h0 : lw_C p l R s m args c b0 L xs D kI kL kZ) (hi : ix + 4 ≤ L) (hL : L ≤ 2048) (hJ : lw_J u v) (hP : va_P D vwA (lW a o b kI kL kZ u f v) H) (hD : va_D (fun q => s.heap.size ≤ q) (lW a o b kI kL kZ u f v)) (hS : va_S (fun q => s.heap.size ≤ q) s.heap H locs) (hl : lv_has ls 7 [(0, .ref b0), (1, .ref (a 0)), (2, .ref (b 0)), (3, .ref o), (4, .int (nI ix))]) (hcs : cells + 1 ≤ R.cells ∧ slots + 6 ≤ R.slots) (kk : ∀ (u v : sU) (f : Nat → Int64) (H : Heap) (locs : List Loc) (ls : Array Slot), lw_J u v → va_P D vwA (lW a o b kI kL kZ u f v) H → va_D (fun q => s.heap.size ≤ q) (lW a o b kI kL kZ u f v) → va_S (fun q => s.heap.size ≤ q) s.heap H locs → lv_has ls 7 [(0, .ref b0), (1, .ref (a 0)), (2, .ref (b 0)), (3, .ref o), (4, .int (nI ix))] → W p l e R s m args below meth c H locs (cells + 1) (slots + 6) Q (F0 m 1197 ls [])) : W p l e R s m args below meth c H locs cells slots Q (F0 m 713 ls []) := by
  obtain ⟨N, kd, fa, fb, T, so, xa, xb, xc, F, M, rs, hI, hM⟩ := hJ
  by_cases c1 : ∃ k, k < N ∧ xs (ix + 1) = nI k
  · obtain ⟨d, e1, f1⟩ := c1
    exact lg_sup h0 hi hL hI hM d e1 f1 hP hD hS hl hcs kk
  · exact lb_sup h0 hi hL hI hM ((fun k hk z => c1 ⟨k, hk, z⟩)) hP hD hS hl hcs kk
set_option maxHeartbeats 4000000 in
set_option maxRecDepth 100000 in
theorem lg_direct {p : Program} {l : Launch} {e : Env} {R : Room} {s : State} {m : MethodId} {args : Array Value} {below : List Frame} {meth : Method} {c : Code} {H : Heap} {locs : List Loc} {cells slots : Nat} {Q : State → Prop} {ls : Array Slot} {b0 L : Nat} {xs : Nat → Int32} {D : va_G} {kI kL kZ : ClassId} {a b : Nat → Nat} {o : Nat} {u v : sU} {f : Nat → Int64} {ix : Nat} (h0 : lw_C p l R s m args c b0 L xs D kI kL kZ) (hi : ix + 4 ≤ L) (hL : L ≤ 2048) {N : Nat} {kd fa fb : Nat → Nat} {T : Nat} {so xa xb xc : Nat → Nat} {F : Nat → Prop} {M : Nat} {rs : Nat → Nat} (hI : s_inv u N kd fa fb T so xa xb xc F M rs) (hM : m_inv v N kd fa fb T so xa xb xc F M rs) (d d2 : Nat) (hd : d < N) (hd2 : d2 < N) (hxs1 : xs (ix + 1) = nI d) (hxs2 : xs (ix + 2) = nI d2) (hP : va_P D vwA (lW a o b kI kL kZ u f v) H) (hD : va_D (fun q => s.heap.size ≤ q) (lW a o b kI kL kZ u f v)) (hS : va_S (fun q => s.heap.size ≤ q) s.heap H locs) (hl : lv_has ls 7 [(0, .ref b0), (1, .ref (a 0)), (2, .ref (b 0)), (3, .ref o), (4, .int (nI ix))]) (hcs : cells + 1 ≤ R.cells ∧ slots + 6 ≤ R.slots) (kk : ∀ (u v : sU) (f : Nat → Int64) (H : Heap) (locs : List Loc) (ls : Array Slot), lw_J u v → va_P D vwA (lW a o b kI kL kZ u f v) H → va_D (fun q => s.heap.size ≤ q) (lW a o b kI kL kZ u f v) → va_S (fun q => s.heap.size ≤ q) s.heap H locs → lv_has ls 7 [(0, .ref b0), (1, .ref (a 0)), (2, .ref (b 0)), (3, .ref o), (4, .int (nI ix))] → W p l e R s m args below meth c H locs (cells + 1) (slots + 6) Q (F0 m 1197 ls [])) : W p l e R s m args below meth c H locs cells slots Q (F0 m 781 ls []) := by
  obtain ⟨hx, hb, hml, hown, hA, hXs, hbl, hK, hXX, hl0, hRf, hRl⟩ := h0
  have hbA : ¬ s.heap.size ≤ b0 := by omega
  refine lv_aload_n hx hb dL_law_781 rfl (lv_at hl 1 rfl) ?_
  refine lv_aload_n hx hb dL_law_782 rfl (lv_at hl 0 rfl) ?_
  refine lv_iload hx hb dL_law_783 (lv_at hl 4 rfl) ?_
  refine lv_iconst (v := nI 1) hx hb dL_law_785 (by decide +kernel) ?_
  refine tq_iadd hx hb dL_law_786 ?_
  refine va_sld hx hb hXs hbl hbA hS (vp_in_nI (by omega) (by omega)) dL_law_787 ?_
  refine tq_i (congrArg xs (nI_clamp (by omega))) ?_
  refine tq_i hxs1 ?_
  refine lv_aload_n hx hb dL_law_788 rfl (lv_at hl 0 rfl) ?_
  refine lv_iload hx hb dL_law_789 (lv_at hl 4 rfl) ?_
  refine lv_iconst (v := nI 2) hx hb dL_law_791 (by decide +kernel) ?_
  refine tq_iadd hx hb dL_law_792 ?_
  refine va_sld hx hb hXs hbl hbA hS (vp_in_nI (by omega) (by omega)) dL_law_793 ?_
  refine tq_i (congrArg xs (nI_clamp (by omega))) ?_
  refine tq_i hxs2 ?_
  refine lv_aload_n hx hb dL_law_794 rfl (lv_at hl 3 rfl) ?_
  refine kl_H ⟨hx, hb, hml, hown, hA⟩ (g_direct l D a o kI kL kZ u f N kd fa fb T so xa xb xc F M rs hI d d2 hd hd2) (kh_L_107 hA rfl rfl ⟨Nat.le_trans (Nat.le_of_ble_eq_true rfl) hRf, Nat.le_trans (Nat.le_of_ble_eq_true rfl) hRl⟩) hK hP hD hS rfl hl.1 (Nat.le_of_ble_eq_true rfl) ⟨by omega, by omega⟩ dL_law_795 rfl (fun r1 w1 H locs hw1 hP hD hS => ?_)
  obtain ⟨r0, hf0, hq⟩ := hw1.2
  refine tq_i hw1.1 ?_
  refine lv_istore (lv' := [(5, .int (nI 0)), (0, .ref b0), (1, .ref (a 0)), (2, .ref (b 0)), (3, .ref o), (4, .int (nI ix))]) hx hb dL_law_798 hl (by decide) rfl (fun ls hl => ?_)
  refine lv_aload_n hx hb dL_law_800 rfl (lv_at hl 3 rfl) ?_
  refine lv_aload_n hx hb dL_law_801 rfl (lv_at hl 1 rfl) ?_
  refine lv_iload hx hb dL_law_802 (lv_at hl 5 rfl) ?_
  refine lv_iconst (v := nI 1) hx hb dL_law_804 (by decide +kernel) ?_
  refine tq_iadd hx hb dL_law_805 ?_
  refine va_sld hx hb hXs hbl hbA hS (vp_in_nI (by omega) (by omega)) dL_law_806 ?_
  refine tq_i (congrArg xs (nI_clamp (by omega))) ?_
  refine tq_i hxs1 ?_
  refine lv_aload_n hx hb dL_law_807 rfl (lv_at hl 1 rfl) ?_
  refine lv_iload hx hb dL_law_808 (lv_at hl 5 rfl) ?_
  refine lv_iconst (v := nI 2) hx hb dL_law_810 (by decide +kernel) ?_
  refine tq_iadd hx hb dL_law_811 ?_
  refine va_sld hx hb hXs hbl hbA hS (vp_in_nI (by omega) (by omega)) dL_law_812 ?_
  refine tq_i (congrArg xs (nI_clamp (by omega))) ?_
  refine tq_i hxs2 ?_
  refine kl_M ⟨hx, hb, hml, hown, hA⟩ (w_direct l D b kI kL kZ v N kd fa fb T so xa xb xc F M rs hM d d2 hd hd2) (kw_L_109 hA rfl rfl ⟨Nat.le_trans (Nat.le_of_ble_eq_true rfl) hRf, Nat.le_trans (Nat.le_of_ble_eq_true rfl) hRl⟩) hK hP hD hS rfl hl.1 (Nat.le_of_ble_eq_true rfl) ⟨by omega, by omega⟩ dL_law_813 rfl (fun r2 v1 H locs hv1 hP hD hS => ?_)
  have hthr : v1.2.2 0 = 0 := hv1.2
  have hjj : r0 = r2 ∧ lw_J w1.1 v1 := j_eq hq hv1.1
  obtain ⟨b2, hb2⟩ : ∃ b2 : Bool, r2 = bI b2 := ⟨_, hv1.1.1⟩
  refine tq_i hb2 ?_
  refine lv_istore (lv' := [(6, .int (bI b2)), (5, .int (nI 0)), (0, .ref b0), (1, .ref (a 0)), (2, .ref (b 0)), (3, .ref o), (4, .int (nI ix))]) hx hb dL_law_816 hl (by decide) rfl (fun ls hl => ?_)
  refine lv_aload_n hx hb dL_law_818 rfl (lv_at hl 4 rfl) ?_
  refine kl_T ⟨hx, hb, hml, hown, hA⟩ (m_thrown l D b kI kL kZ v1) (kw_L_73 hA rfl rfl ⟨Nat.le_trans (Nat.le_of_ble_eq_true rfl) hRf, Nat.le_trans (Nat.le_of_ble_eq_true rfl) hRl⟩) hK hP hS rfl hl.1 (Nat.le_of_ble_eq_true rfl) ⟨by omega, by omega⟩ dL_law_819 rfl (fun H locs hP hS => ?_)
  refine tq_i (congrArg nI hthr) ?_
  refine lv_iload hx hb dL_law_822 (lv_at hl 1 rfl) ?_
  refine tq_eq hx hb dL_law_824 (tgt := 829) (by decide) (by omega) (by omega) (fun h824 => ?_) (fun h824 => ?_)
  · refine lv_iload hx hb dL_law_829 (lv_at hl 1 rfl) ?_
    refine tq_zne hx hb dL_law_831 (tgt := 853) (by decide) (by omega) (fun h831 => ?_) (fun h831 => ?_)
    · omega
    · refine lv_aload_n hx hb dL_law_834 rfl (lv_at hl 5 rfl) ?_
      refine lv_iconst (v := nI 0) hx hb dL_law_835 (by decide +kernel) ?_
      refine tq_lald hx hb hK hP 32 1 rfl rfl (by omega) (by omega) dL_law_836 ?_
      refine lv_iload hx hb dL_law_837 (lv_at hl 0 rfl) ?_
      refine tq_bf hx hb dL_law_839 (tgt := 846) (by decide) (fun h839 => ?_) (fun h839 => ?_)
      · refine lv_lconst (v := 0) hx hb dL_law_846 (by decide +kernel) ?_
        refine tq_leq hx hb dL_law_847 dL_law_848 (tgt := 853) (by decide) (fun h847 => ?_) (fun h847 => ?_)
        · refine lv_goto hx hb dL_law_853 (tgt := 1197) (by decide) ?_
          refine W.widen (k := cells + 1) (n := slots + 6) (by omega) (by omega) ?_
          exact kk w1.1 v1 w1.2 H locs ls hjj.2 hP hD hS (lv_sub hl [2, 3, 4, 5, 6] rfl)
        · exact absurd (by rw [hf0, hjj.1, hb2, h839]; rfl) h847
      · refine lv_lconst (v := 1) hx hb dL_law_842 (by decide +kernel) ?_
        refine lv_goto hx hb dL_law_843 (tgt := 847) (by decide) ?_
        refine tq_leq hx hb dL_law_847 dL_law_848 (tgt := 853) (by decide) (fun h847 => ?_) (fun h847 => ?_)
        · refine lv_goto hx hb dL_law_853 (tgt := 1197) (by decide) ?_
          refine W.widen (k := cells + 1) (n := slots + 6) (by omega) (by omega) ?_
          exact kk w1.1 v1 w1.2 H locs ls hjj.2 hP hD hS (lv_sub hl [2, 3, 4, 5, 6] rfl)
        · exact absurd (by rw [hf0, hjj.1, hb2, h839]; rfl) h847
  · omega
set_option maxHeartbeats 4000000 in
set_option maxRecDepth 100000 in
theorem lb_direct {p : Program} {l : Launch} {e : Env} {R : Room} {s : State} {m : MethodId} {args : Array Value} {below : List Frame} {meth : Method} {c : Code} {H : Heap} {locs : List Loc} {cells slots : Nat} {Q : State → Prop} {ls : Array Slot} {b0 L : Nat} {xs : Nat → Int32} {D : va_G} {kI kL kZ : ClassId} {a b : Nat → Nat} {o : Nat} {u v : sU} {f : Nat → Int64} {ix : Nat} (h0 : lw_C p l R s m args c b0 L xs D kI kL kZ) (hi : ix + 4 ≤ L) (hL : L ≤ 2048) {N : Nat} {kd fa fb : Nat → Nat} {T : Nat} {so xa xb xc : Nat → Nat} {F : Nat → Prop} {M : Nat} {rs : Nat → Nat} (hI : s_inv u N kd fa fb T so xa xb xc F M rs) (hM : m_inv v N kd fa fb T so xa xb xc F M rs) (hbad : (∀ k, k < N → ¬ (xs (ix + 1)) = nI k) ∨ (∀ k, k < N → ¬ (xs (ix + 2)) = nI k)) (hP : va_P D vwA (lW a o b kI kL kZ u f v) H) (hD : va_D (fun q => s.heap.size ≤ q) (lW a o b kI kL kZ u f v)) (hS : va_S (fun q => s.heap.size ≤ q) s.heap H locs) (hl : lv_has ls 7 [(0, .ref b0), (1, .ref (a 0)), (2, .ref (b 0)), (3, .ref o), (4, .int (nI ix))]) (hcs : cells + 1 ≤ R.cells ∧ slots + 6 ≤ R.slots) (kk : ∀ (u v : sU) (f : Nat → Int64) (H : Heap) (locs : List Loc) (ls : Array Slot), lw_J u v → va_P D vwA (lW a o b kI kL kZ u f v) H → va_D (fun q => s.heap.size ≤ q) (lW a o b kI kL kZ u f v) → va_S (fun q => s.heap.size ≤ q) s.heap H locs → lv_has ls 7 [(0, .ref b0), (1, .ref (a 0)), (2, .ref (b 0)), (3, .ref o), (4, .int (nI ix))] → W p l e R s m args below meth c H locs (cells + 1) (slots + 6) Q (F0 m 1197 ls [])) : W p l e R s m args below meth c H locs cells slots Q (F0 m 781 ls []) := by
  obtain ⟨hx, hb, hml, hown, hA, hXs, hbl, hK, hXX, hl0, hRf, hRl⟩ := h0
  have hbA : ¬ s.heap.size ≤ b0 := by omega
  have hn := inv_N hI
  have hbS : (∀ k, k < u.2.2 0 → ¬ (xs (ix + 1)) = nI k) ∨ (∀ k, k < u.2.2 0 → ¬ (xs (ix + 2)) = nI k) := by rw [hn.1]; exact hbad
  refine lv_aload_n hx hb dL_law_781 rfl (lv_at hl 1 rfl) ?_
  refine lv_aload_n hx hb dL_law_782 rfl (lv_at hl 0 rfl) ?_
  refine lv_iload hx hb dL_law_783 (lv_at hl 4 rfl) ?_
  refine lv_iconst (v := nI 1) hx hb dL_law_785 (by decide +kernel) ?_
  refine tq_iadd hx hb dL_law_786 ?_
  refine va_sld hx hb hXs hbl hbA hS (vp_in_nI (by omega) (by omega)) dL_law_787 ?_
  refine tq_i (congrArg xs (nI_clamp (by omega))) ?_
  refine lv_aload_n hx hb dL_law_788 rfl (lv_at hl 0 rfl) ?_
  refine lv_iload hx hb dL_law_789 (lv_at hl 4 rfl) ?_
  refine lv_iconst (v := nI 2) hx hb dL_law_791 (by decide +kernel) ?_
  refine tq_iadd hx hb dL_law_792 ?_
  refine va_sld hx hb hXs hbl hbA hS (vp_in_nI (by omega) (by omega)) dL_law_793 ?_
  refine tq_i (congrArg xs (nI_clamp (by omega))) ?_
  refine lv_aload_n hx hb dL_law_794 rfl (lv_at hl 3 rfl) ?_
  refine kl_B ⟨hx, hb, hml, hown, hA⟩ (b_direct l hl0 D a o kI kL kZ u f (xs (ix + 1)) (xs (ix + 2)) (by omega) hbS) (kh_L_107 hA rfl rfl ⟨Nat.le_trans (Nat.le_of_ble_eq_true rfl) hRf, Nat.le_trans (Nat.le_of_ble_eq_true rfl) hRl⟩) hK (fun U hU hW => hXX.at hS (fun q h1 h2 => by omega) hU hW) hP hD hS rfl hl.1 (Nat.le_of_ble_eq_true rfl) ⟨by omega, by omega⟩ dL_law_795 rfl (fun r1 w1 H locs hw1 hP hD hS => ?_)
  refine tq_i hw1.1 ?_
  refine lv_istore (lv' := [(5, .int (nI 1)), (0, .ref b0), (1, .ref (a 0)), (2, .ref (b 0)), (3, .ref o), (4, .int (nI ix))]) hx hb dL_law_798 hl (by decide) rfl (fun ls hl => ?_)
  refine lv_aload_n hx hb dL_law_800 rfl (lv_at hl 3 rfl) ?_
  refine lv_aload_n hx hb dL_law_801 rfl (lv_at hl 1 rfl) ?_
  refine lv_iload hx hb dL_law_802 (lv_at hl 5 rfl) ?_
  refine lv_iconst (v := nI 1) hx hb dL_law_804 (by decide +kernel) ?_
  refine tq_iadd hx hb dL_law_805 ?_
  refine va_sld hx hb hXs hbl hbA hS (vp_in_nI (by omega) (by omega)) dL_law_806 ?_
  refine tq_i (congrArg xs (nI_clamp (by omega))) ?_
  refine lv_aload_n hx hb dL_law_807 rfl (lv_at hl 1 rfl) ?_
  refine lv_iload hx hb dL_law_808 (lv_at hl 5 rfl) ?_
  refine lv_iconst (v := nI 2) hx hb dL_law_810 (by decide +kernel) ?_
  refine tq_iadd hx hb dL_law_811 ?_
  refine va_sld hx hb hXs hbl hbA hS (vp_in_nI (by omega) (by omega)) dL_law_812 ?_
  refine tq_i (congrArg xs (nI_clamp (by omega))) ?_
  refine kl_M ⟨hx, hb, hml, hown, hA⟩ (n_direct l D b kI kL kZ v N kd fa fb T so xa xb xc hM.1 (xs (ix + 1)) (xs (ix + 2)) hbad) (kw_L_109 hA rfl rfl ⟨Nat.le_trans (Nat.le_of_ble_eq_true rfl) hRf, Nat.le_trans (Nat.le_of_ble_eq_true rfl) hRl⟩) hK hP hD hS rfl hl.1 (Nat.le_of_ble_eq_true rfl) ⟨by omega, by omega⟩ dL_law_813 rfl (fun r2 v1 H locs hv1 hP hD hS => ?_)
  have hthr : v1.2.2 0 = 1 := by rw [hv1]; rfl
  have hjj : lw_J w1.1 v1 := by
    rw [hw1.2, hv1]
    exact ⟨_, _, _, _, _, _, _, _, _, _, _, _, hI, minv_thr hM⟩
  refine lv_istore (lv' := [(6, .int r2), (5, .int (nI 1)), (0, .ref b0), (1, .ref (a 0)), (2, .ref (b 0)), (3, .ref o), (4, .int (nI ix))]) hx hb dL_law_816 hl (by decide) rfl (fun ls hl => ?_)
  refine lv_aload_n hx hb dL_law_818 rfl (lv_at hl 4 rfl) ?_
  refine kl_T ⟨hx, hb, hml, hown, hA⟩ (m_thrown l D b kI kL kZ v1) (kw_L_73 hA rfl rfl ⟨Nat.le_trans (Nat.le_of_ble_eq_true rfl) hRf, Nat.le_trans (Nat.le_of_ble_eq_true rfl) hRl⟩) hK hP hS rfl hl.1 (Nat.le_of_ble_eq_true rfl) ⟨by omega, by omega⟩ dL_law_819 rfl (fun H locs hP hS => ?_)
  refine tq_i (congrArg nI hthr) ?_
  refine lv_iload hx hb dL_law_822 (lv_at hl 1 rfl) ?_
  refine tq_eq hx hb dL_law_824 (tgt := 829) (by decide) (by omega) (by omega) (fun h824 => ?_) (fun h824 => ?_)
  · refine lv_iload hx hb dL_law_829 (lv_at hl 1 rfl) ?_
    refine tq_zne hx hb dL_law_831 (tgt := 853) (by decide) (by omega) (fun h831 => ?_) (fun h831 => ?_)
    · refine lv_goto hx hb dL_law_853 (tgt := 1197) (by decide) ?_
      exact kk w1.1 v1 w1.2 H locs ls hjj hP hD hS (lv_sub hl [2, 3, 4, 5, 6] rfl)
    · omega
  · omega
theorem lc_11 {p : Program} {l : Launch} {e : Env} {R : Room} {s : State} {m : MethodId} {args : Array Value} {below : List Frame} {meth : Method} {c : Code} {H : Heap} {locs : List Loc} {cells slots : Nat} {Q : State → Prop} {ls : Array Slot} {b0 L : Nat} {xs : Nat → Int32} {D : va_G} {kI kL kZ : ClassId} {a b : Nat → Nat} {o : Nat} {u v : sU} {f : Nat → Int64} {ix : Nat} (h0 : lw_C p l R s m args c b0 L xs D kI kL kZ) (hi : ix + 4 ≤ L) (hL : L ≤ 2048) (hJ : lw_J u v) (hP : va_P D vwA (lW a o b kI kL kZ u f v) H) (hD : va_D (fun q => s.heap.size ≤ q) (lW a o b kI kL kZ u f v)) (hS : va_S (fun q => s.heap.size ≤ q) s.heap H locs) (hl : lv_has ls 7 [(0, .ref b0), (1, .ref (a 0)), (2, .ref (b 0)), (3, .ref o), (4, .int (nI ix))]) (hcs : cells + 1 ≤ R.cells ∧ slots + 6 ≤ R.slots) (kk : ∀ (u v : sU) (f : Nat → Int64) (H : Heap) (locs : List Loc) (ls : Array Slot), lw_J u v → va_P D vwA (lW a o b kI kL kZ u f v) H → va_D (fun q => s.heap.size ≤ q) (lW a o b kI kL kZ u f v) → va_S (fun q => s.heap.size ≤ q) s.heap H locs → lv_has ls 7 [(0, .ref b0), (1, .ref (a 0)), (2, .ref (b 0)), (3, .ref o), (4, .int (nI ix))] → W p l e R s m args below meth c H locs (cells + 1) (slots + 6) Q (F0 m 1197 ls [])) : W p l e R s m args below meth c H locs cells slots Q (F0 m 781 ls []) := by
  obtain ⟨N, kd, fa, fb, T, so, xa, xb, xc, F, M, rs, hI, hM⟩ := hJ
  by_cases c1 : ∃ k, k < N ∧ xs (ix + 1) = nI k
  · obtain ⟨d, e1, f1⟩ := c1
    by_cases c2 : ∃ k, k < N ∧ xs (ix + 2) = nI k
    · obtain ⟨d2, e2, f2⟩ := c2
      exact lg_direct h0 hi hL hI hM d d2 e1 e2 f1 f2 hP hD hS hl hcs kk
    · exact lb_direct h0 hi hL hI hM (Or.inr ((fun k hk z => c2 ⟨k, hk, z⟩))) hP hD hS hl hcs kk
  · exact lb_direct h0 hi hL hI hM (Or.inl (fun k hk z => c1 ⟨k, hk, z⟩)) hP hD hS hl hcs kk
set_option maxHeartbeats 4000000 in
set_option maxRecDepth 100000 in
theorem lg_twin {p : Program} {l : Launch} {e : Env} {R : Room} {s : State} {m : MethodId} {args : Array Value} {below : List Frame} {meth : Method} {c : Code} {H : Heap} {locs : List Loc} {cells slots : Nat} {Q : State → Prop} {ls : Array Slot} {b0 L : Nat} {xs : Nat → Int32} {D : va_G} {kI kL kZ : ClassId} {a b : Nat → Nat} {o : Nat} {u v : sU} {f : Nat → Int64} {ix : Nat} (h0 : lw_C p l R s m args c b0 L xs D kI kL kZ) (hi : ix + 4 ≤ L) (hL : L ≤ 2048) {N : Nat} {kd fa fb : Nat → Nat} {T : Nat} {so xa xb xc : Nat → Nat} {F : Nat → Prop} {M : Nat} {rs : Nat → Nat} (hI : s_inv u N kd fa fb T so xa xb xc F M rs) (hM : m_inv v N kd fa fb T so xa xb xc F M rs) (d : Nat) (hd : d < N) (hxs1 : xs (ix + 1) = nI d) (hP : va_P D vwA (lW a o b kI kL kZ u f v) H) (hD : va_D (fun q => s.heap.size ≤ q) (lW a o b kI kL kZ u f v)) (hS : va_S (fun q => s.heap.size ≤ q) s.heap H locs) (hl : lv_has ls 7 [(0, .ref b0), (1, .ref (a 0)), (2, .ref (b 0)), (3, .ref o), (4, .int (nI ix))]) (hcs : cells + 1 ≤ R.cells ∧ slots + 6 ≤ R.slots) (kk : ∀ (u v : sU) (f : Nat → Int64) (H : Heap) (locs : List Loc) (ls : Array Slot), lw_J u v → va_P D vwA (lW a o b kI kL kZ u f v) H → va_D (fun q => s.heap.size ≤ q) (lW a o b kI kL kZ u f v) → va_S (fun q => s.heap.size ≤ q) s.heap H locs → lv_has ls 7 [(0, .ref b0), (1, .ref (a 0)), (2, .ref (b 0)), (3, .ref o), (4, .int (nI ix))] → W p l e R s m args below meth c H locs (cells + 1) (slots + 6) Q (F0 m 1197 ls [])) : W p l e R s m args below meth c H locs cells slots Q (F0 m 856 ls []) := by
  obtain ⟨hx, hb, hml, hown, hA, hXs, hbl, hK, hXX, hl0, hRf, hRl⟩ := h0
  have hbA : ¬ s.heap.size ≤ b0 := by omega
  refine lv_aload_n hx hb dL_law_856 rfl (lv_at hl 1 rfl) ?_
  refine lv_aload_n hx hb dL_law_857 rfl (lv_at hl 0 rfl) ?_
  refine lv_iload hx hb dL_law_858 (lv_at hl 4 rfl) ?_
  refine lv_iconst (v := nI 1) hx hb dL_law_860 (by decide +kernel) ?_
  refine tq_iadd hx hb dL_law_861 ?_
  refine va_sld hx hb hXs hbl hbA hS (vp_in_nI (by omega) (by omega)) dL_law_862 ?_
  refine tq_i (congrArg xs (nI_clamp (by omega))) ?_
  refine tq_i hxs1 ?_
  refine lv_aload_n hx hb dL_law_863 rfl (lv_at hl 3 rfl) ?_
  refine kl_H ⟨hx, hb, hml, hown, hA⟩ (g_twin l D a o kI kL kZ u f N kd fa fb T so xa xb xc F M rs hI d hd) (kh_L_110 hA rfl rfl ⟨Nat.le_trans (Nat.le_of_ble_eq_true rfl) hRf, Nat.le_trans (Nat.le_of_ble_eq_true rfl) hRl⟩) hK hP hD hS rfl hl.1 (Nat.le_of_ble_eq_true rfl) ⟨by omega, by omega⟩ dL_law_864 rfl (fun r1 w1 H locs hw1 hP hD hS => ?_)
  obtain ⟨r0, hf0, hq⟩ := hw1.2
  refine tq_i hw1.1 ?_
  refine lv_istore (lv' := [(5, .int (nI 0)), (0, .ref b0), (1, .ref (a 0)), (2, .ref (b 0)), (3, .ref o), (4, .int (nI ix))]) hx hb dL_law_867 hl (by decide) rfl (fun ls hl => ?_)
  refine lv_aload_n hx hb dL_law_869 rfl (lv_at hl 3 rfl) ?_
  refine lv_aload_n hx hb dL_law_870 rfl (lv_at hl 1 rfl) ?_
  refine lv_iload hx hb dL_law_871 (lv_at hl 5 rfl) ?_
  refine lv_iconst (v := nI 1) hx hb dL_law_873 (by decide +kernel) ?_
  refine tq_iadd hx hb dL_law_874 ?_
  refine va_sld hx hb hXs hbl hbA hS (vp_in_nI (by omega) (by omega)) dL_law_875 ?_
  refine tq_i (congrArg xs (nI_clamp (by omega))) ?_
  refine tq_i hxs1 ?_
  refine kl_M ⟨hx, hb, hml, hown, hA⟩ (w_twin l D b kI kL kZ v N kd fa fb T so xa xb xc F M rs hM d hd) (kw_L_112 hA rfl rfl ⟨Nat.le_trans (Nat.le_of_ble_eq_true rfl) hRf, Nat.le_trans (Nat.le_of_ble_eq_true rfl) hRl⟩) hK hP hD hS rfl hl.1 (Nat.le_of_ble_eq_true rfl) ⟨by omega, by omega⟩ dL_law_876 rfl (fun r2 v1 H locs hv1 hP hD hS => ?_)
  have hthr : v1.2.2 0 = 0 := hv1.2
  have hjj : r0 = r2 ∧ lw_J w1.1 v1 := j_eq hq hv1.1
  refine lv_istore (lv' := [(6, .int r2), (5, .int (nI 0)), (0, .ref b0), (1, .ref (a 0)), (2, .ref (b 0)), (3, .ref o), (4, .int (nI ix))]) hx hb dL_law_879 hl (by decide) rfl (fun ls hl => ?_)
  refine lv_aload_n hx hb dL_law_881 rfl (lv_at hl 4 rfl) ?_
  refine kl_T ⟨hx, hb, hml, hown, hA⟩ (m_thrown l D b kI kL kZ v1) (kw_L_73 hA rfl rfl ⟨Nat.le_trans (Nat.le_of_ble_eq_true rfl) hRf, Nat.le_trans (Nat.le_of_ble_eq_true rfl) hRl⟩) hK hP hS rfl hl.1 (Nat.le_of_ble_eq_true rfl) ⟨by omega, by omega⟩ dL_law_882 rfl (fun H locs hP hS => ?_)
  refine tq_i (congrArg nI hthr) ?_
  refine lv_iload hx hb dL_law_885 (lv_at hl 1 rfl) ?_
  refine tq_eq hx hb dL_law_887 (tgt := 892) (by decide) (by omega) (by omega) (fun h887 => ?_) (fun h887 => ?_)
  · refine lv_iload hx hb dL_law_892 (lv_at hl 1 rfl) ?_
    refine tq_zne hx hb dL_law_894 (tgt := 909) (by decide) (by omega) (fun h894 => ?_) (fun h894 => ?_)
    · omega
    · refine lv_aload_n hx hb dL_law_897 rfl (lv_at hl 5 rfl) ?_
      refine lv_iconst (v := nI 0) hx hb dL_law_898 (by decide +kernel) ?_
      refine tq_lald hx hb hK hP 32 1 rfl rfl (by omega) (by omega) dL_law_899 ?_
      refine lv_iload hx hb dL_law_900 (lv_at hl 0 rfl) ?_
      refine lv_i2l hx hb dL_law_902 rfl ?_
      refine tq_leq hx hb dL_law_903 dL_law_904 (tgt := 909) (by decide) (fun h903 => ?_) (fun h903 => ?_)
      · refine lv_goto hx hb dL_law_909 (tgt := 1197) (by decide) ?_
        refine W.widen (k := cells + 1) (n := slots + 6) (by omega) (by omega) ?_
        exact kk w1.1 v1 w1.2 H locs ls hjj.2 hP hD hS (lv_sub hl [2, 3, 4, 5, 6] rfl)
      · exact absurd (hf0.trans (congrArg Int32.toInt64 hjj.1)) h903
  · omega
set_option maxHeartbeats 4000000 in
set_option maxRecDepth 100000 in
theorem lb_twin {p : Program} {l : Launch} {e : Env} {R : Room} {s : State} {m : MethodId} {args : Array Value} {below : List Frame} {meth : Method} {c : Code} {H : Heap} {locs : List Loc} {cells slots : Nat} {Q : State → Prop} {ls : Array Slot} {b0 L : Nat} {xs : Nat → Int32} {D : va_G} {kI kL kZ : ClassId} {a b : Nat → Nat} {o : Nat} {u v : sU} {f : Nat → Int64} {ix : Nat} (h0 : lw_C p l R s m args c b0 L xs D kI kL kZ) (hi : ix + 4 ≤ L) (hL : L ≤ 2048) {N : Nat} {kd fa fb : Nat → Nat} {T : Nat} {so xa xb xc : Nat → Nat} {F : Nat → Prop} {M : Nat} {rs : Nat → Nat} (hI : s_inv u N kd fa fb T so xa xb xc F M rs) (hM : m_inv v N kd fa fb T so xa xb xc F M rs) (hbad : (∀ k, k < N → ¬ (xs (ix + 1)) = nI k)) (hP : va_P D vwA (lW a o b kI kL kZ u f v) H) (hD : va_D (fun q => s.heap.size ≤ q) (lW a o b kI kL kZ u f v)) (hS : va_S (fun q => s.heap.size ≤ q) s.heap H locs) (hl : lv_has ls 7 [(0, .ref b0), (1, .ref (a 0)), (2, .ref (b 0)), (3, .ref o), (4, .int (nI ix))]) (hcs : cells + 1 ≤ R.cells ∧ slots + 6 ≤ R.slots) (kk : ∀ (u v : sU) (f : Nat → Int64) (H : Heap) (locs : List Loc) (ls : Array Slot), lw_J u v → va_P D vwA (lW a o b kI kL kZ u f v) H → va_D (fun q => s.heap.size ≤ q) (lW a o b kI kL kZ u f v) → va_S (fun q => s.heap.size ≤ q) s.heap H locs → lv_has ls 7 [(0, .ref b0), (1, .ref (a 0)), (2, .ref (b 0)), (3, .ref o), (4, .int (nI ix))] → W p l e R s m args below meth c H locs (cells + 1) (slots + 6) Q (F0 m 1197 ls [])) : W p l e R s m args below meth c H locs cells slots Q (F0 m 856 ls []) := by
  obtain ⟨hx, hb, hml, hown, hA, hXs, hbl, hK, hXX, hl0, hRf, hRl⟩ := h0
  have hbA : ¬ s.heap.size ≤ b0 := by omega
  have hn := inv_N hI
  have hbS : (∀ k, k < u.2.2 0 → ¬ (xs (ix + 1)) = nI k) := by rw [hn.1]; exact hbad
  refine lv_aload_n hx hb dL_law_856 rfl (lv_at hl 1 rfl) ?_
  refine lv_aload_n hx hb dL_law_857 rfl (lv_at hl 0 rfl) ?_
  refine lv_iload hx hb dL_law_858 (lv_at hl 4 rfl) ?_
  refine lv_iconst (v := nI 1) hx hb dL_law_860 (by decide +kernel) ?_
  refine tq_iadd hx hb dL_law_861 ?_
  refine va_sld hx hb hXs hbl hbA hS (vp_in_nI (by omega) (by omega)) dL_law_862 ?_
  refine tq_i (congrArg xs (nI_clamp (by omega))) ?_
  refine lv_aload_n hx hb dL_law_863 rfl (lv_at hl 3 rfl) ?_
  refine kl_B ⟨hx, hb, hml, hown, hA⟩ (b_twin l hl0 D a o kI kL kZ u f (xs (ix + 1)) (by omega) hbS) (kh_L_110 hA rfl rfl ⟨Nat.le_trans (Nat.le_of_ble_eq_true rfl) hRf, Nat.le_trans (Nat.le_of_ble_eq_true rfl) hRl⟩) hK (fun U hU hW => hXX.at hS (fun q h1 h2 => by omega) hU hW) hP hD hS rfl hl.1 (Nat.le_of_ble_eq_true rfl) ⟨by omega, by omega⟩ dL_law_864 rfl (fun r1 w1 H locs hw1 hP hD hS => ?_)
  refine tq_i hw1.1 ?_
  refine lv_istore (lv' := [(5, .int (nI 1)), (0, .ref b0), (1, .ref (a 0)), (2, .ref (b 0)), (3, .ref o), (4, .int (nI ix))]) hx hb dL_law_867 hl (by decide) rfl (fun ls hl => ?_)
  refine lv_aload_n hx hb dL_law_869 rfl (lv_at hl 3 rfl) ?_
  refine lv_aload_n hx hb dL_law_870 rfl (lv_at hl 1 rfl) ?_
  refine lv_iload hx hb dL_law_871 (lv_at hl 5 rfl) ?_
  refine lv_iconst (v := nI 1) hx hb dL_law_873 (by decide +kernel) ?_
  refine tq_iadd hx hb dL_law_874 ?_
  refine va_sld hx hb hXs hbl hbA hS (vp_in_nI (by omega) (by omega)) dL_law_875 ?_
  refine tq_i (congrArg xs (nI_clamp (by omega))) ?_
  refine kl_M ⟨hx, hb, hml, hown, hA⟩ (n_twin l D b kI kL kZ v N kd fa fb T so xa xb xc hM.1 (xs (ix + 1)) hbad) (kw_L_112 hA rfl rfl ⟨Nat.le_trans (Nat.le_of_ble_eq_true rfl) hRf, Nat.le_trans (Nat.le_of_ble_eq_true rfl) hRl⟩) hK hP hD hS rfl hl.1 (Nat.le_of_ble_eq_true rfl) ⟨by omega, by omega⟩ dL_law_876 rfl (fun r2 v1 H locs hv1 hP hD hS => ?_)
  have hthr : v1.2.2 0 = 1 := by rw [hv1]; rfl
  have hjj : lw_J w1.1 v1 := by
    rw [hw1.2, hv1]
    exact ⟨_, _, _, _, _, _, _, _, _, _, _, _, hI, minv_thr hM⟩
  refine lv_istore (lv' := [(6, .int r2), (5, .int (nI 1)), (0, .ref b0), (1, .ref (a 0)), (2, .ref (b 0)), (3, .ref o), (4, .int (nI ix))]) hx hb dL_law_879 hl (by decide) rfl (fun ls hl => ?_)
  refine lv_aload_n hx hb dL_law_881 rfl (lv_at hl 4 rfl) ?_
  refine kl_T ⟨hx, hb, hml, hown, hA⟩ (m_thrown l D b kI kL kZ v1) (kw_L_73 hA rfl rfl ⟨Nat.le_trans (Nat.le_of_ble_eq_true rfl) hRf, Nat.le_trans (Nat.le_of_ble_eq_true rfl) hRl⟩) hK hP hS rfl hl.1 (Nat.le_of_ble_eq_true rfl) ⟨by omega, by omega⟩ dL_law_882 rfl (fun H locs hP hS => ?_)
  refine tq_i (congrArg nI hthr) ?_
  refine lv_iload hx hb dL_law_885 (lv_at hl 1 rfl) ?_
  refine tq_eq hx hb dL_law_887 (tgt := 892) (by decide) (by omega) (by omega) (fun h887 => ?_) (fun h887 => ?_)
  · refine lv_iload hx hb dL_law_892 (lv_at hl 1 rfl) ?_
    refine tq_zne hx hb dL_law_894 (tgt := 909) (by decide) (by omega) (fun h894 => ?_) (fun h894 => ?_)
    · refine lv_goto hx hb dL_law_909 (tgt := 1197) (by decide) ?_
      exact kk w1.1 v1 w1.2 H locs ls hjj hP hD hS (lv_sub hl [2, 3, 4, 5, 6] rfl)
    · omega
  · omega
theorem lc_12 {p : Program} {l : Launch} {e : Env} {R : Room} {s : State} {m : MethodId} {args : Array Value} {below : List Frame} {meth : Method} {c : Code} {H : Heap} {locs : List Loc} {cells slots : Nat} {Q : State → Prop} {ls : Array Slot} {b0 L : Nat} {xs : Nat → Int32} {D : va_G} {kI kL kZ : ClassId} {a b : Nat → Nat} {o : Nat} {u v : sU} {f : Nat → Int64} {ix : Nat} (h0 : lw_C p l R s m args c b0 L xs D kI kL kZ) (hi : ix + 4 ≤ L) (hL : L ≤ 2048) (hJ : lw_J u v) (hP : va_P D vwA (lW a o b kI kL kZ u f v) H) (hD : va_D (fun q => s.heap.size ≤ q) (lW a o b kI kL kZ u f v)) (hS : va_S (fun q => s.heap.size ≤ q) s.heap H locs) (hl : lv_has ls 7 [(0, .ref b0), (1, .ref (a 0)), (2, .ref (b 0)), (3, .ref o), (4, .int (nI ix))]) (hcs : cells + 1 ≤ R.cells ∧ slots + 6 ≤ R.slots) (kk : ∀ (u v : sU) (f : Nat → Int64) (H : Heap) (locs : List Loc) (ls : Array Slot), lw_J u v → va_P D vwA (lW a o b kI kL kZ u f v) H → va_D (fun q => s.heap.size ≤ q) (lW a o b kI kL kZ u f v) → va_S (fun q => s.heap.size ≤ q) s.heap H locs → lv_has ls 7 [(0, .ref b0), (1, .ref (a 0)), (2, .ref (b 0)), (3, .ref o), (4, .int (nI ix))] → W p l e R s m args below meth c H locs (cells + 1) (slots + 6) Q (F0 m 1197 ls [])) : W p l e R s m args below meth c H locs cells slots Q (F0 m 856 ls []) := by
  obtain ⟨N, kd, fa, fb, T, so, xa, xb, xc, F, M, rs, hI, hM⟩ := hJ
  by_cases c1 : ∃ k, k < N ∧ xs (ix + 1) = nI k
  · obtain ⟨d, e1, f1⟩ := c1
    exact lg_twin h0 hi hL hI hM d e1 f1 hP hD hS hl hcs kk
  · exact lb_twin h0 hi hL hI hM ((fun k hk z => c1 ⟨k, hk, z⟩)) hP hD hS hl hcs kk
