/-! The law's cases. Written by wip/whole/gen/genL2.py. -/
set_option maxHeartbeats 4000000 in
set_option maxRecDepth 100000 in
theorem lg_common {p : Program} {l : Launch} {e : Env} {R : Room} {s : State} {m : MethodId} {args : Array Value} {below : List Frame} {meth : Method} {c : Code} {H : Heap} {locs : List Loc} {cells slots : Nat} {Q : State → Prop} {ls : Array Slot} {b0 L : Nat} {xs : Nat → Int32} {D : va_G} {kI kL kZ : ClassId} {a b : Nat → Nat} {o : Nat} {u v : sU} {f : Nat → Int64} {ix : Nat} (h0 : lw_C p l R s m args c b0 L xs D kI kL kZ) (hi : ix + 4 ≤ L) (hL : L ≤ 2048) {N : Nat} {kd fa fb : Nat → Nat} {T : Nat} {so xa xb xc : Nat → Nat} {F : Nat → Prop} {M : Nat} {rs : Nat → Nat} (hI : s_inv u N kd fa fb T so xa xb xc F M rs) (hM : m_inv v N kd fa fb T so xa xb xc F M rs) (d d2 : Nat) (hd : d < N) (hd2 : d2 < N) (hxs1 : xs (ix + 1) = nI d) (hxs2 : xs (ix + 2) = nI d2) (hP : va_P D vwA (lW a o b kI kL kZ u f v) H) (hD : va_D (fun q => s.heap.size ≤ q) (lW a o b kI kL kZ u f v)) (hS : va_S (fun q => s.heap.size ≤ q) s.heap H locs) (hl : lv_has ls 7 [(0, .ref b0), (1, .ref (a 0)), (2, .ref (b 0)), (3, .ref o), (4, .int (nI ix))]) (hcs : cells + 1 ≤ R.cells ∧ slots + 6 ≤ R.slots) (kk : ∀ (u v : sU) (f : Nat → Int64) (H : Heap) (locs : List Loc) (ls : Array Slot), lw_J u v → va_P D vwA (lW a o b kI kL kZ u f v) H → va_D (fun q => s.heap.size ≤ q) (lW a o b kI kL kZ u f v) → va_S (fun q => s.heap.size ≤ q) s.heap H locs → lv_has ls 7 [(0, .ref b0), (1, .ref (a 0)), (2, .ref (b 0)), (3, .ref o), (4, .int (nI ix))] → W p l e R s m args below meth c H locs (cells + 1) (slots + 6) Q (F0 m 1197 ls [])) : W p l e R s m args below meth c H locs cells slots Q (F0 m 912 ls []) := by
  obtain ⟨hx, hb, hml, hown, hA, hXs, hbl, hK, hXX, hl0, hRf, hRl⟩ := h0
  have hbA : ¬ s.heap.size ≤ b0 := by omega
  refine lv_aload_n hx hb dL_law_912 rfl (lv_at hl 1 rfl) ?_
  refine lv_aload_n hx hb dL_law_913 rfl (lv_at hl 0 rfl) ?_
  refine lv_iload hx hb dL_law_914 (lv_at hl 4 rfl) ?_
  refine lv_iconst (v := nI 1) hx hb dL_law_916 (by decide +kernel) ?_
  refine tq_iadd hx hb dL_law_917 ?_
  refine va_sld hx hb hXs hbl hbA hS (vp_in_nI (by omega) (by omega)) dL_law_918 ?_
  refine tq_i (congrArg xs (nI_clamp (by omega))) ?_
  refine tq_i hxs1 ?_
  refine lv_aload_n hx hb dL_law_919 rfl (lv_at hl 0 rfl) ?_
  refine lv_iload hx hb dL_law_920 (lv_at hl 4 rfl) ?_
  refine lv_iconst (v := nI 2) hx hb dL_law_922 (by decide +kernel) ?_
  refine tq_iadd hx hb dL_law_923 ?_
  refine va_sld hx hb hXs hbl hbA hS (vp_in_nI (by omega) (by omega)) dL_law_924 ?_
  refine tq_i (congrArg xs (nI_clamp (by omega))) ?_
  refine tq_i hxs2 ?_
  refine lv_aload_n hx hb dL_law_925 rfl (lv_at hl 0 rfl) ?_
  refine lv_iload hx hb dL_law_926 (lv_at hl 4 rfl) ?_
  refine lv_iconst (v := nI 3) hx hb dL_law_928 (by decide +kernel) ?_
  refine tq_iadd hx hb dL_law_929 ?_
  refine va_sld hx hb hXs hbl hbA hS (vp_in_nI (by omega) (by omega)) dL_law_930 ?_
  refine tq_i (congrArg xs (nI_clamp (by omega))) ?_
  refine lv_aload_n hx hb dL_law_931 rfl (lv_at hl 3 rfl) ?_
  refine kl_H ⟨hx, hb, hml, hown, hA⟩ (g_common l D a o kI kL kZ u f N kd fa fb T so xa xb xc F M rs hI d d2 (xs (ix + 3)) hd hd2) (kh_L_113 hA rfl rfl ⟨Nat.le_trans (Nat.le_of_ble_eq_true rfl) hRf, Nat.le_trans (Nat.le_of_ble_eq_true rfl) hRl⟩) hK hP hD hS rfl hl.1 (Nat.le_of_ble_eq_true rfl) ⟨by omega, by omega⟩ dL_law_932 rfl (fun r1 w1 H locs hw1 hP hD hS => ?_)
  obtain ⟨r0, hf0, hq⟩ := hw1.2
  refine tq_i hw1.1 ?_
  refine lv_istore (lv' := [(5, .int (nI 0)), (0, .ref b0), (1, .ref (a 0)), (2, .ref (b 0)), (3, .ref o), (4, .int (nI ix))]) hx hb dL_law_935 hl (by decide) rfl (fun ls hl => ?_)
  refine lv_aload_n hx hb dL_law_937 rfl (lv_at hl 3 rfl) ?_
  refine lv_aload_n hx hb dL_law_938 rfl (lv_at hl 1 rfl) ?_
  refine lv_iload hx hb dL_law_939 (lv_at hl 5 rfl) ?_
  refine lv_iconst (v := nI 1) hx hb dL_law_941 (by decide +kernel) ?_
  refine tq_iadd hx hb dL_law_942 ?_
  refine va_sld hx hb hXs hbl hbA hS (vp_in_nI (by omega) (by omega)) dL_law_943 ?_
  refine tq_i (congrArg xs (nI_clamp (by omega))) ?_
  refine tq_i hxs1 ?_
  refine lv_aload_n hx hb dL_law_944 rfl (lv_at hl 1 rfl) ?_
  refine lv_iload hx hb dL_law_945 (lv_at hl 5 rfl) ?_
  refine lv_iconst (v := nI 2) hx hb dL_law_947 (by decide +kernel) ?_
  refine tq_iadd hx hb dL_law_948 ?_
  refine va_sld hx hb hXs hbl hbA hS (vp_in_nI (by omega) (by omega)) dL_law_949 ?_
  refine tq_i (congrArg xs (nI_clamp (by omega))) ?_
  refine tq_i hxs2 ?_
  refine lv_aload_n hx hb dL_law_950 rfl (lv_at hl 1 rfl) ?_
  refine lv_iload hx hb dL_law_951 (lv_at hl 5 rfl) ?_
  refine lv_iconst (v := nI 3) hx hb dL_law_953 (by decide +kernel) ?_
  refine tq_iadd hx hb dL_law_954 ?_
  refine va_sld hx hb hXs hbl hbA hS (vp_in_nI (by omega) (by omega)) dL_law_955 ?_
  refine tq_i (congrArg xs (nI_clamp (by omega))) ?_
  refine kl_M ⟨hx, hb, hml, hown, hA⟩ (w_common l D b kI kL kZ v N kd fa fb T so xa xb xc F M rs hM d d2 (xs (ix + 3)) hd hd2) (kw_L_115 hA rfl rfl ⟨Nat.le_trans (Nat.le_of_ble_eq_true rfl) hRf, Nat.le_trans (Nat.le_of_ble_eq_true rfl) hRl⟩) hK hP hD hS rfl hl.1 (Nat.le_of_ble_eq_true rfl) ⟨by omega, by omega⟩ dL_law_956 rfl (fun r2 v1 H locs hv1 hP hD hS => ?_)
  have hthr : v1.2.2 0 = 0 := hv1.2
  have hjj : r0 = r2 ∧ lw_J w1.1 v1 := j_sup (inv_N hI).2.2.1 hq hv1.1
  refine lv_istore (lv' := [(6, .int r2), (5, .int (nI 0)), (0, .ref b0), (1, .ref (a 0)), (2, .ref (b 0)), (3, .ref o), (4, .int (nI ix))]) hx hb dL_law_959 hl (by decide) rfl (fun ls hl => ?_)
  refine lv_aload_n hx hb dL_law_961 rfl (lv_at hl 4 rfl) ?_
  refine kl_T ⟨hx, hb, hml, hown, hA⟩ (m_thrown l D b kI kL kZ v1) (kw_L_73 hA rfl rfl ⟨Nat.le_trans (Nat.le_of_ble_eq_true rfl) hRf, Nat.le_trans (Nat.le_of_ble_eq_true rfl) hRl⟩) hK hP hS rfl hl.1 (Nat.le_of_ble_eq_true rfl) ⟨by omega, by omega⟩ dL_law_962 rfl (fun H locs hP hS => ?_)
  refine tq_i (congrArg nI hthr) ?_
  refine lv_iload hx hb dL_law_965 (lv_at hl 1 rfl) ?_
  refine tq_eq hx hb dL_law_967 (tgt := 972) (by decide) (by omega) (by omega) (fun h967 => ?_) (fun h967 => ?_)
  · refine lv_iload hx hb dL_law_972 (lv_at hl 1 rfl) ?_
    refine tq_zne hx hb dL_law_974 (tgt := 989) (by decide) (by omega) (fun h974 => ?_) (fun h974 => ?_)
    · omega
    · refine lv_aload_n hx hb dL_law_977 rfl (lv_at hl 5 rfl) ?_
      refine lv_iconst (v := nI 0) hx hb dL_law_978 (by decide +kernel) ?_
      refine tq_lald hx hb hK hP 32 1 rfl rfl (by omega) (by omega) dL_law_979 ?_
      refine lv_iload hx hb dL_law_980 (lv_at hl 0 rfl) ?_
      refine lv_i2l hx hb dL_law_982 rfl ?_
      refine tq_leq hx hb dL_law_983 dL_law_984 (tgt := 989) (by decide) (fun h983 => ?_) (fun h983 => ?_)
      · refine lv_goto hx hb dL_law_989 (tgt := 1197) (by decide) ?_
        refine W.widen (k := cells + 1) (n := slots + 6) (by omega) (by omega) ?_
        exact kk w1.1 v1 w1.2 H locs ls hjj.2 hP hD hS (lv_sub hl [2, 3, 4, 5, 6] rfl)
      · exact absurd (hf0.trans (congrArg Int32.toInt64 hjj.1)) h983
  · omega
set_option maxHeartbeats 4000000 in
set_option maxRecDepth 100000 in
theorem lb_common {p : Program} {l : Launch} {e : Env} {R : Room} {s : State} {m : MethodId} {args : Array Value} {below : List Frame} {meth : Method} {c : Code} {H : Heap} {locs : List Loc} {cells slots : Nat} {Q : State → Prop} {ls : Array Slot} {b0 L : Nat} {xs : Nat → Int32} {D : va_G} {kI kL kZ : ClassId} {a b : Nat → Nat} {o : Nat} {u v : sU} {f : Nat → Int64} {ix : Nat} (h0 : lw_C p l R s m args c b0 L xs D kI kL kZ) (hi : ix + 4 ≤ L) (hL : L ≤ 2048) {N : Nat} {kd fa fb : Nat → Nat} {T : Nat} {so xa xb xc : Nat → Nat} {F : Nat → Prop} {M : Nat} {rs : Nat → Nat} (hI : s_inv u N kd fa fb T so xa xb xc F M rs) (hM : m_inv v N kd fa fb T so xa xb xc F M rs) (hbad : (∀ k, k < N → ¬ (xs (ix + 1)) = nI k) ∨ (∀ k, k < N → ¬ (xs (ix + 2)) = nI k)) (hP : va_P D vwA (lW a o b kI kL kZ u f v) H) (hD : va_D (fun q => s.heap.size ≤ q) (lW a o b kI kL kZ u f v)) (hS : va_S (fun q => s.heap.size ≤ q) s.heap H locs) (hl : lv_has ls 7 [(0, .ref b0), (1, .ref (a 0)), (2, .ref (b 0)), (3, .ref o), (4, .int (nI ix))]) (hcs : cells + 1 ≤ R.cells ∧ slots + 6 ≤ R.slots) (kk : ∀ (u v : sU) (f : Nat → Int64) (H : Heap) (locs : List Loc) (ls : Array Slot), lw_J u v → va_P D vwA (lW a o b kI kL kZ u f v) H → va_D (fun q => s.heap.size ≤ q) (lW a o b kI kL kZ u f v) → va_S (fun q => s.heap.size ≤ q) s.heap H locs → lv_has ls 7 [(0, .ref b0), (1, .ref (a 0)), (2, .ref (b 0)), (3, .ref o), (4, .int (nI ix))] → W p l e R s m args below meth c H locs (cells + 1) (slots + 6) Q (F0 m 1197 ls [])) : W p l e R s m args below meth c H locs cells slots Q (F0 m 912 ls []) := by
  obtain ⟨hx, hb, hml, hown, hA, hXs, hbl, hK, hXX, hl0, hRf, hRl⟩ := h0
  have hbA : ¬ s.heap.size ≤ b0 := by omega
  have hn := inv_N hI
  have hbS : (∀ k, k < u.2.2 0 → ¬ (xs (ix + 1)) = nI k) ∨ (∀ k, k < u.2.2 0 → ¬ (xs (ix + 2)) = nI k) := by rw [hn.1]; exact hbad
  refine lv_aload_n hx hb dL_law_912 rfl (lv_at hl 1 rfl) ?_
  refine lv_aload_n hx hb dL_law_913 rfl (lv_at hl 0 rfl) ?_
  refine lv_iload hx hb dL_law_914 (lv_at hl 4 rfl) ?_
  refine lv_iconst (v := nI 1) hx hb dL_law_916 (by decide +kernel) ?_
  refine tq_iadd hx hb dL_law_917 ?_
  refine va_sld hx hb hXs hbl hbA hS (vp_in_nI (by omega) (by omega)) dL_law_918 ?_
  refine tq_i (congrArg xs (nI_clamp (by omega))) ?_
  refine lv_aload_n hx hb dL_law_919 rfl (lv_at hl 0 rfl) ?_
  refine lv_iload hx hb dL_law_920 (lv_at hl 4 rfl) ?_
  refine lv_iconst (v := nI 2) hx hb dL_law_922 (by decide +kernel) ?_
  refine tq_iadd hx hb dL_law_923 ?_
  refine va_sld hx hb hXs hbl hbA hS (vp_in_nI (by omega) (by omega)) dL_law_924 ?_
  refine tq_i (congrArg xs (nI_clamp (by omega))) ?_
  refine lv_aload_n hx hb dL_law_925 rfl (lv_at hl 0 rfl) ?_
  refine lv_iload hx hb dL_law_926 (lv_at hl 4 rfl) ?_
  refine lv_iconst (v := nI 3) hx hb dL_law_928 (by decide +kernel) ?_
  refine tq_iadd hx hb dL_law_929 ?_
  refine va_sld hx hb hXs hbl hbA hS (vp_in_nI (by omega) (by omega)) dL_law_930 ?_
  refine tq_i (congrArg xs (nI_clamp (by omega))) ?_
  refine lv_aload_n hx hb dL_law_931 rfl (lv_at hl 3 rfl) ?_
  refine kl_B ⟨hx, hb, hml, hown, hA⟩ (b_common l hl0 D a o kI kL kZ u f (xs (ix + 1)) (xs (ix + 2)) (xs (ix + 3)) (by omega) hbS) (kh_L_113 hA rfl rfl ⟨Nat.le_trans (Nat.le_of_ble_eq_true rfl) hRf, Nat.le_trans (Nat.le_of_ble_eq_true rfl) hRl⟩) hK (fun U hU hW => hXX.at hS (fun q h1 h2 => by omega) hU hW) hP hD hS rfl hl.1 (Nat.le_of_ble_eq_true rfl) ⟨by omega, by omega⟩ dL_law_932 rfl (fun r1 w1 H locs hw1 hP hD hS => ?_)
  refine tq_i hw1.1 ?_
  refine lv_istore (lv' := [(5, .int (nI 1)), (0, .ref b0), (1, .ref (a 0)), (2, .ref (b 0)), (3, .ref o), (4, .int (nI ix))]) hx hb dL_law_935 hl (by decide) rfl (fun ls hl => ?_)
  refine lv_aload_n hx hb dL_law_937 rfl (lv_at hl 3 rfl) ?_
  refine lv_aload_n hx hb dL_law_938 rfl (lv_at hl 1 rfl) ?_
  refine lv_iload hx hb dL_law_939 (lv_at hl 5 rfl) ?_
  refine lv_iconst (v := nI 1) hx hb dL_law_941 (by decide +kernel) ?_
  refine tq_iadd hx hb dL_law_942 ?_
  refine va_sld hx hb hXs hbl hbA hS (vp_in_nI (by omega) (by omega)) dL_law_943 ?_
  refine tq_i (congrArg xs (nI_clamp (by omega))) ?_
  refine lv_aload_n hx hb dL_law_944 rfl (lv_at hl 1 rfl) ?_
  refine lv_iload hx hb dL_law_945 (lv_at hl 5 rfl) ?_
  refine lv_iconst (v := nI 2) hx hb dL_law_947 (by decide +kernel) ?_
  refine tq_iadd hx hb dL_law_948 ?_
  refine va_sld hx hb hXs hbl hbA hS (vp_in_nI (by omega) (by omega)) dL_law_949 ?_
  refine tq_i (congrArg xs (nI_clamp (by omega))) ?_
  refine lv_aload_n hx hb dL_law_950 rfl (lv_at hl 1 rfl) ?_
  refine lv_iload hx hb dL_law_951 (lv_at hl 5 rfl) ?_
  refine lv_iconst (v := nI 3) hx hb dL_law_953 (by decide +kernel) ?_
  refine tq_iadd hx hb dL_law_954 ?_
  refine va_sld hx hb hXs hbl hbA hS (vp_in_nI (by omega) (by omega)) dL_law_955 ?_
  refine tq_i (congrArg xs (nI_clamp (by omega))) ?_
  refine kl_M ⟨hx, hb, hml, hown, hA⟩ (n_common l D b kI kL kZ v N kd fa fb T so xa xb xc hM.1 (xs (ix + 1)) (xs (ix + 2)) (xs (ix + 3)) hbad) (kw_L_115 hA rfl rfl ⟨Nat.le_trans (Nat.le_of_ble_eq_true rfl) hRf, Nat.le_trans (Nat.le_of_ble_eq_true rfl) hRl⟩) hK hP hD hS rfl hl.1 (Nat.le_of_ble_eq_true rfl) ⟨by omega, by omega⟩ dL_law_956 rfl (fun r2 v1 H locs hv1 hP hD hS => ?_)
  have hthr : v1.2.2 0 = 1 := by rw [hv1]; rfl
  have hjj : lw_J w1.1 v1 := by
    rw [hw1.2, hv1]
    exact ⟨_, _, _, _, _, _, _, _, _, _, _, _, hI, minv_thr hM⟩
  refine lv_istore (lv' := [(6, .int r2), (5, .int (nI 1)), (0, .ref b0), (1, .ref (a 0)), (2, .ref (b 0)), (3, .ref o), (4, .int (nI ix))]) hx hb dL_law_959 hl (by decide) rfl (fun ls hl => ?_)
  refine lv_aload_n hx hb dL_law_961 rfl (lv_at hl 4 rfl) ?_
  refine kl_T ⟨hx, hb, hml, hown, hA⟩ (m_thrown l D b kI kL kZ v1) (kw_L_73 hA rfl rfl ⟨Nat.le_trans (Nat.le_of_ble_eq_true rfl) hRf, Nat.le_trans (Nat.le_of_ble_eq_true rfl) hRl⟩) hK hP hS rfl hl.1 (Nat.le_of_ble_eq_true rfl) ⟨by omega, by omega⟩ dL_law_962 rfl (fun H locs hP hS => ?_)
  refine tq_i (congrArg nI hthr) ?_
  refine lv_iload hx hb dL_law_965 (lv_at hl 1 rfl) ?_
  refine tq_eq hx hb dL_law_967 (tgt := 972) (by decide) (by omega) (by omega) (fun h967 => ?_) (fun h967 => ?_)
  · refine lv_iload hx hb dL_law_972 (lv_at hl 1 rfl) ?_
    refine tq_zne hx hb dL_law_974 (tgt := 989) (by decide) (by omega) (fun h974 => ?_) (fun h974 => ?_)
    · refine lv_goto hx hb dL_law_989 (tgt := 1197) (by decide) ?_
      exact kk w1.1 v1 w1.2 H locs ls hjj hP hD hS (lv_sub hl [2, 3, 4, 5, 6] rfl)
    · omega
  · omega
theorem lc_13 {p : Program} {l : Launch} {e : Env} {R : Room} {s : State} {m : MethodId} {args : Array Value} {below : List Frame} {meth : Method} {c : Code} {H : Heap} {locs : List Loc} {cells slots : Nat} {Q : State → Prop} {ls : Array Slot} {b0 L : Nat} {xs : Nat → Int32} {D : va_G} {kI kL kZ : ClassId} {a b : Nat → Nat} {o : Nat} {u v : sU} {f : Nat → Int64} {ix : Nat} (h0 : lw_C p l R s m args c b0 L xs D kI kL kZ) (hi : ix + 4 ≤ L) (hL : L ≤ 2048) (hJ : lw_J u v) (hP : va_P D vwA (lW a o b kI kL kZ u f v) H) (hD : va_D (fun q => s.heap.size ≤ q) (lW a o b kI kL kZ u f v)) (hS : va_S (fun q => s.heap.size ≤ q) s.heap H locs) (hl : lv_has ls 7 [(0, .ref b0), (1, .ref (a 0)), (2, .ref (b 0)), (3, .ref o), (4, .int (nI ix))]) (hcs : cells + 1 ≤ R.cells ∧ slots + 6 ≤ R.slots) (kk : ∀ (u v : sU) (f : Nat → Int64) (H : Heap) (locs : List Loc) (ls : Array Slot), lw_J u v → va_P D vwA (lW a o b kI kL kZ u f v) H → va_D (fun q => s.heap.size ≤ q) (lW a o b kI kL kZ u f v) → va_S (fun q => s.heap.size ≤ q) s.heap H locs → lv_has ls 7 [(0, .ref b0), (1, .ref (a 0)), (2, .ref (b 0)), (3, .ref o), (4, .int (nI ix))] → W p l e R s m args below meth c H locs (cells + 1) (slots + 6) Q (F0 m 1197 ls [])) : W p l e R s m args below meth c H locs cells slots Q (F0 m 912 ls []) := by
  obtain ⟨N, kd, fa, fb, T, so, xa, xb, xc, F, M, rs, hI, hM⟩ := hJ
  by_cases c1 : ∃ k, k < N ∧ xs (ix + 1) = nI k
  · obtain ⟨d, e1, f1⟩ := c1
    by_cases c2 : ∃ k, k < N ∧ xs (ix + 2) = nI k
    · obtain ⟨d2, e2, f2⟩ := c2
      exact lg_common h0 hi hL hI hM d d2 e1 e2 f1 f2 hP hD hS hl hcs kk
    · exact lb_common h0 hi hL hI hM (Or.inr ((fun k hk z => c2 ⟨k, hk, z⟩))) hP hD hS hl hcs kk
  · exact lb_common h0 hi hL hI hM (Or.inl (fun k hk z => c1 ⟨k, hk, z⟩)) hP hD hS hl hcs kk
set_option maxHeartbeats 4000000 in
set_option maxRecDepth 100000 in
theorem lg_why {p : Program} {l : Launch} {e : Env} {R : Room} {s : State} {m : MethodId} {args : Array Value} {below : List Frame} {meth : Method} {c : Code} {H : Heap} {locs : List Loc} {cells slots : Nat} {Q : State → Prop} {ls : Array Slot} {b0 L : Nat} {xs : Nat → Int32} {D : va_G} {kI kL kZ : ClassId} {a b : Nat → Nat} {o : Nat} {u v : sU} {f : Nat → Int64} {ix : Nat} (h0 : lw_C p l R s m args c b0 L xs D kI kL kZ) (hi : ix + 4 ≤ L) (hL : L ≤ 2048) {N : Nat} {kd fa fb : Nat → Nat} {T : Nat} {so xa xb xc : Nat → Nat} {F : Nat → Prop} {M : Nat} {rs : Nat → Nat} (hI : s_inv u N kd fa fb T so xa xb xc F M rs) (hM : m_inv v N kd fa fb T so xa xb xc F M rs) (d d2 : Nat) (hd : d < N) (hd2 : d2 < N) (hxs1 : xs (ix + 1) = nI d) (hxs2 : xs (ix + 2) = nI d2) (hP : va_P D vwA (lW a o b kI kL kZ u f v) H) (hD : va_D (fun q => s.heap.size ≤ q) (lW a o b kI kL kZ u f v)) (hS : va_S (fun q => s.heap.size ≤ q) s.heap H locs) (hl : lv_has ls 7 [(0, .ref b0), (1, .ref (a 0)), (2, .ref (b 0)), (3, .ref o), (4, .int (nI ix))]) (hcs : cells + 1 ≤ R.cells ∧ slots + 6 ≤ R.slots) (kk : ∀ (u v : sU) (f : Nat → Int64) (H : Heap) (locs : List Loc) (ls : Array Slot), lw_J u v → va_P D vwA (lW a o b kI kL kZ u f v) H → va_D (fun q => s.heap.size ≤ q) (lW a o b kI kL kZ u f v) → va_S (fun q => s.heap.size ≤ q) s.heap H locs → lv_has ls 7 [(0, .ref b0), (1, .ref (a 0)), (2, .ref (b 0)), (3, .ref o), (4, .int (nI ix))] → W p l e R s m args below meth c H locs (cells + 1) (slots + 6) Q (F0 m 1197 ls [])) : W p l e R s m args below meth c H locs cells slots Q (F0 m 992 ls []) := by
  obtain ⟨hx, hb, hml, hown, hA, hXs, hbl, hK, hXX, hl0, hRf, hRl⟩ := h0
  have hbA : ¬ s.heap.size ≤ b0 := by omega
  refine lv_aload_n hx hb dL_law_992 rfl (lv_at hl 1 rfl) ?_
  refine lv_aload_n hx hb dL_law_993 rfl (lv_at hl 0 rfl) ?_
  refine lv_iload hx hb dL_law_994 (lv_at hl 4 rfl) ?_
  refine lv_iconst (v := nI 1) hx hb dL_law_996 (by decide +kernel) ?_
  refine tq_iadd hx hb dL_law_997 ?_
  refine va_sld hx hb hXs hbl hbA hS (vp_in_nI (by omega) (by omega)) dL_law_998 ?_
  refine tq_i (congrArg xs (nI_clamp (by omega))) ?_
  refine tq_i hxs1 ?_
  refine lv_aload_n hx hb dL_law_999 rfl (lv_at hl 0 rfl) ?_
  refine lv_iload hx hb dL_law_1000 (lv_at hl 4 rfl) ?_
  refine lv_iconst (v := nI 2) hx hb dL_law_1002 (by decide +kernel) ?_
  refine tq_iadd hx hb dL_law_1003 ?_
  refine va_sld hx hb hXs hbl hbA hS (vp_in_nI (by omega) (by omega)) dL_law_1004 ?_
  refine tq_i (congrArg xs (nI_clamp (by omega))) ?_
  refine tq_i hxs2 ?_
  refine lv_aload_n hx hb dL_law_1005 rfl (lv_at hl 3 rfl) ?_
  refine kl_H ⟨hx, hb, hml, hown, hA⟩ (g_why l D a o kI kL kZ u f N kd fa fb T so xa xb xc F M rs hI d d2 hd hd2) (kh_L_116 hA rfl rfl ⟨Nat.le_trans (Nat.le_of_ble_eq_true rfl) hRf, Nat.le_trans (Nat.le_of_ble_eq_true rfl) hRl⟩) hK hP hD hS rfl hl.1 (Nat.le_of_ble_eq_true rfl) ⟨by omega, by omega⟩ dL_law_1006 rfl (fun r1 w1 H locs hw1 hP hD hS => ?_)
  obtain ⟨r0, hf0, hq⟩ := hw1.2
  refine tq_i hw1.1 ?_
  refine lv_istore (lv' := [(5, .int (nI 0)), (0, .ref b0), (1, .ref (a 0)), (2, .ref (b 0)), (3, .ref o), (4, .int (nI ix))]) hx hb dL_law_1009 hl (by decide) rfl (fun ls hl => ?_)
  refine lv_aload_n hx hb dL_law_1011 rfl (lv_at hl 3 rfl) ?_
  refine lv_aload_n hx hb dL_law_1012 rfl (lv_at hl 1 rfl) ?_
  refine lv_iload hx hb dL_law_1013 (lv_at hl 5 rfl) ?_
  refine lv_iconst (v := nI 1) hx hb dL_law_1015 (by decide +kernel) ?_
  refine tq_iadd hx hb dL_law_1016 ?_
  refine va_sld hx hb hXs hbl hbA hS (vp_in_nI (by omega) (by omega)) dL_law_1017 ?_
  refine tq_i (congrArg xs (nI_clamp (by omega))) ?_
  refine tq_i hxs1 ?_
  refine lv_aload_n hx hb dL_law_1018 rfl (lv_at hl 1 rfl) ?_
  refine lv_iload hx hb dL_law_1019 (lv_at hl 5 rfl) ?_
  refine lv_iconst (v := nI 2) hx hb dL_law_1021 (by decide +kernel) ?_
  refine tq_iadd hx hb dL_law_1022 ?_
  refine va_sld hx hb hXs hbl hbA hS (vp_in_nI (by omega) (by omega)) dL_law_1023 ?_
  refine tq_i (congrArg xs (nI_clamp (by omega))) ?_
  refine tq_i hxs2 ?_
  refine kl_M ⟨hx, hb, hml, hown, hA⟩ (w_why l D b kI kL kZ v N kd fa fb T so xa xb xc F M rs hM d d2 hd hd2) (kw_L_118 hA rfl rfl ⟨Nat.le_trans (Nat.le_of_ble_eq_true rfl) hRf, Nat.le_trans (Nat.le_of_ble_eq_true rfl) hRl⟩) hK hP hD hS rfl hl.1 (Nat.le_of_ble_eq_true rfl) ⟨by omega, by omega⟩ dL_law_1024 rfl (fun r2 v1 H locs hv1 hP hD hS => ?_)
  have hthr : v1.2.2 0 = 0 := hv1.2
  have hjj : r0 = r2 ∧ lw_J w1.1 v1 := j_wy hq hv1.1
  refine lv_istore (lv' := [(6, .int r2), (5, .int (nI 0)), (0, .ref b0), (1, .ref (a 0)), (2, .ref (b 0)), (3, .ref o), (4, .int (nI ix))]) hx hb dL_law_1027 hl (by decide) rfl (fun ls hl => ?_)
  refine lv_aload_n hx hb dL_law_1029 rfl (lv_at hl 4 rfl) ?_
  refine kl_T ⟨hx, hb, hml, hown, hA⟩ (m_thrown l D b kI kL kZ v1) (kw_L_73 hA rfl rfl ⟨Nat.le_trans (Nat.le_of_ble_eq_true rfl) hRf, Nat.le_trans (Nat.le_of_ble_eq_true rfl) hRl⟩) hK hP hS rfl hl.1 (Nat.le_of_ble_eq_true rfl) ⟨by omega, by omega⟩ dL_law_1030 rfl (fun H locs hP hS => ?_)
  refine tq_i (congrArg nI hthr) ?_
  refine lv_iload hx hb dL_law_1033 (lv_at hl 1 rfl) ?_
  refine tq_eq hx hb dL_law_1035 (tgt := 1040) (by decide) (by omega) (by omega) (fun h1035 => ?_) (fun h1035 => ?_)
  · refine lv_iload hx hb dL_law_1040 (lv_at hl 1 rfl) ?_
    refine tq_zne hx hb dL_law_1042 (tgt := 1057) (by decide) (by omega) (fun h1042 => ?_) (fun h1042 => ?_)
    · omega
    · refine lv_aload_n hx hb dL_law_1045 rfl (lv_at hl 5 rfl) ?_
      refine lv_iconst (v := nI 0) hx hb dL_law_1046 (by decide +kernel) ?_
      refine tq_lald hx hb hK hP 32 1 rfl rfl (by omega) (by omega) dL_law_1047 ?_
      refine lv_iload hx hb dL_law_1048 (lv_at hl 0 rfl) ?_
      refine lv_i2l hx hb dL_law_1050 rfl ?_
      refine tq_leq hx hb dL_law_1051 dL_law_1052 (tgt := 1057) (by decide) (fun h1051 => ?_) (fun h1051 => ?_)
      · refine lv_goto hx hb dL_law_1057 (tgt := 1197) (by decide) ?_
        refine W.widen (k := cells + 1) (n := slots + 6) (by omega) (by omega) ?_
        exact kk w1.1 v1 w1.2 H locs ls hjj.2 hP hD hS (lv_sub hl [2, 3, 4, 5, 6] rfl)
      · exact absurd (hf0.trans (congrArg Int32.toInt64 hjj.1)) h1051
  · omega
set_option maxHeartbeats 4000000 in
set_option maxRecDepth 100000 in
theorem lb_why {p : Program} {l : Launch} {e : Env} {R : Room} {s : State} {m : MethodId} {args : Array Value} {below : List Frame} {meth : Method} {c : Code} {H : Heap} {locs : List Loc} {cells slots : Nat} {Q : State → Prop} {ls : Array Slot} {b0 L : Nat} {xs : Nat → Int32} {D : va_G} {kI kL kZ : ClassId} {a b : Nat → Nat} {o : Nat} {u v : sU} {f : Nat → Int64} {ix : Nat} (h0 : lw_C p l R s m args c b0 L xs D kI kL kZ) (hi : ix + 4 ≤ L) (hL : L ≤ 2048) {N : Nat} {kd fa fb : Nat → Nat} {T : Nat} {so xa xb xc : Nat → Nat} {F : Nat → Prop} {M : Nat} {rs : Nat → Nat} (hI : s_inv u N kd fa fb T so xa xb xc F M rs) (hM : m_inv v N kd fa fb T so xa xb xc F M rs) (hbad : (∀ k, k < N → ¬ (xs (ix + 1)) = nI k) ∨ (∀ k, k < N → ¬ (xs (ix + 2)) = nI k)) (hP : va_P D vwA (lW a o b kI kL kZ u f v) H) (hD : va_D (fun q => s.heap.size ≤ q) (lW a o b kI kL kZ u f v)) (hS : va_S (fun q => s.heap.size ≤ q) s.heap H locs) (hl : lv_has ls 7 [(0, .ref b0), (1, .ref (a 0)), (2, .ref (b 0)), (3, .ref o), (4, .int (nI ix))]) (hcs : cells + 1 ≤ R.cells ∧ slots + 6 ≤ R.slots) (kk : ∀ (u v : sU) (f : Nat → Int64) (H : Heap) (locs : List Loc) (ls : Array Slot), lw_J u v → va_P D vwA (lW a o b kI kL kZ u f v) H → va_D (fun q => s.heap.size ≤ q) (lW a o b kI kL kZ u f v) → va_S (fun q => s.heap.size ≤ q) s.heap H locs → lv_has ls 7 [(0, .ref b0), (1, .ref (a 0)), (2, .ref (b 0)), (3, .ref o), (4, .int (nI ix))] → W p l e R s m args below meth c H locs (cells + 1) (slots + 6) Q (F0 m 1197 ls [])) : W p l e R s m args below meth c H locs cells slots Q (F0 m 992 ls []) := by
  obtain ⟨hx, hb, hml, hown, hA, hXs, hbl, hK, hXX, hl0, hRf, hRl⟩ := h0
  have hbA : ¬ s.heap.size ≤ b0 := by omega
  have hn := inv_N hI
  have hbS : (∀ k, k < u.2.2 0 → ¬ (xs (ix + 1)) = nI k) ∨ (∀ k, k < u.2.2 0 → ¬ (xs (ix + 2)) = nI k) := by rw [hn.1]; exact hbad
  refine lv_aload_n hx hb dL_law_992 rfl (lv_at hl 1 rfl) ?_
  refine lv_aload_n hx hb dL_law_993 rfl (lv_at hl 0 rfl) ?_
  refine lv_iload hx hb dL_law_994 (lv_at hl 4 rfl) ?_
  refine lv_iconst (v := nI 1) hx hb dL_law_996 (by decide +kernel) ?_
  refine tq_iadd hx hb dL_law_997 ?_
  refine va_sld hx hb hXs hbl hbA hS (vp_in_nI (by omega) (by omega)) dL_law_998 ?_
  refine tq_i (congrArg xs (nI_clamp (by omega))) ?_
  refine lv_aload_n hx hb dL_law_999 rfl (lv_at hl 0 rfl) ?_
  refine lv_iload hx hb dL_law_1000 (lv_at hl 4 rfl) ?_
  refine lv_iconst (v := nI 2) hx hb dL_law_1002 (by decide +kernel) ?_
  refine tq_iadd hx hb dL_law_1003 ?_
  refine va_sld hx hb hXs hbl hbA hS (vp_in_nI (by omega) (by omega)) dL_law_1004 ?_
  refine tq_i (congrArg xs (nI_clamp (by omega))) ?_
  refine lv_aload_n hx hb dL_law_1005 rfl (lv_at hl 3 rfl) ?_
  refine kl_B ⟨hx, hb, hml, hown, hA⟩ (b_why l hl0 D a o kI kL kZ u f (xs (ix + 1)) (xs (ix + 2)) (by omega) hbS) (kh_L_116 hA rfl rfl ⟨Nat.le_trans (Nat.le_of_ble_eq_true rfl) hRf, Nat.le_trans (Nat.le_of_ble_eq_true rfl) hRl⟩) hK (fun U hU hW => hXX.at hS (fun q h1 h2 => by omega) hU hW) hP hD hS rfl hl.1 (Nat.le_of_ble_eq_true rfl) ⟨by omega, by omega⟩ dL_law_1006 rfl (fun r1 w1 H locs hw1 hP hD hS => ?_)
  refine tq_i hw1.1 ?_
  refine lv_istore (lv' := [(5, .int (nI 1)), (0, .ref b0), (1, .ref (a 0)), (2, .ref (b 0)), (3, .ref o), (4, .int (nI ix))]) hx hb dL_law_1009 hl (by decide) rfl (fun ls hl => ?_)
  refine lv_aload_n hx hb dL_law_1011 rfl (lv_at hl 3 rfl) ?_
  refine lv_aload_n hx hb dL_law_1012 rfl (lv_at hl 1 rfl) ?_
  refine lv_iload hx hb dL_law_1013 (lv_at hl 5 rfl) ?_
  refine lv_iconst (v := nI 1) hx hb dL_law_1015 (by decide +kernel) ?_
  refine tq_iadd hx hb dL_law_1016 ?_
  refine va_sld hx hb hXs hbl hbA hS (vp_in_nI (by omega) (by omega)) dL_law_1017 ?_
  refine tq_i (congrArg xs (nI_clamp (by omega))) ?_
  refine lv_aload_n hx hb dL_law_1018 rfl (lv_at hl 1 rfl) ?_
  refine lv_iload hx hb dL_law_1019 (lv_at hl 5 rfl) ?_
  refine lv_iconst (v := nI 2) hx hb dL_law_1021 (by decide +kernel) ?_
  refine tq_iadd hx hb dL_law_1022 ?_
  refine va_sld hx hb hXs hbl hbA hS (vp_in_nI (by omega) (by omega)) dL_law_1023 ?_
  refine tq_i (congrArg xs (nI_clamp (by omega))) ?_
  refine kl_M ⟨hx, hb, hml, hown, hA⟩ (n_why l D b kI kL kZ v N kd fa fb T so xa xb xc hM.1 (xs (ix + 1)) (xs (ix + 2)) hbad) (kw_L_118 hA rfl rfl ⟨Nat.le_trans (Nat.le_of_ble_eq_true rfl) hRf, Nat.le_trans (Nat.le_of_ble_eq_true rfl) hRl⟩) hK hP hD hS rfl hl.1 (Nat.le_of_ble_eq_true rfl) ⟨by omega, by omega⟩ dL_law_1024 rfl (fun r2 v1 H locs hv1 hP hD hS => ?_)
  have hthr : v1.2.2 0 = 1 := by rw [hv1]; rfl
  have hjj : lw_J w1.1 v1 := by
    rw [hw1.2, hv1]
    exact ⟨_, _, _, _, _, _, _, _, _, _, _, _, hI, minv_thr hM⟩
  refine lv_istore (lv' := [(6, .int r2), (5, .int (nI 1)), (0, .ref b0), (1, .ref (a 0)), (2, .ref (b 0)), (3, .ref o), (4, .int (nI ix))]) hx hb dL_law_1027 hl (by decide) rfl (fun ls hl => ?_)
  refine lv_aload_n hx hb dL_law_1029 rfl (lv_at hl 4 rfl) ?_
  refine kl_T ⟨hx, hb, hml, hown, hA⟩ (m_thrown l D b kI kL kZ v1) (kw_L_73 hA rfl rfl ⟨Nat.le_trans (Nat.le_of_ble_eq_true rfl) hRf, Nat.le_trans (Nat.le_of_ble_eq_true rfl) hRl⟩) hK hP hS rfl hl.1 (Nat.le_of_ble_eq_true rfl) ⟨by omega, by omega⟩ dL_law_1030 rfl (fun H locs hP hS => ?_)
  refine tq_i (congrArg nI hthr) ?_
  refine lv_iload hx hb dL_law_1033 (lv_at hl 1 rfl) ?_
  refine tq_eq hx hb dL_law_1035 (tgt := 1040) (by decide) (by omega) (by omega) (fun h1035 => ?_) (fun h1035 => ?_)
  · refine lv_iload hx hb dL_law_1040 (lv_at hl 1 rfl) ?_
    refine tq_zne hx hb dL_law_1042 (tgt := 1057) (by decide) (by omega) (fun h1042 => ?_) (fun h1042 => ?_)
    · refine lv_goto hx hb dL_law_1057 (tgt := 1197) (by decide) ?_
      exact kk w1.1 v1 w1.2 H locs ls hjj hP hD hS (lv_sub hl [2, 3, 4, 5, 6] rfl)
    · omega
  · omega
theorem lc_14 {p : Program} {l : Launch} {e : Env} {R : Room} {s : State} {m : MethodId} {args : Array Value} {below : List Frame} {meth : Method} {c : Code} {H : Heap} {locs : List Loc} {cells slots : Nat} {Q : State → Prop} {ls : Array Slot} {b0 L : Nat} {xs : Nat → Int32} {D : va_G} {kI kL kZ : ClassId} {a b : Nat → Nat} {o : Nat} {u v : sU} {f : Nat → Int64} {ix : Nat} (h0 : lw_C p l R s m args c b0 L xs D kI kL kZ) (hi : ix + 4 ≤ L) (hL : L ≤ 2048) (hJ : lw_J u v) (hP : va_P D vwA (lW a o b kI kL kZ u f v) H) (hD : va_D (fun q => s.heap.size ≤ q) (lW a o b kI kL kZ u f v)) (hS : va_S (fun q => s.heap.size ≤ q) s.heap H locs) (hl : lv_has ls 7 [(0, .ref b0), (1, .ref (a 0)), (2, .ref (b 0)), (3, .ref o), (4, .int (nI ix))]) (hcs : cells + 1 ≤ R.cells ∧ slots + 6 ≤ R.slots) (kk : ∀ (u v : sU) (f : Nat → Int64) (H : Heap) (locs : List Loc) (ls : Array Slot), lw_J u v → va_P D vwA (lW a o b kI kL kZ u f v) H → va_D (fun q => s.heap.size ≤ q) (lW a o b kI kL kZ u f v) → va_S (fun q => s.heap.size ≤ q) s.heap H locs → lv_has ls 7 [(0, .ref b0), (1, .ref (a 0)), (2, .ref (b 0)), (3, .ref o), (4, .int (nI ix))] → W p l e R s m args below meth c H locs (cells + 1) (slots + 6) Q (F0 m 1197 ls [])) : W p l e R s m args below meth c H locs cells slots Q (F0 m 992 ls []) := by
  obtain ⟨N, kd, fa, fb, T, so, xa, xb, xc, F, M, rs, hI, hM⟩ := hJ
  by_cases c1 : ∃ k, k < N ∧ xs (ix + 1) = nI k
  · obtain ⟨d, e1, f1⟩ := c1
    by_cases c2 : ∃ k, k < N ∧ xs (ix + 2) = nI k
    · obtain ⟨d2, e2, f2⟩ := c2
      exact lg_why h0 hi hL hI hM d d2 e1 e2 f1 f2 hP hD hS hl hcs kk
    · exact lb_why h0 hi hL hI hM (Or.inr ((fun k hk z => c2 ⟨k, hk, z⟩))) hP hD hS hl hcs kk
  · exact lb_why h0 hi hL hI hM (Or.inl (fun k hk z => c1 ⟨k, hk, z⟩)) hP hD hS hl hcs kk
set_option maxHeartbeats 4000000 in
set_option maxRecDepth 100000 in
theorem lg_has {p : Program} {l : Launch} {e : Env} {R : Room} {s : State} {m : MethodId} {args : Array Value} {below : List Frame} {meth : Method} {c : Code} {H : Heap} {locs : List Loc} {cells slots : Nat} {Q : State → Prop} {ls : Array Slot} {b0 L : Nat} {xs : Nat → Int32} {D : va_G} {kI kL kZ : ClassId} {a b : Nat → Nat} {o : Nat} {u v : sU} {f : Nat → Int64} {ix : Nat} (h0 : lw_C p l R s m args c b0 L xs D kI kL kZ) (hi : ix + 4 ≤ L) (hL : L ≤ 2048) {N : Nat} {kd fa fb : Nat → Nat} {T : Nat} {so xa xb xc : Nat → Nat} {F : Nat → Prop} {M : Nat} {rs : Nat → Nat} (hI : s_inv u N kd fa fb T so xa xb xc F M rs) (hM : m_inv v N kd fa fb T so xa xb xc F M rs) (x i y : Nat) (hx1 : x < N) (hi6 : i < 6) (hy1 : y < N) (hxs1 : xs (ix + 1) = nI x) (hxs2 : xs (ix + 2) = nI i) (hxs3 : xs (ix + 3) = nI y) (hP : va_P D vwA (lW a o b kI kL kZ u f v) H) (hD : va_D (fun q => s.heap.size ≤ q) (lW a o b kI kL kZ u f v)) (hS : va_S (fun q => s.heap.size ≤ q) s.heap H locs) (hl : lv_has ls 7 [(0, .ref b0), (1, .ref (a 0)), (2, .ref (b 0)), (3, .ref o), (4, .int (nI ix))]) (hcs : cells + 1 ≤ R.cells ∧ slots + 6 ≤ R.slots) (kk : ∀ (u v : sU) (f : Nat → Int64) (H : Heap) (locs : List Loc) (ls : Array Slot), lw_J u v → va_P D vwA (lW a o b kI kL kZ u f v) H → va_D (fun q => s.heap.size ≤ q) (lW a o b kI kL kZ u f v) → va_S (fun q => s.heap.size ≤ q) s.heap H locs → lv_has ls 7 [(0, .ref b0), (1, .ref (a 0)), (2, .ref (b 0)), (3, .ref o), (4, .int (nI ix))] → W p l e R s m args below meth c H locs (cells + 1) (slots + 6) Q (F0 m 1197 ls [])) : W p l e R s m args below meth c H locs cells slots Q (F0 m 1085 ls []) := by
  obtain ⟨hx, hb, hml, hown, hA, hXs, hbl, hK, hXX, hl0, hRf, hRl⟩ := h0
  have hbA : ¬ s.heap.size ≤ b0 := by omega
  refine lv_aload_n hx hb dL_law_1085 rfl (lv_at hl 1 rfl) ?_
  refine lv_aload_n hx hb dL_law_1086 rfl (lv_at hl 0 rfl) ?_
  refine lv_iload hx hb dL_law_1087 (lv_at hl 4 rfl) ?_
  refine lv_iconst (v := nI 1) hx hb dL_law_1089 (by decide +kernel) ?_
  refine tq_iadd hx hb dL_law_1090 ?_
  refine va_sld hx hb hXs hbl hbA hS (vp_in_nI (by omega) (by omega)) dL_law_1091 ?_
  refine tq_i (congrArg xs (nI_clamp (by omega))) ?_
  refine tq_i hxs1 ?_
  refine lv_aload_n hx hb dL_law_1092 rfl (lv_at hl 0 rfl) ?_
  refine lv_iload hx hb dL_law_1093 (lv_at hl 4 rfl) ?_
  refine lv_iconst (v := nI 2) hx hb dL_law_1095 (by decide +kernel) ?_
  refine tq_iadd hx hb dL_law_1096 ?_
  refine va_sld hx hb hXs hbl hbA hS (vp_in_nI (by omega) (by omega)) dL_law_1097 ?_
  refine tq_i (congrArg xs (nI_clamp (by omega))) ?_
  refine tq_i hxs2 ?_
  refine lv_aload_n hx hb dL_law_1098 rfl (lv_at hl 0 rfl) ?_
  refine lv_iload hx hb dL_law_1099 (lv_at hl 4 rfl) ?_
  refine lv_iconst (v := nI 3) hx hb dL_law_1101 (by decide +kernel) ?_
  refine tq_iadd hx hb dL_law_1102 ?_
  refine va_sld hx hb hXs hbl hbA hS (vp_in_nI (by omega) (by omega)) dL_law_1103 ?_
  refine tq_i (congrArg xs (nI_clamp (by omega))) ?_
  refine tq_i hxs3 ?_
  refine lv_aload_n hx hb dL_law_1104 rfl (lv_at hl 3 rfl) ?_
  refine kl_H ⟨hx, hb, hml, hown, hA⟩ (g_has l D a o kI kL kZ u f N kd fa fb T so xa xb xc F M rs hI x i y hx1 hi6 hy1) (kh_L_123 hA rfl rfl ⟨Nat.le_trans (Nat.le_of_ble_eq_true rfl) hRf, Nat.le_trans (Nat.le_of_ble_eq_true rfl) hRl⟩) hK hP hD hS rfl hl.1 (Nat.le_of_ble_eq_true rfl) ⟨by omega, by omega⟩ dL_law_1105 rfl (fun r1 w1 H locs hw1 hP hD hS => ?_)
  obtain ⟨r0, hf0, hq⟩ := hw1.2
  refine tq_i hw1.1 ?_
  refine lv_istore (lv' := [(5, .int (nI 0)), (0, .ref b0), (1, .ref (a 0)), (2, .ref (b 0)), (3, .ref o), (4, .int (nI ix))]) hx hb dL_law_1108 hl (by decide) rfl (fun ls hl => ?_)
  refine lv_aload_n hx hb dL_law_1110 rfl (lv_at hl 3 rfl) ?_
  refine lv_aload_n hx hb dL_law_1111 rfl (lv_at hl 1 rfl) ?_
  refine lv_iload hx hb dL_law_1112 (lv_at hl 5 rfl) ?_
  refine lv_iconst (v := nI 1) hx hb dL_law_1114 (by decide +kernel) ?_
  refine tq_iadd hx hb dL_law_1115 ?_
  refine va_sld hx hb hXs hbl hbA hS (vp_in_nI (by omega) (by omega)) dL_law_1116 ?_
  refine tq_i (congrArg xs (nI_clamp (by omega))) ?_
  refine tq_i hxs1 ?_
  refine lv_aload_n hx hb dL_law_1117 rfl (lv_at hl 1 rfl) ?_
  refine lv_iload hx hb dL_law_1118 (lv_at hl 5 rfl) ?_
  refine lv_iconst (v := nI 2) hx hb dL_law_1120 (by decide +kernel) ?_
  refine tq_iadd hx hb dL_law_1121 ?_
  refine va_sld hx hb hXs hbl hbA hS (vp_in_nI (by omega) (by omega)) dL_law_1122 ?_
  refine tq_i (congrArg xs (nI_clamp (by omega))) ?_
  refine tq_i hxs2 ?_
  refine lv_aload_n hx hb dL_law_1123 rfl (lv_at hl 1 rfl) ?_
  refine lv_iload hx hb dL_law_1124 (lv_at hl 5 rfl) ?_
  refine lv_iconst (v := nI 3) hx hb dL_law_1126 (by decide +kernel) ?_
  refine tq_iadd hx hb dL_law_1127 ?_
  refine va_sld hx hb hXs hbl hbA hS (vp_in_nI (by omega) (by omega)) dL_law_1128 ?_
  refine tq_i (congrArg xs (nI_clamp (by omega))) ?_
  refine tq_i hxs3 ?_
  refine kl_M ⟨hx, hb, hml, hown, hA⟩ (w_has l D b kI kL kZ v N kd fa fb T so xa xb xc F M rs hM x i y hx1 hi6 hy1) (kw_L_125 hA rfl rfl ⟨Nat.le_trans (Nat.le_of_ble_eq_true rfl) hRf, Nat.le_trans (Nat.le_of_ble_eq_true rfl) hRl⟩) hK hP hD hS rfl hl.1 (Nat.le_of_ble_eq_true rfl) ⟨by omega, by omega⟩ dL_law_1129 rfl (fun r2 v1 H locs hv1 hP hD hS => ?_)
  have hthr : v1.2.2 0 = 0 := hv1.2
  have hjj : r0 = r2 ∧ lw_J w1.1 v1 := j_eq hq hv1.1
  obtain ⟨b2, hb2⟩ : ∃ b2 : Bool, r2 = bI b2 := ⟨_, hv1.1.1⟩
  refine tq_i hb2 ?_
  refine lv_istore (lv' := [(6, .int (bI b2)), (5, .int (nI 0)), (0, .ref b0), (1, .ref (a 0)), (2, .ref (b 0)), (3, .ref o), (4, .int (nI ix))]) hx hb dL_law_1132 hl (by decide) rfl (fun ls hl => ?_)
  refine lv_aload_n hx hb dL_law_1134 rfl (lv_at hl 4 rfl) ?_
  refine kl_T ⟨hx, hb, hml, hown, hA⟩ (m_thrown l D b kI kL kZ v1) (kw_L_73 hA rfl rfl ⟨Nat.le_trans (Nat.le_of_ble_eq_true rfl) hRf, Nat.le_trans (Nat.le_of_ble_eq_true rfl) hRl⟩) hK hP hS rfl hl.1 (Nat.le_of_ble_eq_true rfl) ⟨by omega, by omega⟩ dL_law_1135 rfl (fun H locs hP hS => ?_)
  refine tq_i (congrArg nI hthr) ?_
  refine lv_iload hx hb dL_law_1138 (lv_at hl 1 rfl) ?_
  refine tq_eq hx hb dL_law_1140 (tgt := 1145) (by decide) (by omega) (by omega) (fun h1140 => ?_) (fun h1140 => ?_)
  · refine lv_iload hx hb dL_law_1145 (lv_at hl 1 rfl) ?_
    refine tq_zne hx hb dL_law_1147 (tgt := 1169) (by decide) (by omega) (fun h1147 => ?_) (fun h1147 => ?_)
    · omega
    · refine lv_aload_n hx hb dL_law_1150 rfl (lv_at hl 5 rfl) ?_
      refine lv_iconst (v := nI 0) hx hb dL_law_1151 (by decide +kernel) ?_
      refine tq_lald hx hb hK hP 32 1 rfl rfl (by omega) (by omega) dL_law_1152 ?_
      refine lv_iload hx hb dL_law_1153 (lv_at hl 0 rfl) ?_
      refine tq_bf hx hb dL_law_1155 (tgt := 1162) (by decide) (fun h1155 => ?_) (fun h1155 => ?_)
      · refine lv_lconst (v := 0) hx hb dL_law_1162 (by decide +kernel) ?_
        refine tq_leq hx hb dL_law_1163 dL_law_1164 (tgt := 1169) (by decide) (fun h1163 => ?_) (fun h1163 => ?_)
        · refine lv_goto hx hb dL_law_1169 (tgt := 1197) (by decide) ?_
          refine W.widen (k := cells + 1) (n := slots + 6) (by omega) (by omega) ?_
          exact kk w1.1 v1 w1.2 H locs ls hjj.2 hP hD hS (lv_sub hl [2, 3, 4, 5, 6] rfl)
        · exact absurd (by rw [hf0, hjj.1, hb2, h1155]; rfl) h1163
      · refine lv_lconst (v := 1) hx hb dL_law_1158 (by decide +kernel) ?_
        refine lv_goto hx hb dL_law_1159 (tgt := 1163) (by decide) ?_
        refine tq_leq hx hb dL_law_1163 dL_law_1164 (tgt := 1169) (by decide) (fun h1163 => ?_) (fun h1163 => ?_)
        · refine lv_goto hx hb dL_law_1169 (tgt := 1197) (by decide) ?_
          refine W.widen (k := cells + 1) (n := slots + 6) (by omega) (by omega) ?_
          exact kk w1.1 v1 w1.2 H locs ls hjj.2 hP hD hS (lv_sub hl [2, 3, 4, 5, 6] rfl)
        · exact absurd (by rw [hf0, hjj.1, hb2, h1155]; rfl) h1163
  · omega
set_option maxHeartbeats 4000000 in
set_option maxRecDepth 100000 in
theorem lb_has {p : Program} {l : Launch} {e : Env} {R : Room} {s : State} {m : MethodId} {args : Array Value} {below : List Frame} {meth : Method} {c : Code} {H : Heap} {locs : List Loc} {cells slots : Nat} {Q : State → Prop} {ls : Array Slot} {b0 L : Nat} {xs : Nat → Int32} {D : va_G} {kI kL kZ : ClassId} {a b : Nat → Nat} {o : Nat} {u v : sU} {f : Nat → Int64} {ix : Nat} (h0 : lw_C p l R s m args c b0 L xs D kI kL kZ) (hi : ix + 4 ≤ L) (hL : L ≤ 2048) {N : Nat} {kd fa fb : Nat → Nat} {T : Nat} {so xa xb xc : Nat → Nat} {F : Nat → Prop} {M : Nat} {rs : Nat → Nat} (hI : s_inv u N kd fa fb T so xa xb xc F M rs) (hM : m_inv v N kd fa fb T so xa xb xc F M rs) (hbad : (∀ k, k < N → ¬ (xs (ix + 1)) = nI k) ∨ (∀ k, k < 6 → ¬ (xs (ix + 2)) = nI k) ∨ (∀ k, k < N → ¬ (xs (ix + 3)) = nI k)) (hP : va_P D vwA (lW a o b kI kL kZ u f v) H) (hD : va_D (fun q => s.heap.size ≤ q) (lW a o b kI kL kZ u f v)) (hS : va_S (fun q => s.heap.size ≤ q) s.heap H locs) (hl : lv_has ls 7 [(0, .ref b0), (1, .ref (a 0)), (2, .ref (b 0)), (3, .ref o), (4, .int (nI ix))]) (hcs : cells + 1 ≤ R.cells ∧ slots + 6 ≤ R.slots) (kk : ∀ (u v : sU) (f : Nat → Int64) (H : Heap) (locs : List Loc) (ls : Array Slot), lw_J u v → va_P D vwA (lW a o b kI kL kZ u f v) H → va_D (fun q => s.heap.size ≤ q) (lW a o b kI kL kZ u f v) → va_S (fun q => s.heap.size ≤ q) s.heap H locs → lv_has ls 7 [(0, .ref b0), (1, .ref (a 0)), (2, .ref (b 0)), (3, .ref o), (4, .int (nI ix))] → W p l e R s m args below meth c H locs (cells + 1) (slots + 6) Q (F0 m 1197 ls [])) : W p l e R s m args below meth c H locs cells slots Q (F0 m 1085 ls []) := by
  obtain ⟨hx, hb, hml, hown, hA, hXs, hbl, hK, hXX, hl0, hRf, hRl⟩ := h0
  have hbA : ¬ s.heap.size ≤ b0 := by omega
  have hn := inv_N hI
  have hbS : (∀ k, k < u.2.2 0 → ¬ (xs (ix + 1)) = nI k) ∨ (∀ k, k < 6 → ¬ (xs (ix + 2)) = nI k) ∨ (∀ k, k < u.2.2 0 → ¬ (xs (ix + 3)) = nI k) := by rw [hn.1]; exact hbad
  refine lv_aload_n hx hb dL_law_1085 rfl (lv_at hl 1 rfl) ?_
  refine lv_aload_n hx hb dL_law_1086 rfl (lv_at hl 0 rfl) ?_
  refine lv_iload hx hb dL_law_1087 (lv_at hl 4 rfl) ?_
  refine lv_iconst (v := nI 1) hx hb dL_law_1089 (by decide +kernel) ?_
  refine tq_iadd hx hb dL_law_1090 ?_
  refine va_sld hx hb hXs hbl hbA hS (vp_in_nI (by omega) (by omega)) dL_law_1091 ?_
  refine tq_i (congrArg xs (nI_clamp (by omega))) ?_
  refine lv_aload_n hx hb dL_law_1092 rfl (lv_at hl 0 rfl) ?_
  refine lv_iload hx hb dL_law_1093 (lv_at hl 4 rfl) ?_
  refine lv_iconst (v := nI 2) hx hb dL_law_1095 (by decide +kernel) ?_
  refine tq_iadd hx hb dL_law_1096 ?_
  refine va_sld hx hb hXs hbl hbA hS (vp_in_nI (by omega) (by omega)) dL_law_1097 ?_
  refine tq_i (congrArg xs (nI_clamp (by omega))) ?_
  refine lv_aload_n hx hb dL_law_1098 rfl (lv_at hl 0 rfl) ?_
  refine lv_iload hx hb dL_law_1099 (lv_at hl 4 rfl) ?_
  refine lv_iconst (v := nI 3) hx hb dL_law_1101 (by decide +kernel) ?_
  refine tq_iadd hx hb dL_law_1102 ?_
  refine va_sld hx hb hXs hbl hbA hS (vp_in_nI (by omega) (by omega)) dL_law_1103 ?_
  refine tq_i (congrArg xs (nI_clamp (by omega))) ?_
  refine lv_aload_n hx hb dL_law_1104 rfl (lv_at hl 3 rfl) ?_
  refine kl_B ⟨hx, hb, hml, hown, hA⟩ (b_has l hl0 D a o kI kL kZ u f (xs (ix + 1)) (xs (ix + 2)) (xs (ix + 3)) (by omega) hbS) (kh_L_123 hA rfl rfl ⟨Nat.le_trans (Nat.le_of_ble_eq_true rfl) hRf, Nat.le_trans (Nat.le_of_ble_eq_true rfl) hRl⟩) hK (fun U hU hW => hXX.at hS (fun q h1 h2 => by omega) hU hW) hP hD hS rfl hl.1 (Nat.le_of_ble_eq_true rfl) ⟨by omega, by omega⟩ dL_law_1105 rfl (fun r1 w1 H locs hw1 hP hD hS => ?_)
  refine tq_i hw1.1 ?_
  refine lv_istore (lv' := [(5, .int (nI 1)), (0, .ref b0), (1, .ref (a 0)), (2, .ref (b 0)), (3, .ref o), (4, .int (nI ix))]) hx hb dL_law_1108 hl (by decide) rfl (fun ls hl => ?_)
  refine lv_aload_n hx hb dL_law_1110 rfl (lv_at hl 3 rfl) ?_
  refine lv_aload_n hx hb dL_law_1111 rfl (lv_at hl 1 rfl) ?_
  refine lv_iload hx hb dL_law_1112 (lv_at hl 5 rfl) ?_
  refine lv_iconst (v := nI 1) hx hb dL_law_1114 (by decide +kernel) ?_
  refine tq_iadd hx hb dL_law_1115 ?_
  refine va_sld hx hb hXs hbl hbA hS (vp_in_nI (by omega) (by omega)) dL_law_1116 ?_
  refine tq_i (congrArg xs (nI_clamp (by omega))) ?_
  refine lv_aload_n hx hb dL_law_1117 rfl (lv_at hl 1 rfl) ?_
  refine lv_iload hx hb dL_law_1118 (lv_at hl 5 rfl) ?_
  refine lv_iconst (v := nI 2) hx hb dL_law_1120 (by decide +kernel) ?_
  refine tq_iadd hx hb dL_law_1121 ?_
  refine va_sld hx hb hXs hbl hbA hS (vp_in_nI (by omega) (by omega)) dL_law_1122 ?_
  refine tq_i (congrArg xs (nI_clamp (by omega))) ?_
  refine lv_aload_n hx hb dL_law_1123 rfl (lv_at hl 1 rfl) ?_
  refine lv_iload hx hb dL_law_1124 (lv_at hl 5 rfl) ?_
  refine lv_iconst (v := nI 3) hx hb dL_law_1126 (by decide +kernel) ?_
  refine tq_iadd hx hb dL_law_1127 ?_
  refine va_sld hx hb hXs hbl hbA hS (vp_in_nI (by omega) (by omega)) dL_law_1128 ?_
  refine tq_i (congrArg xs (nI_clamp (by omega))) ?_
  refine kl_M ⟨hx, hb, hml, hown, hA⟩ (n_has l D b kI kL kZ v N kd fa fb T so xa xb xc hM.1 (xs (ix + 1)) (xs (ix + 2)) (xs (ix + 3)) hbad) (kw_L_125 hA rfl rfl ⟨Nat.le_trans (Nat.le_of_ble_eq_true rfl) hRf, Nat.le_trans (Nat.le_of_ble_eq_true rfl) hRl⟩) hK hP hD hS rfl hl.1 (Nat.le_of_ble_eq_true rfl) ⟨by omega, by omega⟩ dL_law_1129 rfl (fun r2 v1 H locs hv1 hP hD hS => ?_)
  have hthr : v1.2.2 0 = 1 := by rw [hv1]; rfl
  have hjj : lw_J w1.1 v1 := by
    rw [hw1.2, hv1]
    exact ⟨_, _, _, _, _, _, _, _, _, _, _, _, hI, minv_thr hM⟩
  refine lv_istore (lv' := [(6, .int r2), (5, .int (nI 1)), (0, .ref b0), (1, .ref (a 0)), (2, .ref (b 0)), (3, .ref o), (4, .int (nI ix))]) hx hb dL_law_1132 hl (by decide) rfl (fun ls hl => ?_)
  refine lv_aload_n hx hb dL_law_1134 rfl (lv_at hl 4 rfl) ?_
  refine kl_T ⟨hx, hb, hml, hown, hA⟩ (m_thrown l D b kI kL kZ v1) (kw_L_73 hA rfl rfl ⟨Nat.le_trans (Nat.le_of_ble_eq_true rfl) hRf, Nat.le_trans (Nat.le_of_ble_eq_true rfl) hRl⟩) hK hP hS rfl hl.1 (Nat.le_of_ble_eq_true rfl) ⟨by omega, by omega⟩ dL_law_1135 rfl (fun H locs hP hS => ?_)
  refine tq_i (congrArg nI hthr) ?_
  refine lv_iload hx hb dL_law_1138 (lv_at hl 1 rfl) ?_
  refine tq_eq hx hb dL_law_1140 (tgt := 1145) (by decide) (by omega) (by omega) (fun h1140 => ?_) (fun h1140 => ?_)
  · refine lv_iload hx hb dL_law_1145 (lv_at hl 1 rfl) ?_
    refine tq_zne hx hb dL_law_1147 (tgt := 1169) (by decide) (by omega) (fun h1147 => ?_) (fun h1147 => ?_)
    · refine lv_goto hx hb dL_law_1169 (tgt := 1197) (by decide) ?_
      exact kk w1.1 v1 w1.2 H locs ls hjj hP hD hS (lv_sub hl [2, 3, 4, 5, 6] rfl)
    · omega
  · omega
theorem lc_16 {p : Program} {l : Launch} {e : Env} {R : Room} {s : State} {m : MethodId} {args : Array Value} {below : List Frame} {meth : Method} {c : Code} {H : Heap} {locs : List Loc} {cells slots : Nat} {Q : State → Prop} {ls : Array Slot} {b0 L : Nat} {xs : Nat → Int32} {D : va_G} {kI kL kZ : ClassId} {a b : Nat → Nat} {o : Nat} {u v : sU} {f : Nat → Int64} {ix : Nat} (h0 : lw_C p l R s m args c b0 L xs D kI kL kZ) (hi : ix + 4 ≤ L) (hL : L ≤ 2048) (hJ : lw_J u v) (hP : va_P D vwA (lW a o b kI kL kZ u f v) H) (hD : va_D (fun q => s.heap.size ≤ q) (lW a o b kI kL kZ u f v)) (hS : va_S (fun q => s.heap.size ≤ q) s.heap H locs) (hl : lv_has ls 7 [(0, .ref b0), (1, .ref (a 0)), (2, .ref (b 0)), (3, .ref o), (4, .int (nI ix))]) (hcs : cells + 1 ≤ R.cells ∧ slots + 6 ≤ R.slots) (kk : ∀ (u v : sU) (f : Nat → Int64) (H : Heap) (locs : List Loc) (ls : Array Slot), lw_J u v → va_P D vwA (lW a o b kI kL kZ u f v) H → va_D (fun q => s.heap.size ≤ q) (lW a o b kI kL kZ u f v) → va_S (fun q => s.heap.size ≤ q) s.heap H locs → lv_has ls 7 [(0, .ref b0), (1, .ref (a 0)), (2, .ref (b 0)), (3, .ref o), (4, .int (nI ix))] → W p l e R s m args below meth c H locs (cells + 1) (slots + 6) Q (F0 m 1197 ls [])) : W p l e R s m args below meth c H locs cells slots Q (F0 m 1085 ls []) := by
  obtain ⟨N, kd, fa, fb, T, so, xa, xb, xc, F, M, rs, hI, hM⟩ := hJ
  by_cases c1 : ∃ k, k < N ∧ xs (ix + 1) = nI k
  · obtain ⟨x, e1, f1⟩ := c1
    by_cases c2 : ∃ k, k < 6 ∧ xs (ix + 2) = nI k
    · obtain ⟨i, e2, f2⟩ := c2
      by_cases c3 : ∃ k, k < N ∧ xs (ix + 3) = nI k
      · obtain ⟨y, e3, f3⟩ := c3
        exact lg_has h0 hi hL hI hM x i y e1 e2 e3 f1 f2 f3 hP hD hS hl hcs kk
      · exact lb_has h0 hi hL hI hM (Or.inr (Or.inr ((fun k hk z => c3 ⟨k, hk, z⟩)))) hP hD hS hl hcs kk
    · exact lb_has h0 hi hL hI hM (Or.inr (Or.inl (fun k hk z => c2 ⟨k, hk, z⟩))) hP hD hS hl hcs kk
  · exact lb_has h0 hi hL hI hM (Or.inl (fun k hk z => c1 ⟨k, hk, z⟩)) hP hD hS hl hcs kk
