/-! The class's public methods, by what is answered. Written by wip/whole/gen/genV.py. -/
theorem cnt_pos {p : Nat → Bool} {k n : Nat} (h : p k = true) (hk : k < n) : 1 ≤ tm_cnt p n := by
  have := cnt_up (p := p) (show k + 1 ≤ n from hk)
  rw [cnt_yes h] at this
  omega
theorem pr_B {u v : sU} {N : Nat} {kd fa fb : Nat → Nat} {T : Nat} {so xa xb xc : Nat → Nat} {F : Nat → Prop} {M : Nat} {rs : Nat → Nat} (h : s_inv u N kd fa fb T so xa xb xc F M rs) (hf : s_full u v N kd fa fb T so xa xb xc) (ha : ∀ b, b < N → v.1 0 (b * 7 + 6) b = true) : tm_sum (fun n => tm_cnt (fun e => !(n == e) && s_cv v n e) N) N = z_pr N (z_B N kd fa fb so xa xb xc F) :=
  sum_congr (fun n hn => cnt_congr (fun k hk => by rw [cv_B h hf (ha n hn) hk]))
theorem v_name (l : Launch) (D : va_G) (a : Nat → Nat) (kI kL kZ : ClassId) (u : sU) (N : Nat) (kd fa fb : Nat → Nat) (T : Nat) (so xa xb xc : Nat → Nat) (F : Nat → Prop) (M : Nat) (rs : Nat → Nat) (hi : s_inv u N kd fa fb T so xa xb xc F M rs)  : Met l yS_name (wS_name :: wA) ({ frames := 2, cells := 0, slots := 0, locals := 49 }) (va_Pc [.ref (a 0)] (tq_wB D vwA (sW a kI kL kZ u) (sT kI kL kZ))) (va_Qi (fun r (u' : sU) => ∃ N' kd', z_nm N kd r N' kd' ∧ s_inv u' N' kd' fa fb T so xa xb xc F M rs) (fun u' t => va_P D vwA (sW a kI kL kZ u') t.heap) (sA a)) 0 0 (sA a) := by
  have hn := inv_N hi
  exact tq_mono (c_name l D a kI kL kZ u (by omega) hn.2.2.2.2.2.2.1) (tq_monoI (fun r u' z => by
    rw [hn.1] at z
    by_cases c : N < 160
    · obtain ⟨z1, z2⟩ := z.1 c
      exact ⟨N + 1, va_up kd N 1, Or.inl ⟨c, z1, rfl, rfl⟩, by rw [z2]; exact inv_name hi c⟩
    · obtain ⟨z1, z2⟩ := z.2 c
      exact ⟨N, kd, Or.inr ⟨c, z1, rfl, rfl⟩, by rw [z2]; exact hi⟩))
theorem v_both (l : Launch) (D : va_G) (a : Nat → Nat) (kI kL kZ : ClassId) (u : sU) (N : Nat) (kd fa fb : Nat → Nat) (T : Nat) (so xa xb xc : Nat → Nat) (F : Nat → Prop) (M : Nat) (rs : Nat → Nat) (hi : s_inv u N kd fa fb T so xa xb xc F M rs) (d d2 : Nat) (hd : d < N) (hd2 : d2 < N) : Met l yS_both (wS_both :: wA) ({ frames := 3, cells := 0, slots := 0, locals := 69 }) (va_Pc [.ref (a 0), .int (nI d), .int (nI d2)] (tq_wB D vwA (sW a kI kL kZ u) (sT kI kL kZ))) (va_Qi (fun r (u' : sU) => ∃ N' kd' fa' fb', z_mk N kd fa fb 2 d d2 r N' kd' fa' fb' ∧ s_inv u' N' kd' fa' fb' T so xa xb xc F M rs) (fun u' t => va_P D vwA (sW a kI kL kZ u') t.heap) (sA a)) 0 0 (sA a) := by
  have hn := inv_N hi
  exact tq_mono (c_both l D a kI kL kZ u N kd fa fb hi.1.1.1 d d2 hd hd2) (tq_monoI (fun r u' z => by
    rcases z with ⟨k, a1, a2, a3, a4, a5, a6⟩ | ⟨a0, ⟨a1, a2, a3⟩ | ⟨a1, a2, a3⟩⟩
    · exact ⟨N, kd, fa, fb, Or.inl ⟨k, a1, a2, a3, a4, a5, rfl, rfl, rfl, rfl⟩, by rw [a6]; exact hi⟩
    · exact ⟨N + 1, va_up kd N 2, va_up fa N d, va_up fb N d2, Or.inr ⟨a0, Or.inl ⟨a1, a2, rfl, rfl, rfl, rfl⟩⟩, by rw [a3]; exact inv_both hi a1 hd hd2 a0⟩
    · exact ⟨N, kd, fa, fb, Or.inr ⟨a0, Or.inr ⟨a1, a2, rfl, rfl, rfl, rfl⟩⟩, by rw [a3]; exact hi⟩))
theorem v_some (l : Launch) (D : va_G) (a : Nat → Nat) (kI kL kZ : ClassId) (u : sU) (N : Nat) (kd fa fb : Nat → Nat) (T : Nat) (so xa xb xc : Nat → Nat) (F : Nat → Prop) (M : Nat) (rs : Nat → Nat) (hi : s_inv u N kd fa fb T so xa xb xc F M rs) (i d : Nat) (hi6 : i < 6) (hd : d < N) : Met l yS_some (wS_some :: wA) ({ frames := 2, cells := 0, slots := 0, locals := 49 }) (va_Pc [.ref (a 0), .int (nI i), .int (nI d)] (tq_wB D vwA (sW a kI kL kZ u) (sT kI kL kZ))) (va_Qi (fun r (u' : sU) => ∃ N' kd' fa' fb', z_mk N kd fa fb 3 i d r N' kd' fa' fb' ∧ s_inv u' N' kd' fa' fb' T so xa xb xc F M rs) (fun u' t => va_P D vwA (sW a kI kL kZ u') t.heap) (sA a)) 0 0 (sA a) := by
  have hn := inv_N hi
  exact tq_mono (c_some l D a kI kL kZ u N kd fa fb hi.1.1.1 i d hi6 hd) (tq_monoI (fun r u' z => by
    rcases z with ⟨k, a1, a2, a3, a4, a5, a6⟩ | ⟨a0, ⟨a1, a2, a3⟩ | ⟨a1, a2, a3⟩⟩
    · exact ⟨N, kd, fa, fb, Or.inl ⟨k, a1, a2, a3, a4, a5, rfl, rfl, rfl, rfl⟩, by rw [a6]; exact hi⟩
    · exact ⟨N + 1, va_up kd N 3, va_up fa N i, va_up fb N d, Or.inr ⟨a0, Or.inl ⟨a1, a2, rfl, rfl, rfl, rfl⟩⟩, by rw [a3]; exact inv_some hi a1 hi6 hd a0⟩
    · exact ⟨N, kd, fa, fb, Or.inr ⟨a0, Or.inr ⟨a1, a2, rfl, rfl, rfl, rfl⟩⟩, by rw [a3]; exact hi⟩))
theorem v_below (l : Launch) (D : va_G) (a : Nat → Nat) (kI kL kZ : ClassId) (u : sU) (N : Nat) (kd fa fb : Nat → Nat) (T : Nat) (so xa xb xc : Nat → Nat) (F : Nat → Prop) (M : Nat) (rs : Nat → Nat) (hi : s_inv u N kd fa fb T so xa xb xc F M rs) (d d2 : Nat) (hd : d < N) (hd2 : d2 < N) : Met l yS_below (wS_below :: wA) ({ frames := 2, cells := 0, slots := 0, locals := 41 }) (va_Pc [.ref (a 0), .int (nI d), .int (nI d2)] (tq_wB D vwA (sW a kI kL kZ u) (sT kI kL kZ))) (va_Qi (fun r (u' : sU) => ∃ T' so' xa' xb' xc' F', z_tl T so xa xb xc F 0 d d2 0 r T' so' xa' xb' xc' F' ∧ s_inv u' N kd fa fb T' so' xa' xb' xc' F' M rs) (fun u' t => va_P D vwA (sW a kI kL kZ u') t.heap) (sA a)) 0 0 (sA a) := by
  have hn := inv_N hi
  exact tq_mono (c_below l D a kI kL kZ u (by omega) (by omega) hn.2.2.2.2.2.2.2 d d2 (by omega) (by omega)) (tq_monoI (fun r u' z => by
    rw [hn.2.2.2.1] at z
    by_cases c : T < 100
    · obtain ⟨z1, z2⟩ := z.1 c
      exact ⟨T + 1, va_up so (T + 1) 0, va_up xa (T + 1) d, va_up xb (T + 1) d2, va_up xc (T + 1) 0, _, Or.inl ⟨c, z1, rfl, rfl, rfl, rfl, rfl, rfl⟩, by rw [z2]; exact inv_tell hi c (by decide) (fun _ => ⟨hd, hd2⟩) (fun _ => by omega) (fun _ => by omega)⟩
    · obtain ⟨z1, z2⟩ := z.2 c
      exact ⟨T, so, xa, xb, xc, F, Or.inr ⟨c, z1, rfl, rfl, rfl, rfl, rfl, rfl⟩, by rw [z2]; exact hi⟩))
theorem v_equal (l : Launch) (D : va_G) (a : Nat → Nat) (kI kL kZ : ClassId) (u : sU) (N : Nat) (kd fa fb : Nat → Nat) (T : Nat) (so xa xb xc : Nat → Nat) (F : Nat → Prop) (M : Nat) (rs : Nat → Nat) (hi : s_inv u N kd fa fb T so xa xb xc F M rs) (d d2 : Nat) (hd : d < N) (hd2 : d2 < N) : Met l yS_equal (wS_equal :: wA) ({ frames := 2, cells := 0, slots := 0, locals := 41 }) (va_Pc [.ref (a 0), .int (nI d), .int (nI d2)] (tq_wB D vwA (sW a kI kL kZ u) (sT kI kL kZ))) (va_Qi (fun r (u' : sU) => ∃ T' so' xa' xb' xc' F', z_tl T so xa xb xc F 1 d d2 0 r T' so' xa' xb' xc' F' ∧ s_inv u' N kd fa fb T' so' xa' xb' xc' F' M rs) (fun u' t => va_P D vwA (sW a kI kL kZ u') t.heap) (sA a)) 0 0 (sA a) := by
  have hn := inv_N hi
  exact tq_mono (c_equal l D a kI kL kZ u (by omega) (by omega) hn.2.2.2.2.2.2.2 d d2 (by omega) (by omega)) (tq_monoI (fun r u' z => by
    rw [hn.2.2.2.1] at z
    by_cases c : T < 100
    · obtain ⟨z1, z2⟩ := z.1 c
      exact ⟨T + 1, va_up so (T + 1) 1, va_up xa (T + 1) d, va_up xb (T + 1) d2, va_up xc (T + 1) 0, _, Or.inl ⟨c, z1, rfl, rfl, rfl, rfl, rfl, rfl⟩, by rw [z2]; exact inv_tell hi c (by decide) (fun _ => ⟨hd, hd2⟩) (fun _ => by omega) (fun _ => by omega)⟩
    · obtain ⟨z1, z2⟩ := z.2 c
      exact ⟨T, so, xa, xb, xc, F, Or.inr ⟨c, z1, rfl, rfl, rfl, rfl, rfl, rfl⟩, by rw [z2]; exact hi⟩))
theorem v_roleBelow (l : Launch) (D : va_G) (a : Nat → Nat) (kI kL kZ : ClassId) (u : sU) (N : Nat) (kd fa fb : Nat → Nat) (T : Nat) (so xa xb xc : Nat → Nat) (F : Nat → Prop) (M : Nat) (rs : Nat → Nat) (hi : s_inv u N kd fa fb T so xa xb xc F M rs) (d d2 : Nat) (hd : d < 6) (hd2 : d2 < 6) : Met l yS_roleBelow (wS_roleBelow :: wA) ({ frames := 1, cells := 0, slots := 0, locals := 24 }) (va_Pc [.ref (a 0), .int (nI d), .int (nI d2)] (tq_wB D vwA (sW a kI kL kZ u) (sT kI kL kZ))) (va_Qi (fun r (u' : sU) => ∃ T' so' xa' xb' xc' F', z_tl T so xa xb xc F 2 d d2 0 r T' so' xa' xb' xc' F' ∧ s_inv u' N kd fa fb T' so' xa' xb' xc' F' M rs) (fun u' t => va_P D vwA (sW a kI kL kZ u') t.heap) (sA a)) 0 0 (sA a) := by
  have hn := inv_N hi
  exact tq_mono (c_roleBelow l D a kI kL kZ u (by omega) hn.2.2.2.2.2.2.2 d d2 hd hd2) (tq_monoI (fun r u' z => by
    rw [hn.2.2.2.1] at z
    by_cases c : T < 100
    · obtain ⟨z1, z2⟩ := z.1 c
      exact ⟨T + 1, va_up so (T + 1) 2, va_up xa (T + 1) d, va_up xb (T + 1) d2, va_up xc (T + 1) 0, _, Or.inl ⟨c, z1, rfl, rfl, rfl, rfl, rfl, rfl⟩, by rw [z2]; exact inv_tell hi c (by decide) (fun _ => by omega) (fun _ => ⟨hd, hd2⟩) (fun _ => by omega)⟩
    · obtain ⟨z1, z2⟩ := z.2 c
      exact ⟨T, so, xa, xb, xc, F, Or.inr ⟨c, z1, rfl, rfl, rfl, rfl, rfl, rfl⟩, by rw [z2]; exact hi⟩))
theorem v_chain (l : Launch) (D : va_G) (a : Nat → Nat) (kI kL kZ : ClassId) (u : sU) (N : Nat) (kd fa fb : Nat → Nat) (T : Nat) (so xa xb xc : Nat → Nat) (F : Nat → Prop) (M : Nat) (rs : Nat → Nat) (hi : s_inv u N kd fa fb T so xa xb xc F M rs) (d d2 d3 : Nat) (hd : d < 6) (hd2 : d2 < 6) (hd3 : d3 < 6) : Met l yS_chain (wS_chain :: wA) ({ frames := 1, cells := 0, slots := 0, locals := 24 }) (va_Pc [.ref (a 0), .int (nI d), .int (nI d2), .int (nI d3)] (tq_wB D vwA (sW a kI kL kZ u) (sT kI kL kZ))) (va_Qi (fun r (u' : sU) => ∃ T' so' xa' xb' xc' F', z_tl T so xa xb xc F 3 d d2 d3 r T' so' xa' xb' xc' F' ∧ s_inv u' N kd fa fb T' so' xa' xb' xc' F' M rs) (fun u' t => va_P D vwA (sW a kI kL kZ u') t.heap) (sA a)) 0 0 (sA a) := by
  have hn := inv_N hi
  exact tq_mono (c_chain l D a kI kL kZ u (by omega) hn.2.2.2.2.2.2.2 d d2 d3 hd hd2 hd3) (tq_monoI (fun r u' z => by
    rw [hn.2.2.2.1] at z
    by_cases c : T < 100
    · obtain ⟨z1, z2⟩ := z.1 c
      exact ⟨T + 1, va_up so (T + 1) 3, va_up xa (T + 1) d, va_up xb (T + 1) d2, va_up xc (T + 1) d3, _, Or.inl ⟨c, z1, rfl, rfl, rfl, rfl, rfl, rfl⟩, by rw [z2]; exact inv_tell hi c (by decide) (fun _ => by omega) (fun _ => ⟨hd, hd2⟩) (fun _ => ⟨rfl, hd3⟩)⟩
    · obtain ⟨z1, z2⟩ := z.2 c
      exact ⟨T, so, xa, xb, xc, F, Or.inr ⟨c, z1, rfl, rfl, rfl, rfl, rfl, rfl⟩, by rw [z2]; exact hi⟩))
theorem v_retract (l : Launch) (D : va_G) (a : Nat → Nat) (kI kL kZ : ClassId) (u : sU) (N : Nat) (kd fa fb : Nat → Nat) (T : Nat) (so xa xb xc : Nat → Nat) (F : Nat → Prop) (M : Nat) (rs : Nat → Nat) (hi : s_inv u N kd fa fb T so xa xb xc F M rs) (x : Int32) : Met l yS_retract (wS_retract :: wA) ({ frames := 1, cells := 0, slots := 0, locals := 21 }) (va_Pc [.ref (a 0), .int x] (tq_wB D vwA (sW a kI kL kZ u) (sT kI kL kZ))) (va_Qi (fun r (u' : sU) => ∃ F', z_rt F x r F' ∧ s_inv u' N kd fa fb T so xa xb xc F' M rs) (fun u' t => va_P D vwA (sW a kI kL kZ u') t.heap) (sA a)) 0 0 (sA a) := by
  have hn := inv_N hi
  exact tq_mono (c_retract l D a kI kL kZ u x (by omega) (fun z => by
    obtain ⟨k, k1, k2, _, k4⟩ := s_inf_t z (by omega)
    have hF := (hi.2.2.2.2.1 k).mp k4
    rw [hi.2.2.2.1]
    exact cnt_pos (p := fun k => dB (F k)) (dB_iff.mpr hF) (by omega)) hn.2.2.2.2.2.2.2) (tq_monoI (fun r u' z => by
    rcases z with ⟨z1, z2, z3⟩ | ⟨k, z1, z2, z3, z4, z5, z6⟩
    · refine ⟨F, Or.inl ⟨fun k e hF => ?_, z2, rfl⟩, by rw [z3]; exact hi⟩
      have q := (hi.2.2.2.2.1 k).mpr hF
      rw [e, s_inf_k q.1 q.2.1 (by omega)] at z1
      exact absurd q.2.2 (of_decide_eq_false z1)
    · exact ⟨_, Or.inr ⟨k, z3, (hi.2.2.2.2.1 k).mp z4, z5, rfl⟩, by rw [z6]; exact inv_back hi ((hi.2.2.2.2.1 k).mp z4)⟩))
theorem v_isBelow (l : Launch) (D : va_G) (a : Nat → Nat) (kI kL kZ : ClassId) (u : sU) (N : Nat) (kd fa fb : Nat → Nat) (T : Nat) (so xa xb xc : Nat → Nat) (F : Nat → Prop) (M : Nat) (rs : Nat → Nat) (hi : s_inv u N kd fa fb T so xa xb xc F M rs) (d d2 : Nat) (hd : d < N) (hd2 : d2 < N) : Met l yS_isBelow (wS_isBelow :: wA) ({ frames := 6, cells := 0, slots := 0, locals := 148 }) (va_Pc [.ref (a 0), .int (nI d), .int (nI d2)] (tq_wB D vwA (sW a kI kL kZ u) (sT kI kL kZ))) (va_Qi (fun r (u' : sU) => (r = bI ((z_B N kd fa fb so xa xb xc F) d d2)) ∧ s_inv u' N kd fa fb T so xa xb xc F M rs) (fun u' t => va_P D vwA (sW a kI kL kZ u') t.heap) (sA a)) 0 0 (sA a) := by
  have hn := inv_N hi
  exact tq_mono (c_isBelow l D a kI kL kZ u N kd fa fb T so xa xb xc hi.1 d d2 hd hd2) (tq_monoI (fun r u' z => by
    exact ⟨by rw [z.1, cv_B hi z.2.1 z.2.2 hd2], inv_full hi z.2.1⟩))
theorem v_supers (l : Launch) (D : va_G) (a : Nat → Nat) (kI kL kZ : ClassId) (u : sU) (N : Nat) (kd fa fb : Nat → Nat) (T : Nat) (so xa xb xc : Nat → Nat) (F : Nat → Prop) (M : Nat) (rs : Nat → Nat) (hi : s_inv u N kd fa fb T so xa xb xc F M rs) (d : Nat) (hd : d < N) : Met l yS_supers (wS_supers :: wA) ({ frames := 6, cells := 0, slots := 0, locals := 148 }) (va_Pc [.ref (a 0), .int (nI d)] (tq_wB D vwA (sW a kI kL kZ u) (sT kI kL kZ))) (va_Qi (fun r (u' : sU) => (r = nI (tm_cnt (z_na kd (z_B N kd fa fb so xa xb xc F) d) N)) ∧ s_inv u' N kd fa fb T so xa xb xc F M rs) (fun u' t => va_P D vwA (sW a kI kL kZ u') t.heap) (sA a)) 0 0 (sA a) := by
  have hn := inv_N hi
  exact tq_mono (c_supers l D a kI kL kZ u N kd fa fb T so xa xb xc hi.1 d hd) (tq_monoI (fun r u' z => by
    exact ⟨by rw [z.1, cnt_congr (fun k hk => na_B hi z.2.1 z.2.2 hk)], inv_full hi z.2.1⟩))
theorem v_sup (l : Launch) (D : va_G) (a : Nat → Nat) (kI kL kZ : ClassId) (u : sU) (N : Nat) (kd fa fb : Nat → Nat) (T : Nat) (so xa xb xc : Nat → Nat) (F : Nat → Prop) (M : Nat) (rs : Nat → Nat) (hi : s_inv u N kd fa fb T so xa xb xc F M rs) (d : Nat) (x : Int32) (hd : d < N) : Met l yS_sup (wS_sup :: wA) ({ frames := 6, cells := 0, slots := 0, locals := 148 }) (va_Pc [.ref (a 0), .int (nI d), .int x] (tq_wB D vwA (sW a kI kL kZ u) (sT kI kL kZ))) (va_Qi (fun r (u' : sU) => (q_sup (z_na kd (z_B N kd fa fb so xa xb xc F) d) N x r) ∧ s_inv u' N kd fa fb T so xa xb xc F M rs) (fun u' t => va_P D vwA (sW a kI kL kZ u') t.heap) (sA a)) 0 0 (sA a) := by
  have hn := inv_N hi
  exact tq_mono (c_sup l D a kI kL kZ u N kd fa fb T so xa xb xc hi.1 d x hd) (tq_monoI (fun r u' z => by
    exact ⟨(sup_congr (fun k hk => na_B hi z.2.1 z.2.2 hk)).mp z.1, inv_full hi z.2.1⟩))
theorem v_direct (l : Launch) (D : va_G) (a : Nat → Nat) (kI kL kZ : ClassId) (u : sU) (N : Nat) (kd fa fb : Nat → Nat) (T : Nat) (so xa xb xc : Nat → Nat) (F : Nat → Prop) (M : Nat) (rs : Nat → Nat) (hi : s_inv u N kd fa fb T so xa xb xc F M rs) (d d2 : Nat) (hd : d < N) (hd2 : d2 < N) : Met l yS_direct (wS_direct :: wA) ({ frames := 6, cells := 0, slots := 0, locals := 149 }) (va_Pc [.ref (a 0), .int (nI d), .int (nI d2)] (tq_wB D vwA (sW a kI kL kZ u) (sT kI kL kZ))) (va_Qi (fun r (u' : sU) => (r = bI (z_dir N (z_B N kd fa fb so xa xb xc F) d d2)) ∧ s_inv u' N kd fa fb T so xa xb xc F M rs) (fun u' t => va_P D vwA (sW a kI kL kZ u') t.heap) (sA a)) 0 0 (sA a) := by
  have hn := inv_N hi
  exact tq_mono (c_direct l D a kI kL kZ u N kd fa fb T so xa xb xc hi.1 d d2 hd hd2) (tq_monoI (fun r u' z => by
    exact ⟨by rw [z.1, dir_B hi z.2.1 hd hd2 z.2.2.1 z.2.2.2], inv_full hi z.2.1⟩))
theorem v_twin (l : Launch) (D : va_G) (a : Nat → Nat) (kI kL kZ : ClassId) (u : sU) (N : Nat) (kd fa fb : Nat → Nat) (T : Nat) (so xa xb xc : Nat → Nat) (F : Nat → Prop) (M : Nat) (rs : Nat → Nat) (hi : s_inv u N kd fa fb T so xa xb xc F M rs) (d : Nat) (hd : d < N) : Met l yS_twin (wS_twin :: wA) ({ frames := 6, cells := 0, slots := 0, locals := 149 }) (va_Pc [.ref (a 0), .int (nI d)] (tq_wB D vwA (sW a kI kL kZ u) (sT kI kL kZ))) (va_Qi (fun r (u' : sU) => (r = nI (z_le (z_B N kd fa fb so xa xb xc F) d)) ∧ s_inv u' N kd fa fb T so xa xb xc F M rs) (fun u' t => va_P D vwA (sW a kI kL kZ u') t.heap) (sA a)) 0 0 (sA a) := by
  have hn := inv_N hi
  exact tq_mono (c_twin l D a kI kL kZ u N kd fa fb T so xa xb xc hi.1 d hd) (tq_monoI (fun r u' z => by
    exact ⟨by rw [z.1, le_B hi z.2.1 hd z.2.2.1 (ab_B hi z.2.2.2)], inv_full hi z.2.1⟩))
theorem v_common (l : Launch) (D : va_G) (a : Nat → Nat) (kI kL kZ : ClassId) (u : sU) (N : Nat) (kd fa fb : Nat → Nat) (T : Nat) (so xa xb xc : Nat → Nat) (F : Nat → Prop) (M : Nat) (rs : Nat → Nat) (hi : s_inv u N kd fa fb T so xa xb xc F M rs) (d d2 : Nat) (x : Int32) (hd : d < N) (hd2 : d2 < N) : Met l yS_common (wS_common :: wA) ({ frames := 6, cells := 0, slots := 0, locals := 149 }) (va_Pc [.ref (a 0), .int (nI d), .int (nI d2), .int x] (tq_wB D vwA (sW a kI kL kZ u) (sT kI kL kZ))) (va_Qi (fun r (u' : sU) => (q_sup (z_co N kd (z_B N kd fa fb so xa xb xc F) d d2) N x r) ∧ s_inv u' N kd fa fb T so xa xb xc F M rs) (fun u' t => va_P D vwA (sW a kI kL kZ u') t.heap) (sA a)) 0 0 (sA a) := by
  have hn := inv_N hi
  exact tq_mono (c_common l D a kI kL kZ u N kd fa fb T so xa xb xc hi.1 d d2 x hd hd2) (tq_monoI (fun r u' z => by
    obtain ⟨u1, z1, ⟨z2, z3, z4⟩, z5, z6, z7⟩ := z
    have h6 : u1.2.2 6 = 0 := z2.2.2.2.2.2.2.2.2.2
    have hi1 := inv_full hi z2
    exact ⟨(sup_congr (fun k hk => co_B hi1 z5 (z7 h6 _ _ z3) z6 (fun b hb q => z7 h6 _ _ (ab_B hi z4 b hb q)) hk)).mp z1, inv_full hi1 z5⟩))
theorem v_has (l : Launch) (D : va_G) (a : Nat → Nat) (kI kL kZ : ClassId) (u : sU) (N : Nat) (kd fa fb : Nat → Nat) (T : Nat) (so xa xb xc : Nat → Nat) (F : Nat → Prop) (M : Nat) (rs : Nat → Nat) (hi : s_inv u N kd fa fb T so xa xb xc F M rs) (x i y : Nat) (hx1 : x < N) (hi6 : i < 6) (hy1 : y < N) : Met l yS_has (wS_has :: wA) ({ frames := 6, cells := 0, slots := 0, locals := 148 }) (va_Pc [.ref (a 0), .int (nI x), .int (nI i), .int (nI y)] (tq_wB D vwA (sW a kI kL kZ u) (sT kI kL kZ))) (va_Qi (fun r (u' : sU) => (r = bI (z_has N kd fa fb so xa xb xc F x i y)) ∧ s_inv u' N kd fa fb T so xa xb xc F M rs) (fun u' t => va_P D vwA (sW a kI kL kZ u') t.heap) (sA a)) 0 0 (sA a) := by
  have hn := inv_N hi
  exact tq_mono (c_has l D a kI kL kZ u N kd fa fb T so xa xb xc hi.1 x i y hx1 hi6 hy1) (tq_monoI (fun r u' z => by
    obtain ⟨b, z1, z2, z3, z4⟩ := z
    exact ⟨by rw [z1, has_B hi z3 z4 hi6 z2], inv_full hi z3⟩))
theorem v_why (l : Launch) (D : va_G) (a : Nat → Nat) (kI kL kZ : ClassId) (u : sU) (N : Nat) (kd fa fb : Nat → Nat) (T : Nat) (so xa xb xc : Nat → Nat) (F : Nat → Prop) (M : Nat) (rs : Nat → Nat) (hi : s_inv u N kd fa fb T so xa xb xc F M rs) (d d2 : Nat) (hd : d < N) (hd2 : d2 < N) : Met l yS_why (wS_why :: wA) ({ frames := 6, cells := 0, slots := 0, locals := 151 }) (va_Pc [.ref (a 0), .int (nI d), .int (nI d2)] (tq_wB D vwA (sW a kI kL kZ u) (sT kI kL kZ))) (va_Qi (fun r (u' : sU) => ∃ M' rs', z_wy N kd fa fb so xa xb xc F T d d2 r M' rs' ∧ s_inv u' N kd fa fb T so xa xb xc F M' rs') (fun u' t => va_P D vwA (sW a kI kL kZ u') t.heap) (sA a)) 0 0 (sA a) := by
  have hn := inv_N hi
  exact tq_mono (c_why l D a kI kL kZ u N kd fa fb T so xa xb xc hi.1 d d2 hd hd2) (tq_monoI (fun r u' z => by
    obtain ⟨z1, z2, z3⟩ := z
    unfold q_wf at z1
    rw [inv_F hi] at z1
    rcases z1 with ⟨a1, a2, a3⟩ | ⟨a1, a2, a3, a4⟩
    · exact ⟨0, rs, Or.inl ⟨a1, a2, rfl⟩, inv_keep hi z2 z3 a3 (by decide) (fun i h => absurd h (Nat.not_lt_zero i))⟩
    · have hM : u'.2.2 7 ≤ 100 := by
        rw [a3]
        have := cnt_le1 (p := q_K N kd fa fb so xa xb xc F T d d2) (dB_f.mpr (fun q => by have := hn.2.2.2.2.2.1 0 (used_inf q); omega)) T
        omega
      obtain ⟨rs9, hrs9⟩ := rs_choose (P := fun j q => u'.2.1 9 j = nI q ∧ q_K N kd fa fb so xa xb xc F T d d2 q = true ∧ tm_cnt (q_K N kd fa fb so xa xb xc F T d d2) q + j + 1 = tm_cnt (q_K N kd fa fb so xa xb xc F T d d2) (T + 1)) a4
      rw [← a3] at hrs9
      refine ⟨u'.2.2 7, fun i => rs9 (u'.2.2 7 - 1 - i), Or.inr ⟨a1, a2, a3, fun i h => ?_⟩, inv_keep hi z2 z3 rfl hM (fun i h => (hrs9 _ (by omega)).1)⟩
      have := hrs9 (u'.2.2 7 - 1 - i) (by omega)
      refine ⟨this.2.1, ?_⟩
      show tm_cnt (q_K N kd fa fb so xa xb xc F T d d2) (rs9 (u'.2.2 7 - 1 - i)) = i
      have := this.2.2
      omega))
theorem v_reason (l : Launch) (D : va_G) (a : Nat → Nat) (kI kL kZ : ClassId) (u : sU) (N : Nat) (kd fa fb : Nat → Nat) (T : Nat) (so xa xb xc : Nat → Nat) (F : Nat → Prop) (M : Nat) (rs : Nat → Nat) (hi : s_inv u N kd fa fb T so xa xb xc F M rs) (x : Int32) : Met l yS_reason (wS_reason :: wA) ({ frames := 0, cells := 0, slots := 0, locals := 0 }) (va_Pc [.ref (a 0), .int x] (tq_wB D vwA (sW a kI kL kZ u) (sT kI kL kZ))) (va_Qi (fun r (u' : sU) => (z_rs M rs x r) ∧ s_inv u' N kd fa fb T so xa xb xc F M rs) (fun u' t => va_P D vwA (sW a kI kL kZ u') t.heap) (sA a)) 0 0 (sA a) := by
  have hn := inv_N hi
  exact tq_mono (c_reason l D a kI kL kZ u x (by have := hi.2.2.2.2.2.2.1; have := hi.2.2.2.2.2.2.2.1; omega)) (tq_monoI (fun r u' z => by
    have e7 := hi.2.2.2.2.2.2.1
    obtain ⟨z1, z2⟩ := z
    rw [e7] at z1
    refine ⟨?_, by rw [z2]; exact hi⟩
    rcases z1 with ⟨k, a1, a2, a3⟩ | z1
    · exact Or.inl ⟨k, a1, a2, by rw [a3]; exact hi.2.2.2.2.2.2.2.2 k a1⟩
    · exact Or.inr z1))
theorem v_count0 (l : Launch) (D : va_G) (a : Nat → Nat) (kI kL kZ : ClassId) (u : sU) (N : Nat) (kd fa fb : Nat → Nat) (T : Nat) (so xa xb xc : Nat → Nat) (F : Nat → Prop) (M : Nat) (rs : Nat → Nat) (hi : s_inv u N kd fa fb T so xa xb xc F M rs)  : Met l yS_count (wS_count :: wA) ({ frames := 6, cells := 0, slots := 0, locals := 148 }) (va_Pc [.ref (a 0), .int (nI 0)] (tq_wB D vwA (sW a kI kL kZ u) (sT kI kL kZ))) (va_Qi (fun r (u' : sU) => (r = nI (N)) ∧ s_inv u' N kd fa fb T so xa xb xc F M rs) (fun u' t => va_P D vwA (sW a kI kL kZ u') t.heap) (sA a)) 0 0 (sA a) := by
  have hn := inv_N hi
  exact tq_mono (c_count0 l D a kI kL kZ u ) (tq_monoI (fun r u' z => by
    exact ⟨by rw [z.1, hn.1], by rw [z.2]; exact hi⟩))
theorem v_count1 (l : Launch) (D : va_G) (a : Nat → Nat) (kI kL kZ : ClassId) (u : sU) (N : Nat) (kd fa fb : Nat → Nat) (T : Nat) (so xa xb xc : Nat → Nat) (F : Nat → Prop) (M : Nat) (rs : Nat → Nat) (hi : s_inv u N kd fa fb T so xa xb xc F M rs)  : Met l yS_count (wS_count :: wA) ({ frames := 6, cells := 0, slots := 0, locals := 148 }) (va_Pc [.ref (a 0), .int (nI 1)] (tq_wB D vwA (sW a kI kL kZ u) (sT kI kL kZ))) (va_Qi (fun r (u' : sU) => (r = nI (tm_cnt (fun k => decide (kd k = 1)) N)) ∧ s_inv u' N kd fa fb T so xa xb xc F M rs) (fun u' t => va_P D vwA (sW a kI kL kZ u') t.heap) (sA a)) 0 0 (sA a) := by
  have hn := inv_N hi
  exact tq_mono (c_count1 l D a kI kL kZ u ) (tq_monoI (fun r u' z => by
    exact ⟨by rw [z.1, hi.2.2.1], by rw [z.2]; exact hi⟩))
theorem v_count2 (l : Launch) (D : va_G) (a : Nat → Nat) (kI kL kZ : ClassId) (u : sU) (N : Nat) (kd fa fb : Nat → Nat) (T : Nat) (so xa xb xc : Nat → Nat) (F : Nat → Prop) (M : Nat) (rs : Nat → Nat) (hi : s_inv u N kd fa fb T so xa xb xc F M rs)  : Met l yS_count (wS_count :: wA) ({ frames := 6, cells := 0, slots := 0, locals := 148 }) (va_Pc [.ref (a 0), .int (nI 2)] (tq_wB D vwA (sW a kI kL kZ u) (sT kI kL kZ))) (va_Qi (fun r (u' : sU) => (r = nI (T)) ∧ s_inv u' N kd fa fb T so xa xb xc F M rs) (fun u' t => va_P D vwA (sW a kI kL kZ u') t.heap) (sA a)) 0 0 (sA a) := by
  have hn := inv_N hi
  exact tq_mono (c_count2 l D a kI kL kZ u ) (tq_monoI (fun r u' z => by
    exact ⟨by rw [z.1, hn.2.2.2.1], by rw [z.2]; exact hi⟩))
theorem v_count3 (l : Launch) (D : va_G) (a : Nat → Nat) (kI kL kZ : ClassId) (u : sU) (N : Nat) (kd fa fb : Nat → Nat) (T : Nat) (so xa xb xc : Nat → Nat) (F : Nat → Prop) (M : Nat) (rs : Nat → Nat) (hi : s_inv u N kd fa fb T so xa xb xc F M rs)  : Met l yS_count (wS_count :: wA) ({ frames := 6, cells := 0, slots := 0, locals := 148 }) (va_Pc [.ref (a 0), .int (nI 3)] (tq_wB D vwA (sW a kI kL kZ u) (sT kI kL kZ))) (va_Qi (fun r (u' : sU) => (r = nI (tm_cnt (fun k => dB (F k)) (T + 1))) ∧ s_inv u' N kd fa fb T so xa xb xc F M rs) (fun u' t => va_P D vwA (sW a kI kL kZ u') t.heap) (sA a)) 0 0 (sA a) := by
  have hn := inv_N hi
  exact tq_mono (c_count3 l D a kI kL kZ u ) (tq_monoI (fun r u' z => by
    exact ⟨by rw [z.1, hi.2.2.2.1], by rw [z.2]; exact hi⟩))
theorem v_count4 (l : Launch) (D : va_G) (a : Nat → Nat) (kI kL kZ : ClassId) (u : sU) (N : Nat) (kd fa fb : Nat → Nat) (T : Nat) (so xa xb xc : Nat → Nat) (F : Nat → Prop) (M : Nat) (rs : Nat → Nat) (hi : s_inv u N kd fa fb T so xa xb xc F M rs)  : Met l yS_count (wS_count :: wA) ({ frames := 6, cells := 0, slots := 0, locals := 148 }) (va_Pc [.ref (a 0), .int (nI 4)] (tq_wB D vwA (sW a kI kL kZ u) (sT kI kL kZ))) (va_Qi (fun r (u' : sU) => (r = nI (z_pr N (z_B N kd fa fb so xa xb xc F))) ∧ s_inv u' N kd fa fb T so xa xb xc F M rs) (fun u' t => va_P D vwA (sW a kI kL kZ u') t.heap) (sA a)) 0 0 (sA a) := by
  have hn := inv_N hi
  exact tq_mono (c_count4 l D a kI kL kZ u N kd fa fb T so xa xb xc hi.1 ) (tq_monoI (fun r u' z => by
    exact ⟨by rw [z.1, pr_B hi z.2.1 z.2.2], inv_full hi z.2.1⟩))
theorem v_count5 (l : Launch) (D : va_G) (a : Nat → Nat) (kI kL kZ : ClassId) (u : sU) (N : Nat) (kd fa fb : Nat → Nat) (T : Nat) (so xa xb xc : Nat → Nat) (F : Nat → Prop) (M : Nat) (rs : Nat → Nat) (hi : s_inv u N kd fa fb T so xa xb xc F M rs)  : Met l yS_count (wS_count :: wA) ({ frames := 6, cells := 0, slots := 0, locals := 148 }) (va_Pc [.ref (a 0), .int (nI 5)] (tq_wB D vwA (sW a kI kL kZ u) (sT kI kL kZ))) (va_Qi (fun r (u' : sU) => (r = nI (z_em N (z_B N kd fa fb so xa xb xc F))) ∧ s_inv u' N kd fa fb T so xa xb xc F M rs) (fun u' t => va_P D vwA (sW a kI kL kZ u') t.heap) (sA a)) 0 0 (sA a) := by
  have hn := inv_N hi
  exact tq_mono (c_count5 l D a kI kL kZ u N kd fa fb T so xa xb xc hi.1 ) (tq_monoI (fun r u' z => by
    exact ⟨by rw [z.1, show tm_cnt (fun d => u'.1 0 (d * 7 + 6) 1) N = z_em N (z_B N kd fa fb so xa xb xc F) from cnt_congr (fun k hk => by rw [← cv_B hi z.2.1 (z.2.2 k hk) (show 1 < N by omega)]; unfold s_cv; rw [Bool.or_self])], inv_full hi z.2.1⟩))
theorem v_count6 (l : Launch) (D : va_G) (a : Nat → Nat) (kI kL kZ : ClassId) (u : sU) (N : Nat) (kd fa fb : Nat → Nat) (T : Nat) (so xa xb xc : Nat → Nat) (F : Nat → Prop) (M : Nat) (rs : Nat → Nat) (hi : s_inv u N kd fa fb T so xa xb xc F M rs)  : Met l yS_count (wS_count :: wA) ({ frames := 6, cells := 0, slots := 0, locals := 148 }) (va_Pc [.ref (a 0), .int (nI 6)] (tq_wB D vwA (sW a kI kL kZ u) (sT kI kL kZ))) (va_Qi (fun r (u' : sU) => (r = nI (z_cl N (z_B N kd fa fb so xa xb xc F))) ∧ s_inv u' N kd fa fb T so xa xb xc F M rs) (fun u' t => va_P D vwA (sW a kI kL kZ u') t.heap) (sA a)) 0 0 (sA a) := by
  have hn := inv_N hi
  exact tq_mono (c_count6 l D a kI kL kZ u N kd fa fb T so xa xb xc hi.1 ) (tq_monoI (fun r u' z => by
    exact ⟨by rw [z.1, show tm_cnt (fun d => s_le u' d == d) N = z_cl N (z_B N kd fa fb so xa xb xc F) from cnt_congr (fun k hk => by rw [le_B hi z.2.1 hk (z.2.2 k hk) (fun b hb _ => z.2.2 b hb)])], inv_full hi z.2.1⟩))
theorem v_countN (l : Launch) (D : va_G) (a : Nat → Nat) (kI kL kZ : ClassId) (u : sU) (N : Nat) (kd fa fb : Nat → Nat) (T : Nat) (so xa xb xc : Nat → Nat) (F : Nat → Prop) (M : Nat) (rs : Nat → Nat) (hi : s_inv u N kd fa fb T so xa xb xc F M rs) (x : Int32) (hout : x.toInt < 0 ∨ 6 < x.toInt) : Met l yS_count (wS_count :: wA) ({ frames := 6, cells := 0, slots := 0, locals := 148 }) (va_Pc [.ref (a 0), .int x] (tq_wB D vwA (sW a kI kL kZ u) (sT kI kL kZ))) (va_Qi (fun r (u' : sU) => (r = -1) ∧ s_inv u' N kd fa fb T so xa xb xc F M rs) (fun u' t => va_P D vwA (sW a kI kL kZ u') t.heap) (sA a)) 0 0 (sA a) := by
  have hn := inv_N hi
  exact tq_mono (c_countN l D a kI kL kZ u x hout) (tq_monoI (fun r u' z => by
    exact ⟨z.1, by rw [z.2]; exact hi⟩))
