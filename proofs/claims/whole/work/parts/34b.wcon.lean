/-! The model's public methods, by what is answered. Written by wip/whole/gen/genV.py. -/
theorem w_name (l : Launch) (D : va_G) (a : Nat → Nat) (kI kL kZ : ClassId) (u : sU) (N : Nat) (kd fa fb : Nat → Nat) (T : Nat) (so xa xb xc : Nat → Nat) (F : Nat → Prop) (M : Nat) (rs : Nat → Nat) (hi : m_inv u N kd fa fb T so xa xb xc F M rs)  : Met l yM_name (wM_name :: wA) ({ frames := 1, cells := 0, slots := 0, locals := 24 }) (va_Pc [.ref (a 0)] (tq_wB D vwA (mW a kI kL kZ u) (sT kI kL kZ))) (va_Qi (fun r (u' : sU) => (∃ N' kd', z_nm N kd r N' kd' ∧ m_inv u' N' kd' fa fb T so xa xb xc F M rs) ∧ u'.2.2 0 = 0) (fun u' t => va_P D vwA (mW a kI kL kZ u') t.heap) (mA a)) 0 0 (mA a) := by
  have hn := mt_N hi.1
  exact tq_mono (m_name l D a kI kL kZ u N kd fa fb T so xa xb xc hi.1) (tq_monoI (fun r u' z => by
    rcases z with ⟨c, z1, z2⟩ | ⟨c, z1, z2⟩
    · exact ⟨⟨N + 1, va_up kd N 1, Or.inl ⟨c, z1, rfl, rfl⟩, by rw [z2]; exact minv_new (g := 1) (minv_thr hi) c (by decide) (by decide) (fun h => by omega) (fun h => by omega) (fun k hk => ⟨rfl, rfl⟩) (fun h => by omega)⟩, by rw [z2]; rfl⟩
    · exact ⟨⟨N, kd, Or.inr ⟨c, z1, rfl, rfl⟩, by rw [z2]; exact minv_thr hi⟩, by rw [z2]; rfl⟩))
theorem w_both (l : Launch) (D : va_G) (a : Nat → Nat) (kI kL kZ : ClassId) (u : sU) (N : Nat) (kd fa fb : Nat → Nat) (T : Nat) (so xa xb xc : Nat → Nat) (F : Nat → Prop) (M : Nat) (rs : Nat → Nat) (hi : m_inv u N kd fa fb T so xa xb xc F M rs) (d d2 : Nat) (hd : d < N) (hd2 : d2 < N) : Met l yM_both (wM_both :: wA) ({ frames := 1, cells := 0, slots := 0, locals := 24 }) (va_Pc [.ref (a 0), .int (nI d), .int (nI d2)] (tq_wB D vwA (mW a kI kL kZ u) (sT kI kL kZ))) (va_Qi (fun r (u' : sU) => (∃ N' kd' fa' fb', z_mk N kd fa fb 2 d d2 r N' kd' fa' fb' ∧ m_inv u' N' kd' fa' fb' T so xa xb xc F M rs) ∧ u'.2.2 0 = 0) (fun u' t => va_P D vwA (mW a kI kL kZ u') t.heap) (mA a)) 0 0 (mA a) := by
  have hn := mt_N hi.1
  exact tq_mono (m_both l D a kI kL kZ u N kd fa fb T so xa xb xc hi.1 d d2 hd hd2) (tq_monoI (fun r u' z => by
    rcases z with ⟨k, a1, a2, a3, a4, a5, a6⟩ | ⟨a0, ⟨a1, a2, a3⟩ | ⟨a1, a2, a3⟩⟩
    · exact ⟨⟨N, kd, fa, fb, Or.inl ⟨k, a1, a2, a3, a4, a5, rfl, rfl, rfl, rfl⟩, by rw [a6]; exact minv_thr hi⟩, by rw [a6]; rfl⟩
    · exact ⟨⟨N + 1, va_up kd N 2, va_up fa N d, va_up fb N d2, Or.inr ⟨a0, Or.inl ⟨a1, a2, rfl, rfl, rfl, rfl⟩⟩, by rw [a3]; exact minv_new (g := 2) (minv_thr hi) a1 (by decide) (by decide) (fun _ => ⟨hd, hd2⟩) (fun _ => by omega) (fun k hk => ⟨up_old hk, up_old hk⟩) (fun _ => ⟨va_up_self _ _ _, va_up_self _ _ _⟩)⟩, by rw [a3]; rfl⟩
    · exact ⟨⟨N, kd, fa, fb, Or.inr ⟨a0, Or.inr ⟨a1, a2, rfl, rfl, rfl, rfl⟩⟩, by rw [a3]; exact minv_thr hi⟩, by rw [a3]; rfl⟩))
theorem w_some (l : Launch) (D : va_G) (a : Nat → Nat) (kI kL kZ : ClassId) (u : sU) (N : Nat) (kd fa fb : Nat → Nat) (T : Nat) (so xa xb xc : Nat → Nat) (F : Nat → Prop) (M : Nat) (rs : Nat → Nat) (hi : m_inv u N kd fa fb T so xa xb xc F M rs) (i d : Nat) (hi6 : i < 6) (hd : d < N) : Met l yM_some (wM_some :: wA) ({ frames := 1, cells := 0, slots := 0, locals := 24 }) (va_Pc [.ref (a 0), .int (nI i), .int (nI d)] (tq_wB D vwA (mW a kI kL kZ u) (sT kI kL kZ))) (va_Qi (fun r (u' : sU) => (∃ N' kd' fa' fb', z_mk N kd fa fb 3 i d r N' kd' fa' fb' ∧ m_inv u' N' kd' fa' fb' T so xa xb xc F M rs) ∧ u'.2.2 0 = 0) (fun u' t => va_P D vwA (mW a kI kL kZ u') t.heap) (mA a)) 0 0 (mA a) := by
  have hn := mt_N hi.1
  exact tq_mono (m_some l D a kI kL kZ u N kd fa fb T so xa xb xc hi.1 i d hi6 hd) (tq_monoI (fun r u' z => by
    rcases z with ⟨k, a1, a2, a3, a4, a5, a6⟩ | ⟨a0, ⟨a1, a2, a3⟩ | ⟨a1, a2, a3⟩⟩
    · exact ⟨⟨N, kd, fa, fb, Or.inl ⟨k, a1, a2, a3, a4, a5, rfl, rfl, rfl, rfl⟩, by rw [a6]; exact minv_thr hi⟩, by rw [a6]; rfl⟩
    · exact ⟨⟨N + 1, va_up kd N 3, va_up fa N i, va_up fb N d, Or.inr ⟨a0, Or.inl ⟨a1, a2, rfl, rfl, rfl, rfl⟩⟩, by rw [a3]; exact minv_new (g := 3) (minv_thr hi) a1 (by decide) (by decide) (fun _ => by omega) (fun _ => ⟨hi6, hd⟩) (fun k hk => ⟨up_old hk, up_old hk⟩) (fun _ => ⟨va_up_self _ _ _, va_up_self _ _ _⟩)⟩, by rw [a3]; rfl⟩
    · exact ⟨⟨N, kd, fa, fb, Or.inr ⟨a0, Or.inr ⟨a1, a2, rfl, rfl, rfl, rfl⟩⟩, by rw [a3]; exact minv_thr hi⟩, by rw [a3]; rfl⟩))
theorem w_below (l : Launch) (D : va_G) (a : Nat → Nat) (kI kL kZ : ClassId) (u : sU) (N : Nat) (kd fa fb : Nat → Nat) (T : Nat) (so xa xb xc : Nat → Nat) (F : Nat → Prop) (M : Nat) (rs : Nat → Nat) (hi : m_inv u N kd fa fb T so xa xb xc F M rs) (d d2 : Nat) (hd : d < N) (hd2 : d2 < N) : Met l yM_below (wM_below :: wA) ({ frames := 1, cells := 0, slots := 0, locals := 24 }) (va_Pc [.ref (a 0), .int (nI d), .int (nI d2)] (tq_wB D vwA (mW a kI kL kZ u) (sT kI kL kZ))) (va_Qi (fun r (u' : sU) => (∃ T' so' xa' xb' xc' F', z_tl T so xa xb xc F 0 d d2 0 r T' so' xa' xb' xc' F' ∧ m_inv u' N kd fa fb T' so' xa' xb' xc' F' M rs) ∧ u'.2.2 0 = 0) (fun u' t => va_P D vwA (mW a kI kL kZ u') t.heap) (mA a)) 0 0 (mA a) := by
  have hn := mt_N hi.1
  exact tq_mono (m_below l D a kI kL kZ u N kd fa fb T so xa xb xc hi.1 d d2 hd hd2) (tq_monoI (fun r u' z => by
    rcases z with ⟨c, z1, z2⟩ | ⟨c, z1, z2⟩
    · exact ⟨⟨T + 1, va_up so (T + 1) 0, va_up xa (T + 1) d, va_up xb (T + 1) d2, va_up xc (T + 1) 0, _, Or.inl ⟨c, z1, rfl, rfl, rfl, rfl, rfl, rfl⟩, by rw [z2]; exact minv_tell (minv_thr hi) c (by decide) (fun _ => ⟨hd, hd2⟩) (fun _ => by omega) (fun _ => by omega)⟩, by rw [z2]; rfl⟩
    · exact ⟨⟨T, so, xa, xb, xc, F, Or.inr ⟨c, z1, rfl, rfl, rfl, rfl, rfl, rfl⟩, by rw [z2]; exact minv_thr hi⟩, by rw [z2]; rfl⟩))
theorem w_equal (l : Launch) (D : va_G) (a : Nat → Nat) (kI kL kZ : ClassId) (u : sU) (N : Nat) (kd fa fb : Nat → Nat) (T : Nat) (so xa xb xc : Nat → Nat) (F : Nat → Prop) (M : Nat) (rs : Nat → Nat) (hi : m_inv u N kd fa fb T so xa xb xc F M rs) (d d2 : Nat) (hd : d < N) (hd2 : d2 < N) : Met l yM_equal (wM_equal :: wA) ({ frames := 1, cells := 0, slots := 0, locals := 24 }) (va_Pc [.ref (a 0), .int (nI d), .int (nI d2)] (tq_wB D vwA (mW a kI kL kZ u) (sT kI kL kZ))) (va_Qi (fun r (u' : sU) => (∃ T' so' xa' xb' xc' F', z_tl T so xa xb xc F 1 d d2 0 r T' so' xa' xb' xc' F' ∧ m_inv u' N kd fa fb T' so' xa' xb' xc' F' M rs) ∧ u'.2.2 0 = 0) (fun u' t => va_P D vwA (mW a kI kL kZ u') t.heap) (mA a)) 0 0 (mA a) := by
  have hn := mt_N hi.1
  exact tq_mono (m_equal l D a kI kL kZ u N kd fa fb T so xa xb xc hi.1 d d2 hd hd2) (tq_monoI (fun r u' z => by
    rcases z with ⟨c, z1, z2⟩ | ⟨c, z1, z2⟩
    · exact ⟨⟨T + 1, va_up so (T + 1) 1, va_up xa (T + 1) d, va_up xb (T + 1) d2, va_up xc (T + 1) 0, _, Or.inl ⟨c, z1, rfl, rfl, rfl, rfl, rfl, rfl⟩, by rw [z2]; exact minv_tell (minv_thr hi) c (by decide) (fun _ => ⟨hd, hd2⟩) (fun _ => by omega) (fun _ => by omega)⟩, by rw [z2]; rfl⟩
    · exact ⟨⟨T, so, xa, xb, xc, F, Or.inr ⟨c, z1, rfl, rfl, rfl, rfl, rfl, rfl⟩, by rw [z2]; exact minv_thr hi⟩, by rw [z2]; rfl⟩))
theorem w_roleBelow (l : Launch) (D : va_G) (a : Nat → Nat) (kI kL kZ : ClassId) (u : sU) (N : Nat) (kd fa fb : Nat → Nat) (T : Nat) (so xa xb xc : Nat → Nat) (F : Nat → Prop) (M : Nat) (rs : Nat → Nat) (hi : m_inv u N kd fa fb T so xa xb xc F M rs) (d d2 : Nat) (hd : d < 6) (hd2 : d2 < 6) : Met l yM_roleBelow (wM_roleBelow :: wA) ({ frames := 1, cells := 0, slots := 0, locals := 24 }) (va_Pc [.ref (a 0), .int (nI d), .int (nI d2)] (tq_wB D vwA (mW a kI kL kZ u) (sT kI kL kZ))) (va_Qi (fun r (u' : sU) => (∃ T' so' xa' xb' xc' F', z_tl T so xa xb xc F 2 d d2 0 r T' so' xa' xb' xc' F' ∧ m_inv u' N kd fa fb T' so' xa' xb' xc' F' M rs) ∧ u'.2.2 0 = 0) (fun u' t => va_P D vwA (mW a kI kL kZ u') t.heap) (mA a)) 0 0 (mA a) := by
  have hn := mt_N hi.1
  exact tq_mono (m_roleBelow l D a kI kL kZ u N kd fa fb T so xa xb xc hi.1 d d2 hd hd2) (tq_monoI (fun r u' z => by
    rcases z with ⟨c, z1, z2⟩ | ⟨c, z1, z2⟩
    · exact ⟨⟨T + 1, va_up so (T + 1) 2, va_up xa (T + 1) d, va_up xb (T + 1) d2, va_up xc (T + 1) 0, _, Or.inl ⟨c, z1, rfl, rfl, rfl, rfl, rfl, rfl⟩, by rw [z2]; exact minv_tell (minv_thr hi) c (by decide) (fun _ => by omega) (fun _ => ⟨hd, hd2⟩) (fun _ => by omega)⟩, by rw [z2]; rfl⟩
    · exact ⟨⟨T, so, xa, xb, xc, F, Or.inr ⟨c, z1, rfl, rfl, rfl, rfl, rfl, rfl⟩, by rw [z2]; exact minv_thr hi⟩, by rw [z2]; rfl⟩))
theorem w_chain (l : Launch) (D : va_G) (a : Nat → Nat) (kI kL kZ : ClassId) (u : sU) (N : Nat) (kd fa fb : Nat → Nat) (T : Nat) (so xa xb xc : Nat → Nat) (F : Nat → Prop) (M : Nat) (rs : Nat → Nat) (hi : m_inv u N kd fa fb T so xa xb xc F M rs) (d d2 d3 : Nat) (hd : d < 6) (hd2 : d2 < 6) (hd3 : d3 < 6) : Met l yM_chain (wM_chain :: wA) ({ frames := 1, cells := 0, slots := 0, locals := 24 }) (va_Pc [.ref (a 0), .int (nI d), .int (nI d2), .int (nI d3)] (tq_wB D vwA (mW a kI kL kZ u) (sT kI kL kZ))) (va_Qi (fun r (u' : sU) => (∃ T' so' xa' xb' xc' F', z_tl T so xa xb xc F 3 d d2 d3 r T' so' xa' xb' xc' F' ∧ m_inv u' N kd fa fb T' so' xa' xb' xc' F' M rs) ∧ u'.2.2 0 = 0) (fun u' t => va_P D vwA (mW a kI kL kZ u') t.heap) (mA a)) 0 0 (mA a) := by
  have hn := mt_N hi.1
  exact tq_mono (m_chain l D a kI kL kZ u N kd fa fb T so xa xb xc hi.1 d d2 d3 hd hd2 hd3) (tq_monoI (fun r u' z => by
    rcases z with ⟨c, z1, z2⟩ | ⟨c, z1, z2⟩
    · exact ⟨⟨T + 1, va_up so (T + 1) 3, va_up xa (T + 1) d, va_up xb (T + 1) d2, va_up xc (T + 1) d3, _, Or.inl ⟨c, z1, rfl, rfl, rfl, rfl, rfl, rfl⟩, by rw [z2]; exact minv_tell (minv_thr hi) c (by decide) (fun _ => by omega) (fun _ => ⟨hd, hd2⟩) (fun _ => ⟨rfl, hd3⟩)⟩, by rw [z2]; rfl⟩
    · exact ⟨⟨T, so, xa, xb, xc, F, Or.inr ⟨c, z1, rfl, rfl, rfl, rfl, rfl, rfl⟩, by rw [z2]; exact minv_thr hi⟩, by rw [z2]; rfl⟩))
theorem w_retract (l : Launch) (D : va_G) (a : Nat → Nat) (kI kL kZ : ClassId) (u : sU) (N : Nat) (kd fa fb : Nat → Nat) (T : Nat) (so xa xb xc : Nat → Nat) (F : Nat → Prop) (M : Nat) (rs : Nat → Nat) (hi : m_inv u N kd fa fb T so xa xb xc F M rs) (x : Int32) : Met l yM_retract (wM_retract :: wA) ({ frames := 0, cells := 0, slots := 0, locals := 0 }) (va_Pc [.ref (a 0), .int x] (tq_wB D vwA (mW a kI kL kZ u) (sT kI kL kZ))) (va_Qi (fun r (u' : sU) => (∃ F', z_rt F x r F' ∧ m_inv u' N kd fa fb T so xa xb xc F' M rs) ∧ u'.2.2 0 = 0) (fun u' t => va_P D vwA (mW a kI kL kZ u') t.heap) (mA a)) 0 0 (mA a) := by
  have hn := mt_N hi.1
  exact tq_mono (m_retract l D a kI kL kZ u N kd fa fb T so xa xb xc hi.1 F hi.2.1 x) (tq_monoI (fun r u' z => by
    rcases z with ⟨z1, z2, z3⟩ | ⟨k, z1, z2, z3, z4⟩
    · exact ⟨⟨F, Or.inl ⟨z2, z1, rfl⟩, by rw [z3]; exact minv_thr hi⟩, by rw [z3]; rfl⟩
    · exact ⟨⟨_, Or.inr ⟨k, z1, z2, z3, rfl⟩, by rw [z4]; exact minv_back hi z2⟩, by rw [z4]; rfl⟩))
theorem w_isBelow (l : Launch) (D : va_G) (a : Nat → Nat) (kI kL kZ : ClassId) (u : sU) (N : Nat) (kd fa fb : Nat → Nat) (T : Nat) (so xa xb xc : Nat → Nat) (F : Nat → Prop) (M : Nat) (rs : Nat → Nat) (hi : m_inv u N kd fa fb T so xa xb xc F M rs) (d d2 : Nat) (hd : d < N) (hd2 : d2 < N) : Met l yM_isBelow (wM_isBelow :: wA) ({ frames := 5, cells := 0, slots := 0, locals := 118 }) (va_Pc [.ref (a 0), .int (nI d), .int (nI d2)] (tq_wB D vwA (mW a kI kL kZ u) (sT kI kL kZ))) (va_Qi (fun r (u' : sU) => ((r = bI ((z_B N kd fa fb so xa xb xc F) d d2)) ∧ m_inv u' N kd fa fb T so xa xb xc F M rs) ∧ u'.2.2 0 = 0) (fun u' t => va_P D vwA (mW a kI kL kZ u') t.heap) (mA a)) 0 0 (mA a) := by
  have hn := mt_N hi.1
  exact tq_mono (m_isBelow l D a kI kL kZ u N kd fa fb T so xa xb xc F M rs hi d d2 hd hd2) (tq_monoI (fun r u' z => by
    exact ⟨⟨by rw [z.1, mB z.2.1 z.2.2.2], z.2.1⟩, z.2.2.1⟩))
theorem w_supers (l : Launch) (D : va_G) (a : Nat → Nat) (kI kL kZ : ClassId) (u : sU) (N : Nat) (kd fa fb : Nat → Nat) (T : Nat) (so xa xb xc : Nat → Nat) (F : Nat → Prop) (M : Nat) (rs : Nat → Nat) (hi : m_inv u N kd fa fb T so xa xb xc F M rs) (d : Nat) (hd : d < N) : Met l yM_supers (wM_supers :: wA) ({ frames := 5, cells := 0, slots := 0, locals := 118 }) (va_Pc [.ref (a 0), .int (nI d)] (tq_wB D vwA (mW a kI kL kZ u) (sT kI kL kZ))) (va_Qi (fun r (u' : sU) => ((r = nI (tm_cnt (z_na kd (z_B N kd fa fb so xa xb xc F) d) N)) ∧ m_inv u' N kd fa fb T so xa xb xc F M rs) ∧ u'.2.2 0 = 0) (fun u' t => va_P D vwA (mW a kI kL kZ u') t.heap) (mA a)) 0 0 (mA a) := by
  have hn := mt_N hi.1
  exact tq_mono (m_supers l D a kI kL kZ u N kd fa fb T so xa xb xc F M rs hi d hd) (tq_monoI (fun r u' z => by
    exact ⟨⟨by rw [z.1, cnt_congr (fun k hk => mNa z.2.1 z.2.2.2 hk)], z.2.1⟩, z.2.2.1⟩))
theorem w_sup (l : Launch) (D : va_G) (a : Nat → Nat) (kI kL kZ : ClassId) (u : sU) (N : Nat) (kd fa fb : Nat → Nat) (T : Nat) (so xa xb xc : Nat → Nat) (F : Nat → Prop) (M : Nat) (rs : Nat → Nat) (hi : m_inv u N kd fa fb T so xa xb xc F M rs) (d : Nat) (x : Int32) (hd : d < N) : Met l yM_sup (wM_sup :: wA) ({ frames := 5, cells := 0, slots := 0, locals := 118 }) (va_Pc [.ref (a 0), .int (nI d), .int x] (tq_wB D vwA (mW a kI kL kZ u) (sT kI kL kZ))) (va_Qi (fun r (u' : sU) => ((q_sup (z_na kd (z_B N kd fa fb so xa xb xc F) d) N x r) ∧ m_inv u' N kd fa fb T so xa xb xc F M rs) ∧ u'.2.2 0 = 0) (fun u' t => va_P D vwA (mW a kI kL kZ u') t.heap) (mA a)) 0 0 (mA a) := by
  have hn := mt_N hi.1
  exact tq_mono (m_sup l D a kI kL kZ u N kd fa fb T so xa xb xc F M rs hi d x hd) (tq_monoI (fun r u' z => by
    exact ⟨⟨(sup_congr (fun k hk => mNa z.2.1 z.2.2.2 hk)).mp z.1, z.2.1⟩, z.2.2.1⟩))
theorem w_direct (l : Launch) (D : va_G) (a : Nat → Nat) (kI kL kZ : ClassId) (u : sU) (N : Nat) (kd fa fb : Nat → Nat) (T : Nat) (so xa xb xc : Nat → Nat) (F : Nat → Prop) (M : Nat) (rs : Nat → Nat) (hi : m_inv u N kd fa fb T so xa xb xc F M rs) (d d2 : Nat) (hd : d < N) (hd2 : d2 < N) : Met l yM_direct (wM_direct :: wA) ({ frames := 5, cells := 0, slots := 0, locals := 118 }) (va_Pc [.ref (a 0), .int (nI d), .int (nI d2)] (tq_wB D vwA (mW a kI kL kZ u) (sT kI kL kZ))) (va_Qi (fun r (u' : sU) => ((r = bI (z_dir N (z_B N kd fa fb so xa xb xc F) d d2)) ∧ m_inv u' N kd fa fb T so xa xb xc F M rs) ∧ u'.2.2 0 = 0) (fun u' t => va_P D vwA (mW a kI kL kZ u') t.heap) (mA a)) 0 0 (mA a) := by
  have hn := mt_N hi.1
  exact tq_mono (m_direct l D a kI kL kZ u N kd fa fb T so xa xb xc F M rs hi d d2 hd hd2) (tq_monoI (fun r u' z => by
    exact ⟨⟨by rw [z.1, mDir z.2.1 z.2.2.2], z.2.1⟩, z.2.2.1⟩))
theorem w_twin (l : Launch) (D : va_G) (a : Nat → Nat) (kI kL kZ : ClassId) (u : sU) (N : Nat) (kd fa fb : Nat → Nat) (T : Nat) (so xa xb xc : Nat → Nat) (F : Nat → Prop) (M : Nat) (rs : Nat → Nat) (hi : m_inv u N kd fa fb T so xa xb xc F M rs) (d : Nat) (hd : d < N) : Met l yM_twin (wM_twin :: wA) ({ frames := 5, cells := 0, slots := 0, locals := 118 }) (va_Pc [.ref (a 0), .int (nI d)] (tq_wB D vwA (mW a kI kL kZ u) (sT kI kL kZ))) (va_Qi (fun r (u' : sU) => ((r = nI (z_le (z_B N kd fa fb so xa xb xc F) d)) ∧ m_inv u' N kd fa fb T so xa xb xc F M rs) ∧ u'.2.2 0 = 0) (fun u' t => va_P D vwA (mW a kI kL kZ u') t.heap) (mA a)) 0 0 (mA a) := by
  have hn := mt_N hi.1
  exact tq_mono (m_twin l D a kI kL kZ u N kd fa fb T so xa xb xc F M rs hi d hd) (tq_monoI (fun r u' z => by
    exact ⟨⟨by rw [z.1, mLe z.2.1 z.2.2.2], z.2.1⟩, z.2.2.1⟩))
theorem w_common (l : Launch) (D : va_G) (a : Nat → Nat) (kI kL kZ : ClassId) (u : sU) (N : Nat) (kd fa fb : Nat → Nat) (T : Nat) (so xa xb xc : Nat → Nat) (F : Nat → Prop) (M : Nat) (rs : Nat → Nat) (hi : m_inv u N kd fa fb T so xa xb xc F M rs) (d d2 : Nat) (x : Int32) (hd : d < N) (hd2 : d2 < N) : Met l yM_common (wM_common :: wA) ({ frames := 5, cells := 0, slots := 0, locals := 118 }) (va_Pc [.ref (a 0), .int (nI d), .int (nI d2), .int x] (tq_wB D vwA (mW a kI kL kZ u) (sT kI kL kZ))) (va_Qi (fun r (u' : sU) => ((q_sup (z_co N kd (z_B N kd fa fb so xa xb xc F) d d2) N x r) ∧ m_inv u' N kd fa fb T so xa xb xc F M rs) ∧ u'.2.2 0 = 0) (fun u' t => va_P D vwA (mW a kI kL kZ u') t.heap) (mA a)) 0 0 (mA a) := by
  have hn := mt_N hi.1
  exact tq_mono (m_common l D a kI kL kZ u N kd fa fb T so xa xb xc F M rs hi d d2 x hd hd2) (tq_monoI (fun r u' z => by
    exact ⟨⟨(sup_congr (fun k hk => mCo z.2.1 z.2.2.2 hk)).mp z.1, z.2.1⟩, z.2.2.1⟩))
theorem w_has (l : Launch) (D : va_G) (a : Nat → Nat) (kI kL kZ : ClassId) (u : sU) (N : Nat) (kd fa fb : Nat → Nat) (T : Nat) (so xa xb xc : Nat → Nat) (F : Nat → Prop) (M : Nat) (rs : Nat → Nat) (hi : m_inv u N kd fa fb T so xa xb xc F M rs) (x i y : Nat) (hx1 : x < N) (hi6 : i < 6) (hy1 : y < N) : Met l yM_has (wM_has :: wA) ({ frames := 5, cells := 0, slots := 0, locals := 118 }) (va_Pc [.ref (a 0), .int (nI x), .int (nI i), .int (nI y)] (tq_wB D vwA (mW a kI kL kZ u) (sT kI kL kZ))) (va_Qi (fun r (u' : sU) => ((r = bI (z_has N kd fa fb so xa xb xc F x i y)) ∧ m_inv u' N kd fa fb T so xa xb xc F M rs) ∧ u'.2.2 0 = 0) (fun u' t => va_P D vwA (mW a kI kL kZ u') t.heap) (mA a)) 0 0 (mA a) := by
  have hn := mt_N hi.1
  exact tq_mono (m_has l D a kI kL kZ u N kd fa fb T so xa xb xc F M rs hi x i y hx1 hi6 hy1) (tq_monoI (fun r u' z => by
    exact ⟨⟨by rw [z.1, mHas z.2.1 z.2.2.2 hx1], z.2.1⟩, z.2.2.1⟩))
theorem w_why (l : Launch) (D : va_G) (a : Nat → Nat) (kI kL kZ : ClassId) (u : sU) (N : Nat) (kd fa fb : Nat → Nat) (T : Nat) (so xa xb xc : Nat → Nat) (F : Nat → Prop) (M : Nat) (rs : Nat → Nat) (hi : m_inv u N kd fa fb T so xa xb xc F M rs) (d d2 : Nat) (hd : d < N) (hd2 : d2 < N) : Met l yM_why (wM_why :: wA) ({ frames := 5, cells := 0, slots := 0, locals := 118 }) (va_Pc [.ref (a 0), .int (nI d), .int (nI d2)] (tq_wB D vwA (mW a kI kL kZ u) (sT kI kL kZ))) (va_Qi (fun r (u' : sU) => (∃ M' rs', z_wy N kd fa fb so xa xb xc F T d d2 r M' rs' ∧ m_inv u' N kd fa fb T so xa xb xc F M' rs') ∧ u'.2.2 0 = 0) (fun u' t => va_P D vwA (mW a kI kL kZ u') t.heap) (mA a)) 0 0 (mA a) := by
  have hn := mt_N hi.1
  exact tq_mono (m_why l D a kI kL kZ u N kd fa fb T so xa xb xc F M rs hi d d2 hd hd2) (tq_monoI (fun r u' z => by
    obtain ⟨z1, z2⟩ := z
    refine ⟨?_, z2⟩
    rcases z1 with ⟨a1, a2, a3⟩ | ⟨M', rs', a1, a2, a3, a4, a5⟩
    · exact ⟨0, rs, Or.inl ⟨a1, a2, rfl⟩, a3⟩
    · exact ⟨M', rs', Or.inr ⟨a1, a2, a3, a4⟩, a5⟩))
theorem w_reason (l : Launch) (D : va_G) (a : Nat → Nat) (kI kL kZ : ClassId) (u : sU) (N : Nat) (kd fa fb : Nat → Nat) (T : Nat) (so xa xb xc : Nat → Nat) (F : Nat → Prop) (M : Nat) (rs : Nat → Nat) (hi : m_inv u N kd fa fb T so xa xb xc F M rs) (x : Int32) : Met l yM_reason (wM_reason :: wA) ({ frames := 0, cells := 0, slots := 0, locals := 0 }) (va_Pc [.ref (a 0), .int x] (tq_wB D vwA (mW a kI kL kZ u) (sT kI kL kZ))) (va_Qi (fun r (u' : sU) => ((z_rs M rs x r) ∧ m_inv u' N kd fa fb T so xa xb xc F M rs) ∧ u'.2.2 0 = 0) (fun u' t => va_P D vwA (mW a kI kL kZ u') t.heap) (mA a)) 0 0 (mA a) := by
  have hn := mt_N hi.1
  exact tq_mono (m_reason l D a kI kL kZ u x (by have := hi.2.2.2.2.2.2.1; have := hi.2.2.2.2.2.2.2.1; omega)) (tq_monoI (fun r u' z => by
    have e7 := hi.2.2.2.2.2.2.1
    obtain ⟨z1, z2⟩ := z
    rw [e7] at z1
    refine ⟨⟨?_, by rw [z2]; exact minv_thr hi⟩, by rw [z2]; rfl⟩
    rcases z1 with ⟨k, a1, a2, a3⟩ | z1
    · exact Or.inl ⟨k, a1, a2, by rw [a3]; exact hi.2.2.2.2.2.2.2.2 k a1⟩
    · exact Or.inr z1))
theorem w_count0 (l : Launch) (D : va_G) (a : Nat → Nat) (kI kL kZ : ClassId) (u : sU) (N : Nat) (kd fa fb : Nat → Nat) (T : Nat) (so xa xb xc : Nat → Nat) (F : Nat → Prop) (M : Nat) (rs : Nat → Nat) (hi : m_inv u N kd fa fb T so xa xb xc F M rs)  : Met l yM_count (wM_count :: wA) ({ frames := 5, cells := 0, slots := 0, locals := 118 }) (va_Pc [.ref (a 0), .int (nI 0)] (tq_wB D vwA (mW a kI kL kZ u) (sT kI kL kZ))) (va_Qi (fun r (u' : sU) => ((r = nI (N)) ∧ m_inv u' N kd fa fb T so xa xb xc F M rs) ∧ u'.2.2 0 = 0) (fun u' t => va_P D vwA (mW a kI kL kZ u') t.heap) (mA a)) 0 0 (mA a) := by
  have hn := mt_N hi.1
  exact tq_mono (m_count0 l D a kI kL kZ u N kd fa fb T so xa xb xc F M rs hi) (tq_monoI (fun r u' z => by
    exact ⟨⟨z.1, z.2.1⟩, z.2.2.1⟩))
theorem w_count1 (l : Launch) (D : va_G) (a : Nat → Nat) (kI kL kZ : ClassId) (u : sU) (N : Nat) (kd fa fb : Nat → Nat) (T : Nat) (so xa xb xc : Nat → Nat) (F : Nat → Prop) (M : Nat) (rs : Nat → Nat) (hi : m_inv u N kd fa fb T so xa xb xc F M rs)  : Met l yM_count (wM_count :: wA) ({ frames := 5, cells := 0, slots := 0, locals := 118 }) (va_Pc [.ref (a 0), .int (nI 1)] (tq_wB D vwA (mW a kI kL kZ u) (sT kI kL kZ))) (va_Qi (fun r (u' : sU) => ((r = nI (tm_cnt (fun k => decide (kd k = 1)) N)) ∧ m_inv u' N kd fa fb T so xa xb xc F M rs) ∧ u'.2.2 0 = 0) (fun u' t => va_P D vwA (mW a kI kL kZ u') t.heap) (mA a)) 0 0 (mA a) := by
  have hn := mt_N hi.1
  exact tq_mono (m_count1 l D a kI kL kZ u N kd fa fb T so xa xb xc F M rs hi) (tq_monoI (fun r u' z => by
    exact ⟨⟨by rw [z.1, cnt_congr (fun k hk => mNm z.2.1 hk)], z.2.1⟩, z.2.2.1⟩))
theorem w_count2 (l : Launch) (D : va_G) (a : Nat → Nat) (kI kL kZ : ClassId) (u : sU) (N : Nat) (kd fa fb : Nat → Nat) (T : Nat) (so xa xb xc : Nat → Nat) (F : Nat → Prop) (M : Nat) (rs : Nat → Nat) (hi : m_inv u N kd fa fb T so xa xb xc F M rs)  : Met l yM_count (wM_count :: wA) ({ frames := 5, cells := 0, slots := 0, locals := 118 }) (va_Pc [.ref (a 0), .int (nI 2)] (tq_wB D vwA (mW a kI kL kZ u) (sT kI kL kZ))) (va_Qi (fun r (u' : sU) => ((r = nI (T)) ∧ m_inv u' N kd fa fb T so xa xb xc F M rs) ∧ u'.2.2 0 = 0) (fun u' t => va_P D vwA (mW a kI kL kZ u') t.heap) (mA a)) 0 0 (mA a) := by
  have hn := mt_N hi.1
  exact tq_mono (m_count2 l D a kI kL kZ u N kd fa fb T so xa xb xc F M rs hi) (tq_monoI (fun r u' z => by
    exact ⟨⟨z.1, z.2.1⟩, z.2.2.1⟩))
theorem w_count3 (l : Launch) (D : va_G) (a : Nat → Nat) (kI kL kZ : ClassId) (u : sU) (N : Nat) (kd fa fb : Nat → Nat) (T : Nat) (so xa xb xc : Nat → Nat) (F : Nat → Prop) (M : Nat) (rs : Nat → Nat) (hi : m_inv u N kd fa fb T so xa xb xc F M rs)  : Met l yM_count (wM_count :: wA) ({ frames := 5, cells := 0, slots := 0, locals := 118 }) (va_Pc [.ref (a 0), .int (nI 3)] (tq_wB D vwA (mW a kI kL kZ u) (sT kI kL kZ))) (va_Qi (fun r (u' : sU) => ((r = nI (tm_cnt (fun k => dB (F k)) (T + 1))) ∧ m_inv u' N kd fa fb T so xa xb xc F M rs) ∧ u'.2.2 0 = 0) (fun u' t => va_P D vwA (mW a kI kL kZ u') t.heap) (mA a)) 0 0 (mA a) := by
  have hn := mt_N hi.1
  exact tq_mono (m_count3 l D a kI kL kZ u N kd fa fb T so xa xb xc F M rs hi) (tq_monoI (fun r u' z => by
    exact ⟨⟨z.1, z.2.1⟩, z.2.2.1⟩))
theorem w_count4 (l : Launch) (D : va_G) (a : Nat → Nat) (kI kL kZ : ClassId) (u : sU) (N : Nat) (kd fa fb : Nat → Nat) (T : Nat) (so xa xb xc : Nat → Nat) (F : Nat → Prop) (M : Nat) (rs : Nat → Nat) (hi : m_inv u N kd fa fb T so xa xb xc F M rs)  : Met l yM_count (wM_count :: wA) ({ frames := 5, cells := 0, slots := 0, locals := 118 }) (va_Pc [.ref (a 0), .int (nI 4)] (tq_wB D vwA (mW a kI kL kZ u) (sT kI kL kZ))) (va_Qi (fun r (u' : sU) => ((r = nI (z_pr N (z_B N kd fa fb so xa xb xc F))) ∧ m_inv u' N kd fa fb T so xa xb xc F M rs) ∧ u'.2.2 0 = 0) (fun u' t => va_P D vwA (mW a kI kL kZ u') t.heap) (mA a)) 0 0 (mA a) := by
  have hn := mt_N hi.1
  exact tq_mono (m_count4 l D a kI kL kZ u N kd fa fb T so xa xb xc F M rs hi) (tq_monoI (fun r u' z => by
    exact ⟨⟨by rw [z.1, mB z.2.1 z.2.2.2]; rfl, z.2.1⟩, z.2.2.1⟩))
theorem w_count5 (l : Launch) (D : va_G) (a : Nat → Nat) (kI kL kZ : ClassId) (u : sU) (N : Nat) (kd fa fb : Nat → Nat) (T : Nat) (so xa xb xc : Nat → Nat) (F : Nat → Prop) (M : Nat) (rs : Nat → Nat) (hi : m_inv u N kd fa fb T so xa xb xc F M rs)  : Met l yM_count (wM_count :: wA) ({ frames := 5, cells := 0, slots := 0, locals := 118 }) (va_Pc [.ref (a 0), .int (nI 5)] (tq_wB D vwA (mW a kI kL kZ u) (sT kI kL kZ))) (va_Qi (fun r (u' : sU) => ((r = nI (z_em N (z_B N kd fa fb so xa xb xc F))) ∧ m_inv u' N kd fa fb T so xa xb xc F M rs) ∧ u'.2.2 0 = 0) (fun u' t => va_P D vwA (mW a kI kL kZ u') t.heap) (mA a)) 0 0 (mA a) := by
  have hn := mt_N hi.1
  exact tq_mono (m_count5 l D a kI kL kZ u N kd fa fb T so xa xb xc F M rs hi) (tq_monoI (fun r u' z => by
    exact ⟨⟨by rw [z.1, mB z.2.1 z.2.2.2]; rfl, z.2.1⟩, z.2.2.1⟩))
theorem w_count6 (l : Launch) (D : va_G) (a : Nat → Nat) (kI kL kZ : ClassId) (u : sU) (N : Nat) (kd fa fb : Nat → Nat) (T : Nat) (so xa xb xc : Nat → Nat) (F : Nat → Prop) (M : Nat) (rs : Nat → Nat) (hi : m_inv u N kd fa fb T so xa xb xc F M rs)  : Met l yM_count (wM_count :: wA) ({ frames := 5, cells := 0, slots := 0, locals := 118 }) (va_Pc [.ref (a 0), .int (nI 6)] (tq_wB D vwA (mW a kI kL kZ u) (sT kI kL kZ))) (va_Qi (fun r (u' : sU) => ((r = nI (z_cl N (z_B N kd fa fb so xa xb xc F))) ∧ m_inv u' N kd fa fb T so xa xb xc F M rs) ∧ u'.2.2 0 = 0) (fun u' t => va_P D vwA (mW a kI kL kZ u') t.heap) (mA a)) 0 0 (mA a) := by
  have hn := mt_N hi.1
  exact tq_mono (m_count6 l D a kI kL kZ u N kd fa fb T so xa xb xc F M rs hi) (tq_monoI (fun r u' z => by
    exact ⟨⟨by rw [z.1, show tm_cnt (fun k => m_le u' k == k) N = z_cl N (z_B N kd fa fb so xa xb xc F) from cnt_congr (fun k hk => by rw [mLe z.2.1 z.2.2.2])], z.2.1⟩, z.2.2.1⟩))
theorem w_countN (l : Launch) (D : va_G) (a : Nat → Nat) (kI kL kZ : ClassId) (u : sU) (N : Nat) (kd fa fb : Nat → Nat) (T : Nat) (so xa xb xc : Nat → Nat) (F : Nat → Prop) (M : Nat) (rs : Nat → Nat) (hi : m_inv u N kd fa fb T so xa xb xc F M rs) (x : Int32) (hout : x.toInt < 0 ∨ 6 < x.toInt) : Met l yM_count (wM_count :: wA) ({ frames := 5, cells := 0, slots := 0, locals := 118 }) (va_Pc [.ref (a 0), .int x] (tq_wB D vwA (mW a kI kL kZ u) (sT kI kL kZ))) (va_Qi (fun r (u' : sU) => ((r = -1) ∧ m_inv u' N kd fa fb T so xa xb xc F M rs) ∧ u'.2.2 0 = 0) (fun u' t => va_P D vwA (mW a kI kL kZ u') t.heap) (mA a)) 0 0 (mA a) := by
  have hn := mt_N hi.1
  exact tq_mono (m_countN l D a kI kL kZ u N kd fa fb T so xa xb xc F M rs hi x hout) (tq_monoI (fun r u' z => by
    exact ⟨⟨z.1, z.2.1⟩, z.2.2.1⟩))
