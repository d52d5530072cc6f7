/-! The model: what it answers. Written by wip/whole/gen/genM4.py. -/
def m_inv (u : sU) (N : Nat) (kd fa fb : Nat → Nat) (T : Nat) (so xa xb xc : Nat → Nat) (F : Nat → Prop) (M : Nat) (rs : Nat → Nat) : Prop :=
  m_tab u N kd fa fb T so xa xb xc ∧ m_frc u T F ∧ m_rng u ∧ u.2.2 3 ≤ 1 ∧ u.2.2 4 ≤ 1 ∧ (u.2.2 3 = 1 → m_use u T F ∧ m_ok u N kd fa fb so xa xb xc F ∧ m_clo u N kd fa fb so xa xb xc F) ∧ u.2.2 5 = M ∧ M ≤ 100 ∧ ∀ i, i < M → u.2.1 9 i = nI (rs i)
theorem frc_of {u v : sU} {T : Nat} {F : Nat → Prop} (h : m_frc u T F) (e : v.2.1 7 = u.2.1 7) : m_frc v T F := by
  unfold m_frc
  rw [e]
  exact h
theorem tab_of2 {u v : sU} {N : Nat} {kd fa fb : Nat → Nat} {T : Nat} {so xa xb xc : Nat → Nat} (h : m_tab u N kd fa fb T so xa xb xc) (e : ∀ i, ¬ i = 8 → v.2.1 i = u.2.1 i) (e2 : v.2.2 1 = u.2.2 1) (e3 : v.2.2 2 = u.2.2 2) : m_tab v N kd fa fb T so xa xb xc := by
  unfold m_tab
  rw [e 0 (by decide), e 1 (by decide), e 2 (by decide), e 3 (by decide), e 4 (by decide), e 5 (by decide), e 6 (by decide), e2, e3]
  exact h
theorem cls_inv {u v : sU} {N : Nat} {kd fa fb : Nat → Nat} {T : Nat} {so xa xb xc : Nat → Nat} {F : Nat → Prop} {M : Nat} {rs : Nat → Nat} (h : m_inv u N kd fa fb T so xa xb xc F M rs)
    (k : (∀ i, ¬ i = 8 → v.2.1 i = u.2.1 i) ∧ (∀ j, ¬ j = 3 → ¬ j = 4 → v.2.2 j = u.2.2 j) ∧ v.2.2 3 = 1 ∧ v.2.2 4 ≤ 1 ∧ m_use v T F ∧ m_ok v N kd fa fb so xa xb xc F ∧ m_clo v N kd fa fb so xa xb xc F) : m_inv v N kd fa fb T so xa xb xc F M rs := by
  obtain ⟨h1, h2, h3, h4, h5, h6, h7, h8, h9⟩ := h
  obtain ⟨k1, k2, k3, k4, k5⟩ := k
  refine ⟨tab_of2 h1 k1 (k2 1 (by decide) (by decide)) (k2 2 (by decide) (by decide)), frc_of h2 (k1 7 (by decide)), mo_rng k5.2.1 (mt_N h1).2.2.1, by omega, k4, fun _ => k5, (k2 5 (by decide) (by decide)).trans h7, h8, fun i hi => ?_⟩
  rw [k1 9 (by decide)]
  exact h9 i hi
def m_st (u : sU) (d k : Nat) : Bool := u.1 0 d k && !u.1 0 k d
def m_le (u : sU) (d : Nat) : Nat := q_le (fun b => u.1 0 d b && u.1 0 b d) d d
def m_nm (u : sU) (k : Nat) : Bool := decide (u.2.1 0 k = nI 2)
def m_na (u : sU) (d k : Nat) : Bool := m_nm u k && u.1 0 d k
def m_cm (u : sU) (d d2 k : Nat) : Bool := m_nm u k && u.1 0 d k && u.1 0 d2 k
theorem m_nm_t {u : sU} {k : Nat} (h : u.2.1 0 k = nI 2) : m_nm u k = true := decide_eq_true h
theorem m_nm_f {u : sU} {k : Nat} (h : ¬ u.2.1 0 k = nI 2) : m_nm u k = false := decide_eq_false h
theorem m_le_of {u : sU} {d k : Nat} (h : ∀ b, b < k → ¬ (u.1 0 d b = true ∧ u.1 0 b d = true)) (hk : k ≤ d) (h1 : u.1 0 d k = true) (h2 : u.1 0 k d = true) : m_le u d = k := by
  refine q_le_of (fun b hb => ?_) hk (Or.inr (by show (_ && _) = true; rw [h1, h2]; rfl)) d (by omega) (Nat.le_refl _)
  show (_ && _) = false
  cases q1 : u.1 0 d b with
  | false => rfl
  | true =>
    cases q2 : u.1 0 b d with
    | false => rfl
    | true => exact absurd ⟨q1, q2⟩ (h b hb)
theorem m_le_le (u : sU) (d : Nat) : m_le u d ≤ d := q_le_le _ _ _
theorem m_nm_lo {u : sU} {N : Nat} {kd fa fb : Nat → Nat} {T : Nat} {so xa xb xc : Nat → Nat} (h : m_tab u N kd fa fb T so xa xb xc) : ∀ k, k < 2 → m_nm u k = false := fun k hk => by
  have hN := mt_N h
  have h0 := h.2.2.2.2.2.1
  have h1 := h.2.2.2.2.2.2.1
  refine m_nm_f (fun z => ?_)
  have := (mt_k (j := 1) h (show k < N by omega) (by decide) (by decide)).mp z
  rcases Nat.lt_or_ge k 1 with w | w
  · rw [show k = 0 by omega] at this; omega
  · rw [show k = 1 by omega] at this; omega
theorem and_f {a b : Bool} (h : a = false) : (a && b) = false := by rw [h]; rfl
set_option maxHeartbeats 4000000 in
set_option maxRecDepth 100000 in
/-- m_strictly -/
theorem m_strictly (l : Launch) (D : va_G) (a : Nat → Nat) (kI kL kZ : ClassId) (u : sU) (d d2 : Nat) (hd : d < 160) (hd2 : d2 < 160) : Met l yM_strictly (wM_strictly :: wA) ({ frames := 1, cells := 0, slots := 0, locals := 22 }) (va_Pc [.ref (a 0), .int (nI d), .int (nI d2)] (tq_rB D vwA (mW a kI kL kZ u) (sT kI kL kZ))) (va_Qi (fun r (_ : Unit) => r = bI (m_st u d d2)) (fun _ _ => True) (fun _ => False)) 0 0 (fun _ => False) := by
  refine Met.ofW (cc := bM_strictly) (maxL := 3) (ret := (some .boolean)) (by decide +kernel) rfl ?_
  intro p e s m args below meth c s₁ B1 hml hv
  obtain ⟨rfl, hP, hK⟩ := hv
  have hx := B1.exec
  have hb := B1.bytes
  have hr := B1.returns
  have hA : ∀ w ∈ wA, w.before ([.ref (a 0), .int (nI d), .int (nI d2)] : List Value).toArray s = true := fun w h => atoms_spec (ws := wM_strictly :: wA) B1.pre w (List.mem_cons_of_mem _ h)
  have hown : s.vm.findClass RcM = some m.cls := findClass_of_methodNamed B1.named
  have hlocks := B1.notSynchronized
  have hS : va_S (fun _ => False) s.heap s.heap [] := va_S.rf
  have hl := lv_entry ([.ref (a 0), .int (nI d), .int (nI d2)]) (n := 3) (Nat.le_of_ble_eq_true rfl)
  rw [lg_entry_eq]
  generalize (lg_sl ([.ref (a 0), .int (nI d), .int (nI d2)]) ++ List.replicate (3 - (lg_sl ([.ref (a 0), .int (nI d), .int (nI d2)])).length) Slot.unset).toArray = ls at hl ⊢
  have hl : lv_has ls 3 [(0, .ref (a 0)), (1, .int (nI d)), (2, .int (nI d2))] := hl
  refine tq_gen (fun R Q hRe hQe => ?_)
  have hRf : 1 ≤ R.frames := by rw [hRe]; exact Nat.le_of_ble_eq_true rfl
  have hRl : 22 ≤ R.locals := by rw [hRe]; exact Nat.le_of_ble_eq_true rfl
  have hRc : 0 ≤ R.cells := by rw [hRe]; exact Nat.le_of_ble_eq_true rfl
  have hRs : 0 ≤ R.slots := by rw [hRe]; exact Nat.le_of_ble_eq_true rfl
  refine lv_aload_n hx hb dM_strictly_0 rfl (lv_at hl 0 rfl) ?_
  refine gf_M_42 (v := .ref (a 10)) hx hb hA hown hK hP 0 rfl rfl dM_strictly_1 ?_
  refine lv_iload_n hx hb dM_strictly_4 rfl (lv_at hl 1 rfl) ?_
  refine lv_iload_n hx hb dM_strictly_5 rfl (lv_at hl 2 rfl) ?_
  refine k_in ⟨hx, hb, hml, hown, hA⟩ (kw_M_84 hA rfl rfl ⟨Nat.le_trans (Nat.le_of_ble_eq_true rfl) hRf, Nat.le_trans (Nat.le_of_ble_eq_true rfl) hRl⟩) hK hP hS 10 1 rfl rfl (by omega) (by omega) (by decide) hl.1 (Nat.le_of_ble_eq_true rfl) ⟨by omega, by omega⟩ dM_strictly_6 (fun H locs hP hS => ?_)
  refine tq_bf hx hb dM_strictly_9 (tgt := 28) (by decide) (fun h9 => ?_) (fun h9 => ?_)
  · have hB : m_st u d d2 = false := by unfold m_st; rw [h9]; rfl
    refine lv_iconst (v := nI 0) hx hb dM_strictly_28 (by decide +kernel) ?_
    subst hQe
    exact W.zret (v := nI 0) (ty := .boolean) hx hb hr rfl (fun t ht hW => ⟨⟨_, (), rfl, by rw [hB]; rfl, trivial⟩, hS.F ht⟩) hS.2.2 dM_strictly_29
  · refine lv_aload_n hx hb dM_strictly_12 rfl (lv_at hl 0 rfl) ?_
    refine gf_M_42 (v := .ref (a 10)) hx hb hA hown hK hP 0 rfl rfl dM_strictly_13 ?_
    refine lv_iload_n hx hb dM_strictly_16 rfl (lv_at hl 2 rfl) ?_
    refine lv_iload_n hx hb dM_strictly_17 rfl (lv_at hl 1 rfl) ?_
    refine k_in ⟨hx, hb, hml, hown, hA⟩ (kw_M_84 hA rfl rfl ⟨Nat.le_trans (Nat.le_of_ble_eq_true rfl) hRf, Nat.le_trans (Nat.le_of_ble_eq_true rfl) hRl⟩) hK hP hS 10 1 rfl rfl (by omega) (by omega) (by decide) hl.1 (Nat.le_of_ble_eq_true rfl) ⟨by omega, by omega⟩ dM_strictly_18 (fun H locs hP hS => ?_)
    refine tq_bt hx hb dM_strictly_21 (tgt := 28) (by decide) (fun h21 => ?_) (fun h21 => ?_)
    · have hB : m_st u d d2 = false := by unfold m_st; rw [h9, h21]; rfl
      refine lv_iconst (v := nI 0) hx hb dM_strictly_28 (by decide +kernel) ?_
      subst hQe
      exact W.zret (v := nI 0) (ty := .boolean) hx hb hr rfl (fun t ht hW => ⟨⟨_, (), rfl, by rw [hB]; rfl, trivial⟩, hS.F ht⟩) hS.2.2 dM_strictly_29
    · have hB : m_st u d d2 = true := by unfold m_st; rw [h9, h21]; rfl
      refine lv_iconst (v := nI 1) hx hb dM_strictly_24 (by decide +kernel) ?_
      refine lv_goto hx hb dM_strictly_25 (tgt := 29) (by decide) ?_
      subst hQe
      exact W.zret (v := nI 1) (ty := .boolean) hx hb hr rfl (fun t ht hW => ⟨⟨_, (), rfl, by rw [hB]; rfl, trivial⟩, hS.F ht⟩) hS.2.2 dM_strictly_29
set_option maxHeartbeats 4000000 in
set_option maxRecDepth 100000 in
/-- m_least -/
theorem m_least (l : Launch) (D : va_G) (a : Nat → Nat) (kI kL kZ : ClassId) (u : sU) (d : Nat) (hd : d < 160) (hdd : u.1 0 d d = true) : Met l yM_least (wM_least :: wA) ({ frames := 1, cells := 0, slots := 0, locals := 22 }) (va_Pc [.ref (a 0), .int (nI d)] (tq_rB D vwA (mW a kI kL kZ u) (sT kI kL kZ))) (va_Qi (fun r (_ : Unit) => r = nI (m_le u d)) (fun _ _ => True) (fun _ => False)) 0 0 (fun _ => False) := by
  refine Met.ofW (cc := bM_least) (maxL := 3) (ret := (some .int)) (by decide +kernel) rfl ?_
  intro p e s m args below meth c s₁ B1 hml hv
  obtain ⟨rfl, hP, hK⟩ := hv
  have hx := B1.exec
  have hb := B1.bytes
  have hr := B1.returns
  have hA : ∀ w ∈ wA, w.before ([.ref (a 0), .int (nI d)] : List Value).toArray s = true := fun w h => atoms_spec (ws := wM_least :: wA) B1.pre w (List.mem_cons_of_mem _ h)
  have hown : s.vm.findClass RcM = some m.cls := findClass_of_methodNamed B1.named
  have hlocks := B1.notSynchronized
  have hS : va_S (fun _ => False) s.heap s.heap [] := va_S.rf
  have hl := lv_entry ([.ref (a 0), .int (nI d)]) (n := 3) (Nat.le_of_ble_eq_true rfl)
  rw [lg_entry_eq]
  generalize (lg_sl ([.ref (a 0), .int (nI d)]) ++ List.replicate (3 - (lg_sl ([.ref (a 0), .int (nI d)])).length) Slot.unset).toArray = ls at hl ⊢
  have hl : lv_has ls 3 [(0, .ref (a 0)), (1, .int (nI d))] := hl
  refine tq_gen (fun R Q hRe hQe => ?_)
  have hRf : 1 ≤ R.frames := by rw [hRe]; exact Nat.le_of_ble_eq_true rfl
  have hRl : 22 ≤ R.locals := by rw [hRe]; exact Nat.le_of_ble_eq_true rfl
  have hRc : 0 ≤ R.cells := by rw [hRe]; exact Nat.le_of_ble_eq_true rfl
  have hRs : 0 ≤ R.slots := by rw [hRe]; exact Nat.le_of_ble_eq_true rfl
  refine lv_iconst (v := nI 0) hx hb dM_least_0 (by decide +kernel) ?_
  refine lv_istore_n (lv' := [(2, .int (nI 0)), (0, .ref (a 0)), (1, .int (nI d))]) hx hb dM_least_1 rfl hl (by decide) rfl (fun ls hl => ?_)
  have lp : ∀ (fu : Nat) (n : Nat) (ls : Array Slot) (H : Heap) (locs : List Loc), (∀ b, b < n → ¬ (u.1 0 d b = true ∧ u.1 0 b d = true)) → n ≤ d → va_P D vwA (mW a kI kL kZ u) H → va_S (fun _ => False) s.heap H locs → d - n < fu → lv_has ls 3 [(2, .int (nI n)), (0, .ref (a 0)), (1, .int (nI d))] → W p l e R s m ([.ref (a 0), .int (nI d)] : List Value).toArray below meth c H locs 0 0 Q (F0 m 2 ls []) := by
    intro fu
    induction fu with
    | zero => intros; omega
    | succ fu ih2 =>
      intro n ls H locs g1 g2 hP hS hfu hl
      refine lv_aload_n hx hb dM_least_2 rfl (lv_at hl 1 rfl) ?_
      refine gf_M_42 (v := .ref (a 10)) hx hb hA hown hK hP 0 rfl rfl dM_least_3 ?_
      refine lv_iload_n hx hb dM_least_6 rfl (lv_at hl 2 rfl) ?_
      refine lv_iload_n hx hb dM_least_7 rfl (lv_at hl 0 rfl) ?_
      refine k_in ⟨hx, hb, hml, hown, hA⟩ (kw_M_84 hA rfl rfl ⟨Nat.le_trans (Nat.le_of_ble_eq_true rfl) hRf, Nat.le_trans (Nat.le_of_ble_eq_true rfl) hRl⟩) hK hP hS 10 1 rfl rfl (by omega) (by omega) (by decide) hl.1 (Nat.le_of_ble_eq_true rfl) ⟨by omega, by omega⟩ dM_least_8 (fun H locs hP hS => ?_)
      refine tq_bf hx hb dM_least_11 (tgt := 26) (by decide) (fun h11 => ?_) (fun h11 => ?_)
      · have hno : ¬ (u.1 0 d n = true ∧ u.1 0 n d = true) := fun z => absurd z.1 (by rw [h11]; decide)
        have hnd : ¬ n = d := fun z => hno (by rw [z]; exact ⟨hdd, hdd⟩)
        refine lv_iinc (k := 0) (lv' := [(2, .int (nI (n + 1))), (0, .ref (a 0)), (1, .int (nI d))]) hx hb dM_least_26 hl rfl (nI_1 _) (by decide) rfl (fun ls hl => ?_)
        refine lv_goto hx hb dM_least_29 (tgt := 2) (by decide) ?_
        exact ih2 (n + 1) ls H locs (lt_s (p := fun b => ¬ (u.1 0 d b = true ∧ u.1 0 b d = true)) g1 hno) (by omega) hP hS (by omega) (lv_sub hl [0, 1, 2] rfl)
      · refine lv_aload_n hx hb dM_least_14 rfl (lv_at hl 1 rfl) ?_
        refine gf_M_42 (v := .ref (a 10)) hx hb hA hown hK hP 0 rfl rfl dM_least_15 ?_
        refine lv_iload_n hx hb dM_least_18 rfl (lv_at hl 0 rfl) ?_
        refine lv_iload_n hx hb dM_least_19 rfl (lv_at hl 2 rfl) ?_
        refine k_in ⟨hx, hb, hml, hown, hA⟩ (kw_M_84 hA rfl rfl ⟨Nat.le_trans (Nat.le_of_ble_eq_true rfl) hRf, Nat.le_trans (Nat.le_of_ble_eq_true rfl) hRl⟩) hK hP hS 10 1 rfl rfl (by omega) (by omega) (by decide) hl.1 (Nat.le_of_ble_eq_true rfl) ⟨by omega, by omega⟩ dM_least_20 (fun H locs hP hS => ?_)
        refine tq_bt hx hb dM_least_23 (tgt := 32) (by decide) (fun h23 => ?_) (fun h23 => ?_)
        · refine lv_iload_n hx hb dM_least_32 rfl (lv_at hl 0 rfl) ?_
          subst hQe
          exact W.iret (v := nI n) hx hb hr (fun t ht hW => ⟨⟨_, (), rfl, by rw [m_le_of g1 (by omega) h11 h23], trivial⟩, hS.F ht⟩) hS.2.2 dM_least_33
        · have hno : ¬ (u.1 0 d n = true ∧ u.1 0 n d = true) := fun z => absurd z.2 (by rw [h23]; decide)
          have hnd : ¬ n = d := fun z => hno (by rw [z]; exact ⟨hdd, hdd⟩)
          refine lv_iinc (k := 0) (lv' := [(2, .int (nI (n + 1))), (0, .ref (a 0)), (1, .int (nI d))]) hx hb dM_least_26 hl rfl (nI_1 _) (by decide) rfl (fun ls hl => ?_)
          refine lv_goto hx hb dM_least_29 (tgt := 2) (by decide) ?_
          exact ih2 (n + 1) ls H locs (lt_s (p := fun b => ¬ (u.1 0 d b = true ∧ u.1 0 b d = true)) g1 hno) (by omega) hP hS (by omega) (lv_sub hl [0, 1, 2] rfl)
  exact lp _ 0 ls _ _ (fun b z => absurd z (Nat.not_lt_zero b)) (by omega) hP hS (Nat.lt_succ_self _) (lv_sub hl [0, 1, 2] rfl)
set_option maxHeartbeats 4000000 in
set_option maxRecDepth 100000 in
/-- m_isCommon -/
theorem m_isCommon (l : Launch) (D : va_G) (a : Nat → Nat) (kI kL kZ : ClassId) (u : sU) (d d2 k : Nat) (hd : d < 160) (hd2 : d2 < 160) (hk : k < 160) : Met l yM_isCommon (wM_isCommon :: wA) ({ frames := 1, cells := 0, slots := 0, locals := 22 }) (va_Pc [.ref (a 0), .int (nI d), .int (nI d2), .int (nI k)] (tq_rB D vwA (mW a kI kL kZ u) (sT kI kL kZ))) (va_Qi (fun r (_ : Unit) => r = bI (m_cm u d d2 k)) (fun _ _ => True) (fun _ => False)) 0 0 (fun _ => False) := by
  refine Met.ofW (cc := bM_isCommon) (maxL := 4) (ret := (some .boolean)) (by decide +kernel) rfl ?_
  intro p e s m args below meth c s₁ B1 hml hv
  obtain ⟨rfl, hP, hK⟩ := hv
  have hx := B1.exec
  have hb := B1.bytes
  have hr := B1.returns
  have hA : ∀ w ∈ wA, w.before ([.ref (a 0), .int (nI d), .int (nI d2), .int (nI k)] : List Value).toArray s = true := fun w h => atoms_spec (ws := wM_isCommon :: wA) B1.pre w (List.mem_cons_of_mem _ h)
  have hown : s.vm.findClass RcM = some m.cls := findClass_of_methodNamed B1.named
  have hlocks := B1.notSynchronized
  have hS : va_S (fun _ => False) s.heap s.heap [] := va_S.rf
  have hl := lv_entry ([.ref (a 0), .int (nI d), .int (nI d2), .int (nI k)]) (n := 4) (Nat.le_of_ble_eq_true rfl)
  rw [lg_entry_eq]
  generalize (lg_sl ([.ref (a 0), .int (nI d), .int (nI d2), .int (nI k)]) ++ List.replicate (4 - (lg_sl ([.ref (a 0), .int (nI d), .int (nI d2), .int (nI k)])).length) Slot.unset).toArray = ls at hl ⊢
  have hl : lv_has ls 4 [(0, .ref (a 0)), (1, .int (nI d)), (2, .int (nI d2)), (3, .int (nI k))] := hl
  refine tq_gen (fun R Q hRe hQe => ?_)
  have hRf : 1 ≤ R.frames := by rw [hRe]; exact Nat.le_of_ble_eq_true rfl
  have hRl : 22 ≤ R.locals := by rw [hRe]; exact Nat.le_of_ble_eq_true rfl
  have hRc : 0 ≤ R.cells := by rw [hRe]; exact Nat.le_of_ble_eq_true rfl
  have hRs : 0 ≤ R.slots := by rw [hRe]; exact Nat.le_of_ble_eq_true rfl
  refine lv_aload_n hx hb dM_isCommon_0 rfl (lv_at hl 0 rfl) ?_
  refine gf_M_13 (v := .ref (a 1)) hx hb hA hown hK hP 0 rfl rfl dM_isCommon_1 ?_
  refine lv_iload_n hx hb dM_isCommon_4 rfl (lv_at hl 3 rfl) ?_
  refine tq_iald hx hb hK hP 1 0 rfl rfl (by omega) (by omega) dM_isCommon_5 ?_
  refine lv_iconst (v := nI 2) hx hb dM_isCommon_6 (by decide +kernel) ?_
  refine lv_icmp_ne hx hb dM_isCommon_7 (tgt := 38) (by decide) (fun h7 => ?_) (fun h7 => ?_)
  · have hB : m_cm u d d2 k = false := by unfold m_cm; rw [m_nm_f h7]; rfl
    refine lv_iconst (v := nI 0) hx hb dM_isCommon_38 (by decide +kernel) ?_
    subst hQe
    exact W.zret (v := nI 0) (ty := .boolean) hx hb hr rfl (fun t ht hW => ⟨⟨_, (), rfl, by rw [hB]; rfl, trivial⟩, hS.F ht⟩) hS.2.2 dM_isCommon_39
  · refine lv_aload_n hx hb dM_isCommon_10 rfl (lv_at hl 0 rfl) ?_
    refine gf_M_42 (v := .ref (a 10)) hx hb hA hown hK hP 0 rfl rfl dM_isCommon_11 ?_
    refine lv_iload_n hx hb dM_isCommon_14 rfl (lv_at hl 1 rfl) ?_
    refine lv_iload_n hx hb dM_isCommon_15 rfl (lv_at hl 3 rfl) ?_
    refine k_in ⟨hx, hb, hml, hown, hA⟩ (kw_M_84 hA rfl rfl ⟨Nat.le_trans (Nat.le_of_ble_eq_true rfl) hRf, Nat.le_trans (Nat.le_of_ble_eq_true rfl) hRl⟩) hK hP hS 10 1 rfl rfl (by omega) (by omega) (by decide) hl.1 (Nat.le_of_ble_eq_true rfl) ⟨by omega, by omega⟩ dM_isCommon_16 (fun H locs hP hS => ?_)
    refine tq_bf hx hb dM_isCommon_19 (tgt := 38) (by decide) (fun h19 => ?_) (fun h19 => ?_)
    · have hB : m_cm u d d2 k = false := by unfold m_cm; rw [m_nm_t h7, h19]; rfl
      refine lv_iconst (v := nI 0) hx hb dM_isCommon_38 (by decide +kernel) ?_
      subst hQe
      exact W.zret (v := nI 0) (ty := .boolean) hx hb hr rfl (fun t ht hW => ⟨⟨_, (), rfl, by rw [hB]; rfl, trivial⟩, hS.F ht⟩) hS.2.2 dM_isCommon_39
    · refine lv_aload_n hx hb dM_isCommon_22 rfl (lv_at hl 0 rfl) ?_
      refine gf_M_42 (v := .ref (a 10)) hx hb hA hown hK hP 0 rfl rfl dM_isCommon_23 ?_
      refine lv_iload_n hx hb dM_isCommon_26 rfl (lv_at hl 2 rfl) ?_
      refine lv_iload_n hx hb dM_isCommon_27 rfl (lv_at hl 3 rfl) ?_
      refine k_in ⟨hx, hb, hml, hown, hA⟩ (kw_M_84 hA rfl rfl ⟨Nat.le_trans (Nat.le_of_ble_eq_true rfl) hRf, Nat.le_trans (Nat.le_of_ble_eq_true rfl) hRl⟩) hK hP hS 10 1 rfl rfl (by omega) (by omega) (by decide) hl.1 (Nat.le_of_ble_eq_true rfl) ⟨by omega, by omega⟩ dM_isCommon_28 (fun H locs hP hS => ?_)
      refine tq_bf hx hb dM_isCommon_31 (tgt := 38) (by decide) (fun h31 => ?_) (fun h31 => ?_)
      · have hB : m_cm u d d2 k = false := by unfold m_cm; rw [m_nm_t h7, h19, h31]; rfl
        refine lv_iconst (v := nI 0) hx hb dM_isCommon_38 (by decide +kernel) ?_
        subst hQe
        exact W.zret (v := nI 0) (ty := .boolean) hx hb hr rfl (fun t ht hW => ⟨⟨_, (), rfl, by rw [hB]; rfl, trivial⟩, hS.F ht⟩) hS.2.2 dM_isCommon_39
      · have hB : m_cm u d d2 k = true := by unfold m_cm; rw [m_nm_t h7, h19, h31]; rfl
        refine lv_iconst (v := nI 1) hx hb dM_isCommon_34 (by decide +kernel) ?_
        refine lv_goto hx hb dM_isCommon_35 (tgt := 39) (by decide) ?_
        subst hQe
        exact W.zret (v := nI 1) (ty := .boolean) hx hb hr rfl (fun t ht hW => ⟨⟨_, (), rfl, by rw [hB]; rfl, trivial⟩, hS.F ht⟩) hS.2.2 dM_isCommon_39
set_option maxHeartbeats 4000000 in
set_option maxRecDepth 100000 in
/-- m_pairs -/
theorem m_pairs (l : Launch) (D : va_G) (a : Nat → Nat) (kI kL kZ : ClassId) (u : sU) (hN : u.2.2 1 ≤ 160) : Met l yM_pairs (wM_pairs :: wA) ({ frames := 1, cells := 0, slots := 0, locals := 22 }) (va_Pc [.ref (a 0)] (tq_rB D vwA (mW a kI kL kZ u) (sT kI kL kZ))) (va_Qi (fun r (_ : Unit) => r = nI (tm_sum (fun n => tm_cnt (fun e => !(n == e) && u.1 0 n e) (u.2.2 1)) (u.2.2 1))) (fun _ _ => True) (fun _ => False)) 0 0 (fun _ => False) := by
  refine Met.ofW (cc := bM_pairs) (maxL := 4) (ret := (some .int)) (by decide +kernel) rfl ?_
  intro p e s m args below meth c s₁ B1 hml hv
  obtain ⟨rfl, hP, hK⟩ := hv
  have hx := B1.exec
  have hb := B1.bytes
  have hr := B1.returns
  have hA : ∀ w ∈ wA, w.before ([.ref (a 0)] : List Value).toArray s = true := fun w h => atoms_spec (ws := wM_pairs :: wA) B1.pre w (List.mem_cons_of_mem _ h)
  have hown : s.vm.findClass RcM = some m.cls := findClass_of_methodNamed B1.named
  have hlocks := B1.notSynchronized
  have hS : va_S (fun _ => False) s.heap s.heap [] := va_S.rf
  have hl := lv_entry ([.ref (a 0)]) (n := 4) (Nat.le_of_ble_eq_true rfl)
  rw [lg_entry_eq]
  generalize (lg_sl ([.ref (a 0)]) ++ List.replicate (4 - (lg_sl ([.ref (a 0)])).length) Slot.unset).toArray = ls at hl ⊢
  have hl : lv_has ls 4 [(0, .ref (a 0))] := hl
  refine tq_gen (fun R Q hRe hQe => ?_)
  have hRf : 1 ≤ R.frames := by rw [hRe]; exact Nat.le_of_ble_eq_true rfl
  have hRl : 22 ≤ R.locals := by rw [hRe]; exact Nat.le_of_ble_eq_true rfl
  have hRc : 0 ≤ R.cells := by rw [hRe]; exact Nat.le_of_ble_eq_true rfl
  have hRs : 0 ≤ R.slots := by rw [hRe]; exact Nat.le_of_ble_eq_true rfl
  refine lv_iconst (v := nI 0) hx hb dM_pairs_0 (by decide +kernel) ?_
  refine lv_istore_n (lv' := [(1, .int (nI 0)), (0, .ref (a 0))]) hx hb dM_pairs_1 rfl hl (by decide) rfl (fun ls hl => ?_)
  refine lv_iconst (v := nI 0) hx hb dM_pairs_2 (by decide +kernel) ?_
  refine lv_istore_n (lv' := [(2, .int (nI 0)), (1, .int (nI 0)), (0, .ref (a 0))]) hx hb dM_pairs_3 rfl hl (by decide) rfl (fun ls hl => ?_)
  have lp : ∀ (fu : Nat) (q n : Nat) (ls : Array Slot) (H : Heap) (locs : List Loc), q = tm_sum (fun n => tm_cnt (fun e => !(n == e) && u.1 0 n e) (u.2.2 1)) n → n ≤ u.2.2 1 → va_P D vwA (mW a kI kL kZ u) H → va_S (fun _ => False) s.heap H locs → u.2.2 1 - n < fu → lv_has ls 4 [(2, .int (nI n)), (1, .int (nI q)), (0, .ref (a 0))] → W p l e R s m ([.ref (a 0)] : List Value).toArray below meth c H locs 0 0 Q (F0 m 4 ls []) := by
    intro fu
    induction fu with
    | zero => intros; omega
    | succ fu ih4 =>
      intro q n ls H locs g1 g2 hP hS hfu hl
      refine lv_iload_n hx hb dM_pairs_4 rfl (lv_at hl 0 rfl) ?_
      refine lv_aload_n hx hb dM_pairs_5 rfl (lv_at hl 2 rfl) ?_
      refine gf_M_7 (v := .int (nI (u.2.2 1))) hx hb hA hown hK hP 0 rfl rfl dM_pairs_6 ?_
      refine tq_ge hx hb dM_pairs_9 (tgt := 59) (by decide) (by omega) (by omega) (fun h9 => ?_) (fun h9 => ?_)
      · refine lv_iload_n hx hb dM_pairs_59 rfl (lv_at hl 1 rfl) ?_
        subst hQe
        exact W.iret (v := nI q) hx hb hr (fun t ht hW => ⟨⟨_, (), rfl, by rw [g1, show n = u.2.2 1 by omega], trivial⟩, hS.F ht⟩) hS.2.2 dM_pairs_60
      · refine lv_iconst (v := nI 0) hx hb dM_pairs_12 (by decide +kernel) ?_
        refine lv_istore_n (lv' := [(3, .int (nI 0)), (2, .int (nI n)), (1, .int (nI q)), (0, .ref (a 0))]) hx hb dM_pairs_13 rfl hl (by decide) rfl (fun ls hl => ?_)
        have lp2 : ∀ (fu : Nat) (q2 j : Nat) (ls : Array Slot) (H : Heap) (locs : List Loc), q2 = tm_sum (fun n => tm_cnt (fun e => !(n == e) && u.1 0 n e) (u.2.2 1)) n + tm_cnt (fun e => !(n == e) && u.1 0 n e) j → j ≤ u.2.2 1 → va_P D vwA (mW a kI kL kZ u) H → va_S (fun _ => False) s.heap H locs → u.2.2 1 - j < fu → lv_has ls 4 [(3, .int (nI j)), (2, .int (nI n)), (1, .int (nI q2)), (0, .ref (a 0))] → W p l e R s m ([.ref (a 0)] : List Value).toArray below meth c H locs 0 0 Q (F0 m 14 ls []) := by
          intro fu
          induction fu with
          | zero => intros; omega
          | succ fu ih14 =>
            intro q2 j ls H locs k1 k2 hP hS hfu hl
            refine lv_iload_n hx hb dM_pairs_14 rfl (lv_at hl 0 rfl) ?_
            refine lv_aload_n hx hb dM_pairs_15 rfl (lv_at hl 3 rfl) ?_
            refine gf_M_7 (v := .int (nI (u.2.2 1))) hx hb hA hown hK hP 0 rfl rfl dM_pairs_16 ?_
            refine tq_ge hx hb dM_pairs_19 (tgt := 53) (by decide) (by omega) (by omega) (fun h19 => ?_) (fun h19 => ?_)
            · refine lv_iinc (k := 1) (lv' := [(2, .int (nI (n + 1))), (3, .int (nI j)), (1, .int (nI q2)), (0, .ref (a 0))]) hx hb dM_pairs_53 hl rfl (nI_1 _) (by decide) rfl (fun ls hl => ?_)
              refine lv_goto hx hb dM_pairs_56 (tgt := 4) (by decide) ?_
              exact ih4 q2 (n + 1) ls H locs (by rw [k1, show j = u.2.2 1 by omega]; rfl) (by omega) hP hS (by omega) (lv_sub hl [0, 2, 3] rfl)
            · refine lv_iload_n hx hb dM_pairs_22 rfl (lv_at hl 2 rfl) ?_
              refine lv_iload_n hx hb dM_pairs_23 rfl (lv_at hl 1 rfl) ?_
              refine lv_iload_n hx hb dM_pairs_24 rfl (lv_at hl 0 rfl) ?_
              refine tq_eq hx hb dM_pairs_25 (tgt := 44) (by decide) (by omega) (by omega) (fun h25 => ?_) (fun h25 => ?_)
              · have hstep : q2 + 0 = tm_sum (fun n => tm_cnt (fun e => !(n == e) && u.1 0 n e) (u.2.2 1)) n + tm_cnt (fun e => !(n == e) && u.1 0 n e) (j + 1) := by rw [cnt_no (p := fun e => !(n == e) && u.1 0 n e) (n := j) (by rw [h25, beq_self_eq_true]; rfl)]; exact k1
                refine lv_iconst (v := nI 0) hx hb dM_pairs_44 (by decide +kernel) ?_
                refine tq_iadd hx hb dM_pairs_45 ?_
                refine lv_istore_n (lv' := [(1, .int (nI (q2 + 0))), (3, .int (nI j)), (2, .int (nI n)), (0, .ref (a 0))]) hx hb dM_pairs_46 rfl hl (by decide) rfl (fun ls hl => ?_)
                refine lv_iinc (k := 1) (lv' := [(3, .int (nI (j + 1))), (1, .int (nI (q2 + 0))), (2, .int (nI n)), (0, .ref (a 0))]) hx hb dM_pairs_47 hl rfl (nI_1 _) (by decide) rfl (fun ls hl => ?_)
                refine lv_goto hx hb dM_pairs_50 (tgt := 14) (by decide) ?_
                exact ih14 (q2 + 0) (j + 1) ls H locs (hstep) (by omega) hP hS (by omega) (lv_sub hl [0, 2, 1, 3] rfl)
              · refine lv_aload_n hx hb dM_pairs_28 rfl (lv_at hl 3 rfl) ?_
                refine gf_M_42 (v := .ref (a 10)) hx hb hA hown hK hP 0 rfl rfl dM_pairs_29 ?_
                refine lv_iload_n hx hb dM_pairs_32 rfl (lv_at hl 1 rfl) ?_
                refine lv_iload_n hx hb dM_pairs_33 rfl (lv_at hl 0 rfl) ?_
                refine k_in ⟨hx, hb, hml, hown, hA⟩ (kw_M_84 hA rfl rfl ⟨Nat.le_trans (Nat.le_of_ble_eq_true rfl) hRf, Nat.le_trans (Nat.le_of_ble_eq_true rfl) hRl⟩) hK hP hS 10 1 rfl rfl (by omega) (by omega) (by decide) hl.1 (Nat.le_of_ble_eq_true rfl) ⟨by omega, by omega⟩ dM_pairs_34 (fun H locs hP hS => ?_)
                refine tq_bf hx hb dM_pairs_37 (tgt := 44) (by decide) (fun h37 => ?_) (fun h37 => ?_)
                · have hstep : q2 + 0 = tm_sum (fun n => tm_cnt (fun e => !(n == e) && u.1 0 n e) (u.2.2 1)) n + tm_cnt (fun e => !(n == e) && u.1 0 n e) (j + 1) := by rw [cnt_no (p := fun e => !(n == e) && u.1 0 n e) (n := j) (by rw [h37, Bool.and_false])]; exact k1
                  refine lv_iconst (v := nI 0) hx hb dM_pairs_44 (by decide +kernel) ?_
                  refine tq_iadd hx hb dM_pairs_45 ?_
                  refine lv_istore_n (lv' := [(1, .int (nI (q2 + 0))), (3, .int (nI j)), (2, .int (nI n)), (0, .ref (a 0))]) hx hb dM_pairs_46 rfl hl (by decide) rfl (fun ls hl => ?_)
                  refine lv_iinc (k := 1) (lv' := [(3, .int (nI (j + 1))), (1, .int (nI (q2 + 0))), (2, .int (nI n)), (0, .ref (a 0))]) hx hb dM_pairs_47 hl rfl (nI_1 _) (by decide) rfl (fun ls hl => ?_)
                  refine lv_goto hx hb dM_pairs_50 (tgt := 14) (by decide) ?_
                  exact ih14 (q2 + 0) (j + 1) ls H locs (hstep) (by omega) hP hS (by omega) (lv_sub hl [0, 2, 1, 3] rfl)
                · have hstep : q2 + 1 = tm_sum (fun n => tm_cnt (fun e => !(n == e) && u.1 0 n e) (u.2.2 1)) n + tm_cnt (fun e => !(n == e) && u.1 0 n e) (j + 1) := by rw [cnt_yes (p := fun e => !(n == e) && u.1 0 n e) (n := j) (by rw [h37, beq_eq_false_iff_ne.mpr h25]; rfl), k1]; rfl
                  refine lv_iconst (v := nI 1) hx hb dM_pairs_40 (by decide +kernel) ?_
                  refine lv_goto hx hb dM_pairs_41 (tgt := 45) (by decide) ?_
                  refine tq_iadd hx hb dM_pairs_45 ?_
                  refine lv_istore_n (lv' := [(1, .int (nI (q2 + 1))), (3, .int (nI j)), (2, .int (nI n)), (0, .ref (a 0))]) hx hb dM_pairs_46 rfl hl (by decide) rfl (fun ls hl => ?_)
                  refine lv_iinc (k := 1) (lv' := [(3, .int (nI (j + 1))), (1, .int (nI (q2 + 1))), (2, .int (nI n)), (0, .ref (a 0))]) hx hb dM_pairs_47 hl rfl (nI_1 _) (by decide) rfl (fun ls hl => ?_)
                  refine lv_goto hx hb dM_pairs_50 (tgt := 14) (by decide) ?_
                  exact ih14 (q2 + 1) (j + 1) ls H locs (hstep) (by omega) hP hS (by omega) (lv_sub hl [0, 2, 1, 3] rfl)
        exact lp2 _ q 0 ls _ _ g1 (by omega) hP hS (Nat.lt_succ_self _) (lv_sub hl [0, 1, 2, 3] rfl)
  exact lp _ 0 0 ls _ _ rfl (by omega) hP hS (Nat.lt_succ_self _) (lv_sub hl [0, 1, 2] rfl)
