/-! The model: why. Written by wip/whole/gen/genM5.py. -/
theorem nI_le0 {n : Nat} (hn : n < 2 ^ 31) : nI n ≤ (0 : Int32) ↔ n = 0 := by
  rw [Int32.le_iff_toInt_le, nI_toInt hn]
  have : (0 : Int32).toInt = 0 := by decide
  omega
theorem nI_dn {n : Nat} (h : 1 ≤ n) : nI n + Int32.ofInt (-1) = nI (n - 1) := by
  have e : nI n = nI (n - 1) + nI 1 := by rw [nI_add, show n - 1 + 1 = n by omega]
  rw [e, Int32.add_assoc, show nI 1 + Int32.ofInt (-1) = 0 by decide +kernel, Int32.add_zero]
/-- as the search for reasons begins -/
def m_w0 (u : sU) : sU := (u.1, u.2.1, va_up (va_up u.2.2 5 0) 3 0)
def m_mn (u : sU) : sU := (u.1, u.2.1, va_up u.2.2 5 0)
def m_u8 (u : sU) (k t : Nat) : sU := (u.1, va_up u.2.1 8 (upd (u.2.1 8) k (nI t)), u.2.2)
def m_wk (u v : sU) : Prop := (∀ i, ¬ i = 8 → v.2.1 i = u.2.1 i) ∧ (∀ j, ¬ j = 4 → v.2.2 j = u.2.2 j) ∧ v.2.2 4 ≤ 1 ∧ m_rng v
theorem cnt_le1 {p : Nat → Bool} (h : p 0 = false) : ∀ n, tm_cnt p (n + 1) ≤ n
  | 0 => by rw [cnt_no h]; exact Nat.le_refl _
  | n + 1 => by
    have := cnt_le1 h n
    show tm_cnt p (n + 1) + (if p (n + 1) then 1 else 0) ≤ n + 1
    split <;> omega
section MWY
variable {u v w : sU} {N : Nat} {kd fa fb : Nat → Nat} {T : Nat} {so xa xb xc : Nat → Nat} {F : Nat → Prop} {M : Nat} {rs : Nat → Nat} {d d2 n : Nat} {U : Nat → Prop}
theorem use_congr {V : Nat → Prop} (h : m_use u T U) (e : ∀ k, U k ↔ V k) : m_use u T V := by
  have : U = V := funext (fun k => propext (e k))
  rw [← this]
  exact h
theorem use_0 (h : m_use u T U) (hn : n ≤ T) : m_use (m_u8 u n 0) T (fun q => U q ∧ q ≠ n) := by
  refine ⟨fun k z => h.1 k z.1, fun k h1 h2 => ?_⟩
  show upd (u.2.1 8) n (nI 0) k = _
  by_cases c : k = n
  · rw [c, upd_self, dB_f.mpr (fun z => z.2 rfl)]
    rfl
  · rw [upd_ne c, h.2 k h1 h2]
    exact congrArg bI (dB_congr ⟨fun z => ⟨z, c⟩, fun z => z.1⟩)
theorem use_1 {t : Nat} {E : Prop} (h : m_use u T (fun q => U q ∧ q ≠ n)) (h1 : 1 ≤ n) (hn : n ≤ T) (hU : U n) (ht : nI t = bI (dB (¬ E))) : m_use (m_u8 u n t) T (fun j => U j ∧ (j = n → ¬ E)) := by
  refine ⟨fun k z => ?_, fun k h1 h2 => ?_⟩
  · by_cases c : k = n
    · omega
    · exact h.1 k ⟨z.1, c⟩
  · show upd (u.2.1 8) n (nI t) k = _
    by_cases c : k = n
    · rw [c, upd_self, ht]
      exact congrArg bI (dB_congr ⟨fun z => ⟨hU, fun _ => z⟩, fun z => z.2 rfl⟩)
    · rw [upd_ne c, h.2 k h1 h2]
      exact congrArg bI (dB_congr ⟨fun z => ⟨z.1, fun q => absurd q c⟩, fun z => ⟨z.1, c⟩⟩)
theorem used_s {E : (Nat → Prop) → Prop} {i : Nat} (hi : T - n = i) (h1 : 1 ≤ n) (hn : n ≤ T) : ∀ j, (tm_used F E T i j ∧ (j = n → ¬ E (fun q => tm_used F E T i q ∧ q ≠ n))) ↔ tm_used F E T (T - (n - 1)) j := fun j => by
  rw [show T - (n - 1) = i + 1 by omega]
  show _ ↔ (tm_used F E T i j ∧ (j = T - i → _))
  rw [show T - i = n by omega]
theorem wk_tab (h : m_wk u v) (ht : m_tab u N kd fa fb T so xa xb xc) : m_tab v N kd fa fb T so xa xb xc := tab_of2 ht h.1 (h.2.1 1 (by decide)) (h.2.1 2 (by decide))
/-- the reasons, in their order -/
def m_rsn (K : Nat → Bool) (M : Nat) (rs : Nat → Nat) : Prop := ∀ i, i < M → K (rs i) = true ∧ tm_cnt K (rs i) = i
theorem wk_inv (hin : m_inv u N kd fa fb T so xa xb xc F M rs) (h : m_wk (m_w0 u) v) (f : Nat → Int32) (q : Nat) (rs' : Nat → Nat) (hq : q ≤ 100) (hf : ∀ i, i < q → f i = nI (rs' i)) : m_inv (v.1, va_up v.2.1 9 f, va_up v.2.2 5 q) N kd fa fb T so xa xb xc F q rs' := by
  obtain ⟨h1, h2, h3, h4, h5, h6, h7, h8, h9⟩ := hin
  obtain ⟨k1, k2, k3, k4⟩ := h
  have e3 : v.2.2 3 = 0 := k2 3 (by decide)
  exact ⟨(show m_tab v N kd fa fb T so xa xb xc from wk_tab (u := m_w0 u) (v := v) ⟨k1, k2, k3, k4⟩ h1), frc_of (u := u) h2 (k1 7 (by decide)), k4, (show v.2.2 3 ≤ 1 by omega), k3, fun z => absurd (show v.2.2 3 = 1 from z) (by omega), rfl, hq, fun i hi => (show f i = nI (rs' i) from hf i hi)⟩
theorem mn_inv (hin : m_inv u N kd fa fb T so xa xb xc F M rs) : m_inv (m_mn u) N kd fa fb T so xa xb xc F 0 rs := by
  obtain ⟨h1, h2, h3, h4, h5, h6, h7, h8, h9⟩ := hin
  exact ⟨h1, h2, h3, h4, h5, h6, rfl, by decide, fun i hi => absurd hi (Nat.not_lt_zero i)⟩
theorem used_n {E : (Nat → Prop) → Prop} (h1 : 1 ≤ n) (hn : n ≤ T) (hno : ¬ tm_used F E T (T - n) n) : ∀ j, tm_used F E T (T - n) j ↔ tm_used F E T (T - (n - 1)) j := fun j =>
  Iff.trans ⟨fun z => ⟨z, fun q => absurd (q ▸ z) hno⟩, fun z => z.1⟩ (used_s rfl h1 hn j)
theorem fol_bel (ht : m_tab v N kd fa fb T so xa xb xc) (hU : ∀ k, U k → 1 ≤ k ∧ k ≤ T) (ho : m_ok u N kd fa fb so xa xb xc U) (h : m_clo u N kd fa fb so xa xb xc U ∨ u.1 0 d d2 = true) : u.1 0 d d2 = true ↔ b_Bel N kd fa fb so xa xb xc U d d2 :=
  ⟨fun z => (ho.1 _ _ z).2.2, fun z => h.elim (fun q => (clo_bel ht hU ho q).mpr z) id⟩
theorem up_self2 {α : Type} {f : Nat → α} {i : Nat} {x : α} (h : f i = x) : va_up f i x = f := h ▸ up_self
theorem rs_choose {P : Nat → Nat → Prop} {q : Nat} (h : ∀ i, i < q → ∃ x, P i x) : ∃ rs : Nat → Nat, ∀ i, i < q → P i (rs i) := by
  classical
  exact ⟨fun i => if c : i < q then Classical.choose (h i c) else 0, fun i hi => by
    show P i (if c : i < q then Classical.choose (h i c) else 0)
    rw [dif_pos hi]
    exact Classical.choose_spec (h i hi)⟩
end MWY
set_option maxHeartbeats 4000000 in
set_option maxRecDepth 100000 in
/-- m_why -/
theorem m_why (l : Launch) (D : va_G) (a : Nat → Nat) (kI kL kZ : ClassId) (u : sU) (N : Nat) (kd fa fb : Nat → Nat) (T : Nat) (so xa xb xc : Nat → Nat) (F : Nat → Prop) (M : Nat) (rs : Nat → Nat) (hin : m_inv u N kd fa fb T so xa xb xc F M rs) (d d2 : Nat) (hd : d < N) (hd2 : d2 < N) : Met l yM_why (wM_why :: wA) ({ frames := 5, cells := 0, slots := 0, locals := 118 }) (va_Pc [.ref (a 0), .int (nI d), .int (nI d2)] (tq_wB D vwA (mW a kI kL kZ u) (sT kI kL kZ))) (va_Qi (fun r (u' : sU) => ((¬ b_Bel N kd fa fb so xa xb xc F d d2 ∧ r = -1 ∧ m_inv u' N kd fa fb T so xa xb xc F 0 rs) ∨ (∃ M' rs', b_Bel N kd fa fb so xa xb xc F d d2 ∧ r = nI M' ∧ M' = tm_cnt (q_K N kd fa fb so xa xb xc F T d d2) (T + 1) ∧ m_rsn (q_K N kd fa fb so xa xb xc F T d d2) M' rs' ∧ m_inv u' N kd fa fb T so xa xb xc F M' rs')) ∧ u'.2.2 0 = 0) (fun u' t => va_P D vwA (mW a kI kL kZ u') t.heap) (mA a)) 0 0 (mA a) := by
  refine Met.ofW (cc := bM_why) (maxL := 4) (ret := (some .int)) (by decide +kernel) rfl ?_
  intro p e s m args below meth c s₁ B1 hml hv
  obtain ⟨rfl, hP, hK, hD0⟩ := hv
  have hx := B1.exec
  have hb := B1.bytes
  have hr := B1.returns
  have hA : ∀ w ∈ wA, w.before ([.ref (a 0), .int (nI d), .int (nI d2)] : List Value).toArray s = true := fun w h => atoms_spec (ws := wM_why :: wA) B1.pre w (List.mem_cons_of_mem _ h)
  have hown : s.vm.findClass RcM = some m.cls := findClass_of_methodNamed B1.named
  have hlocks := B1.notSynchronized
  have hS : va_S (mA a) s.heap s.heap [] := va_S.rf
  have hl := lv_entry ([.ref (a 0), .int (nI d), .int (nI d2)]) (n := 4) (Nat.le_of_ble_eq_true rfl)
  rw [lg_entry_eq]
  generalize (lg_sl ([.ref (a 0), .int (nI d), .int (nI d2)]) ++ List.replicate (4 - (lg_sl ([.ref (a 0), .int (nI d), .int (nI d2)])).length) Slot.unset).toArray = ls at hl ⊢
  have hl : lv_has ls 4 [(0, .ref (a 0)), (1, .int (nI d)), (2, .int (nI d2))] := hl
  refine tq_gen (fun R Q hRe hQe => ?_)
  have hRf : 5 ≤ R.frames := by rw [hRe]; exact Nat.le_of_ble_eq_true rfl
  have hRl : 118 ≤ R.locals := by rw [hRe]; exact Nat.le_of_ble_eq_true rfl
  have hRc : 0 ≤ R.cells := by rw [hRe]; exact Nat.le_of_ble_eq_true rfl
  have hRs : 0 ≤ R.slots := by rw [hRe]; exact Nat.le_of_ble_eq_true rfl
  have hD := mA_D hD0
  have hta := hin.1
  have hN := mt_N hta
  have t1 : m_th (u.2.2 1) (nI d) = true := th_t (by omega)
  have t2 : m_th (u.2.2 1) (nI d2) = true := th_t (by omega)
  refine lv_aload_n hx hb dM_why_0 rfl (lv_at hl 0 rfl) ?_
  refine lv_aload_n hx hb dM_why_1 rfl (lv_at hl 0 rfl) ?_
  refine lv_iload_n hx hb dM_why_2 rfl (lv_at hl 1 rfl) ?_
  refine ks_rv ⟨hx, hb, hml, hown, hA⟩ (m_isThere l D a kI kL kZ u (nI d) (by omega)) (kw_M_66 hA rfl rfl ⟨Nat.le_trans (Nat.le_of_ble_eq_true rfl) hRf, Nat.le_trans (Nat.le_of_ble_eq_true rfl) hRl⟩) hK hP hS 0 5 rfl rfl rfl hl.1 (Nat.le_of_ble_eq_true rfl) ⟨by omega, by omega⟩ dM_why_3 rfl (fun H locs hP hS => ?_)
  refine tq_i (y := bI (m_th (u.2.2 1) (nI d))) rfl ?_
  refine tq_bf hx hb dM_why_6 (tgt := 17) (by decide) (fun h6 => ?_) (fun h6 => ?_)
  · exact absurd h6 (by rw [t1]; decide)
  · refine lv_aload_n hx hb dM_why_9 rfl (lv_at hl 0 rfl) ?_
    refine lv_iload_n hx hb dM_why_10 rfl (lv_at hl 2 rfl) ?_
    refine ks_rv ⟨hx, hb, hml, hown, hA⟩ (m_isThere l D a kI kL kZ u (nI d2) (by omega)) (kw_M_66 hA rfl rfl ⟨Nat.le_trans (Nat.le_of_ble_eq_true rfl) hRf, Nat.le_trans (Nat.le_of_ble_eq_true rfl) hRl⟩) hK hP hS 0 5 rfl rfl rfl hl.1 (Nat.le_of_ble_eq_true rfl) ⟨by omega, by omega⟩ dM_why_11 rfl (fun H locs hP hS => ?_)
    refine tq_i (y := bI (m_th (u.2.2 1) (nI d2))) rfl ?_
    refine tq_bt hx hb dM_why_14 (tgt := 21) (by decide) (fun h14 => ?_) (fun h14 => ?_)
    · refine lv_iconst (v := nI 0) hx hb dM_why_21 (by decide +kernel) ?_
      refine ks_i (wf := mW a kI kL kZ) (u := u) ⟨hx, hb, hml, hown, hA⟩ (m_fails0 l D a kI kL kZ u ) (kw_M_70 hA rfl rfl ⟨Nat.le_trans (Nat.le_of_ble_eq_true rfl) hRf, Nat.le_trans (Nat.le_of_ble_eq_true rfl) hRl⟩) hK hP hD hS (fun _ h => h) (fun u' => mW_adr u') 0 5 rfl rfl rfl hl.1 (Nat.le_of_ble_eq_true rfl) ⟨by omega, by omega⟩ dM_why_22 rfl (fun r1 u1 H locs hu1 hP hD hS => ?_)
      refine tq_i hu1.1 ?_
      have hinu1 : m_inv u1 N kd fa fb T so xa xb xc F M rs := by rw [hu1.2]; exact hin
      have hNu1 := mt_N hinu1.1
      have hzu1 : u1.2.2 0 = 0 := by rw [hu1.2]; rfl
      refine tq_zeq hx hb dM_why_25 (tgt := 30) (by decide) (by omega) (fun h25 => ?_) (fun h25 => ?_)
      · refine lv_aload_n hx hb dM_why_30 rfl (lv_at hl 0 rfl) ?_
        refine ks_v (wf := mW a kI kL kZ) (u := u1) ⟨hx, hb, hml, hown, hA⟩ (m_close l D a kI kL kZ u1 N kd fa fb T so xa xb xc hinu1.1 F hinu1.2.1 hinu1.2.2.1 hinu1.2.2.2.1 hinu1.2.2.2.2.1 hinu1.2.2.2.2.2.1) (kw_M_127 hA rfl rfl ⟨Nat.le_trans (Nat.le_of_ble_eq_true rfl) hRf, Nat.le_trans (Nat.le_of_ble_eq_true rfl) hRl⟩) hK hP hD hS (fun _ h => h) (fun u' => mW_adr u') 0 5 rfl rfl rfl hl.1 (Nat.le_of_ble_eq_true rfl) ⟨by omega, by omega⟩ dM_why_31 rfl (fun u2 H locs hu2 hP hD hS => ?_)
        have hinu2 := cls_inv hinu1 hu2
        have hNu2 := mt_N hinu2.1
        have hzu2 : u2.2.2 0 = 0 := (hu2.2.1 0 (by decide) (by decide)).trans hzu1
        have hc3 := hu2.2.2.1
        have hfl := hu2.2.2.2.2
        refine lv_aload_n hx hb dM_why_34 rfl (lv_at hl 0 rfl) ?_
        refine lv_iconst (v := nI 0) hx hb dM_why_35 (by decide +kernel) ?_
        refine pf_M_141 (v := .int (nI 0)) hx hb hA hown hK hP hD hS 0 rfl rfl rfl (Nat.le_of_ble_eq_true rfl) dM_why_36 (fun H locs hP hD hS => ?_)
        have hP : va_P D vwA (mW a kI kL kZ (u2.1, u2.2.1, va_up u2.2.2 5 0)) H := hP
        have hD : va_D (mA a) (mW a kI kL kZ (u2.1, u2.2.1, va_up u2.2.2 5 0)) := hD
        have hP : va_P D vwA (mW a kI kL kZ (m_mn u2)) H := hP
        have hD : va_D (mA a) (mW a kI kL kZ (m_mn u2)) := hD
        refine lv_aload_n hx hb dM_why_39 rfl (lv_at hl 0 rfl) ?_
        refine gf_M_42 (v := .ref (a 10)) hx hb hA hown hK hP 0 rfl rfl dM_why_40 ?_
        refine lv_iload_n hx hb dM_why_43 rfl (lv_at hl 1 rfl) ?_
        refine lv_iload_n hx hb dM_why_44 rfl (lv_at hl 2 rfl) ?_
        refine k_in ⟨hx, hb, hml, hown, hA⟩ (kw_M_84 hA rfl rfl ⟨Nat.le_trans (Nat.le_of_ble_eq_true rfl) hRf, Nat.le_trans (Nat.le_of_ble_eq_true rfl) hRl⟩) hK hP hS 10 1 rfl rfl (by omega) (by omega) (by decide) hl.1 (Nat.le_of_ble_eq_true rfl) ⟨by omega, by omega⟩ dM_why_45 (fun H locs hP hS => ?_)
        refine tq_bt hx hb dM_why_48 (tgt := 53) (by decide) (fun h48 => ?_) (fun h48 => ?_)
        · have hbel := (clo_bel hinu2.1 hinu2.2.1.1 hfl.2.1 hfl.2.2 (x := d) (y := d2)).mp h48
          refine lv_aload_n hx hb dM_why_53 rfl (lv_at hl 0 rfl) ?_
          refine lv_iconst (v := nI 0) hx hb dM_why_54 (by decide +kernel) ?_
          refine pf_M_58 (v := .int (nI 0)) hx hb hA hown hK hP hD hS 0 rfl rfl rfl (Nat.le_of_ble_eq_true rfl) dM_why_55 (fun H locs hP hD hS => ?_)
          have hP : va_P D vwA (mW a kI kL kZ ((m_mn u2).1, (m_mn u2).2.1, va_up ((m_mn u2).2.2) 3 0)) H := hP
          have hD : va_D (mA a) (mW a kI kL kZ ((m_mn u2).1, (m_mn u2).2.1, va_up ((m_mn u2).2.2) 3 0)) := hD
          have hP : va_P D vwA (mW a kI kL kZ (m_w0 u2)) H := hP
          have hD : va_D (mA a) (mW a kI kL kZ (m_w0 u2)) := hD
          refine lv_aload_n hx hb dM_why_58 rfl (lv_at hl 0 rfl) ?_
          refine gf_M_77 (v := .int (nI ((m_w0 u2).2.2 2))) hx hb hA hown hK hP 0 rfl rfl dM_why_59 ?_
          refine lv_istore_n (lv' := [(3, .int (nI ((m_w0 u2).2.2 2))), (0, .ref (a 0)), (1, .int (nI d)), (2, .int (nI d2))]) hx hb dM_why_62 rfl hl (by decide) rfl (fun ls hl => ?_)
          have lp : ∀ (fu : Nat) (n : Nat) (v : sU) (ls : Array Slot) (H : Heap) (locs : List Loc), m_wk (m_w0 u2) v → m_use v T (tm_used F (fun U => b_Bel N kd fa fb so xa xb xc U d d2) T (T - n)) → n ≤ T → va_P D vwA (mW a kI kL kZ v) H → va_D (mA a) (mW a kI kL kZ v) → va_S (mA a) s.heap H locs → n < fu → lv_has ls 4 [(3, .int (nI n)), (0, .ref (a 0)), (1, .int (nI d)), (2, .int (nI d2))] → W p l e R s m ([.ref (a 0), .int (nI d), .int (nI d2)] : List Value).toArray below meth c H locs 0 0 Q (F0 m 63 ls []) := by
            intro fu
            induction fu with
            | zero => intros; omega
            | succ fu ih63 =>
              intro n v ls H locs g1 g2 g3 hP hD hS hfu hl
              have tv := wk_tab g1 (show m_tab (m_w0 u2) N kd fa fb T so xa xb xc from hinu2.1)
              have nv := mt_N tv
              refine lv_iload_n hx hb dM_why_63 rfl (lv_at hl 0 rfl) ?_
              refine lv_if_le hx hb dM_why_64 (tgt := 121) (by decide) (fun h64 => ?_) (fun h64 => ?_)
              · have hn0 := (nI_le0 (by omega)).mp h64
                have h50 : v.2.2 5 = 0 := g1.2.1 5 (by decide)
                have hP : va_P D vwA (mW a kI kL kZ (v.1, va_up v.2.1 9 (v.2.1 9), va_up v.2.2 5 0)) H := by rw [up_self, up_self2 h50]; exact hP
                have hD : va_D (mA a) (mW a kI kL kZ (v.1, va_up v.2.1 9 (v.2.1 9), va_up v.2.2 5 0)) := by rw [up_self, up_self2 h50]; exact hD
                have g2K : ∀ k, 1 ≤ k → k ≤ T → v.2.1 8 k = bI ((q_K N kd fa fb so xa xb xc F T d d2) k) := fun k z1 z2 => by
                  have := g2.2 k z1 z2
                  rw [hn0] at this
                  exact this
                have hK0 : (q_K N kd fa fb so xa xb xc F T d d2) 0 = false := by
                  cases z : (q_K N kd fa fb so xa xb xc F T d d2) 0 with
                  | false => rfl
                  | true => have := hinu2.2.1.1 0 (K_inf z); omega
                refine lv_iconst (v := nI 1) hx hb dM_why_121 (by decide +kernel) ?_
                refine lv_istore_n (lv' := [(3, .int (nI 1)), (0, .ref (a 0)), (1, .int (nI d)), (2, .int (nI d2))]) hx hb dM_why_122 rfl hl (by decide) rfl (fun ls hl => ?_)
                have lp2 : ∀ (fu : Nat) (j q : Nat) (f : Nat → Int32) (ls : Array Slot) (H : Heap) (locs : List Loc), q = tm_cnt (q_K N kd fa fb so xa xb xc F T d d2) j → (∀ i, i < q → ∃ x, f i = nI x ∧ (q_K N kd fa fb so xa xb xc F T d d2) x = true ∧ tm_cnt (q_K N kd fa fb so xa xb xc F T d d2) x = i) → 1 ≤ j → j ≤ T + 1 → va_P D vwA (mW a kI kL kZ (v.1, va_up v.2.1 9 f, va_up v.2.2 5 q)) H → va_D (mA a) (mW a kI kL kZ (v.1, va_up v.2.1 9 f, va_up v.2.2 5 q)) → va_S (mA a) s.heap H locs → T + 1 - j < fu → lv_has ls 4 [(3, .int (nI j)), (0, .ref (a 0)), (1, .int (nI d)), (2, .int (nI d2))] → W p l e R s m ([.ref (a 0), .int (nI d), .int (nI d2)] : List Value).toArray below meth c H locs 0 0 Q (F0 m 123 ls []) := by
                  intro fu
                  induction fu with
                  | zero => intros; omega
                  | succ fu ih123 =>
                    intro j q f  ls H locs k1 k2 k3 k4 hP hD hS hfu hl
                    have hq9 := cnt_le1 hK0 (j - 1)
                    rw [show j - 1 + 1 = j by omega, ← k1] at hq9
                    refine lv_iload_n hx hb dM_why_123 rfl (lv_at hl 0 rfl) ?_
                    refine lv_aload_n hx hb dM_why_124 rfl (lv_at hl 1 rfl) ?_
                    refine gf_M_77 (v := .int (nI (v.2.2 2))) hx hb hA hown hK hP 0 rfl rfl dM_why_125 ?_
                    refine tq_gt hx hb dM_why_128 (tgt := 166) (by decide) (by omega) (by omega) (fun h128 => ?_) (fun h128 => ?_)
                    · refine lv_aload_n hx hb dM_why_166 rfl (lv_at hl 1 rfl) ?_
                      refine gf_M_141 (v := .int (nI q)) hx hb hA hown hK hP 0 rfl rfl dM_why_167 ?_
                      obtain ⟨rs9, hrs9⟩ := rs_choose k2
                      have hj9 : j = T + 1 := by omega
                      subst hQe
                      exact W.iret (v := nI q) hx hb hr (fun t ht hW => ⟨⟨_, (v.1, va_up v.2.1 9 f, va_up v.2.2 5 q), rfl, ⟨Or.inr ⟨q, rs9, hbel, rfl, by rw [← hj9]; exact k1, fun i hi => (hrs9 i hi).2, wk_inv hinu2 g1 f q rs9 (by omega) (fun i hi => (hrs9 i hi).1)⟩, (g1.2.1 0 (by decide)).trans hzu2⟩, tq_hp ht hP⟩, hS.F ht⟩) hS.2.2 dM_why_170
                    · refine lv_aload_n hx hb dM_why_131 rfl (lv_at hl 1 rfl) ?_
                      refine gf_M_39 (v := .ref (a 9)) hx hb hA hown hK hP 0 rfl rfl dM_why_132 ?_
                      refine lv_iload_n hx hb dM_why_135 rfl (lv_at hl 0 rfl) ?_
                      refine tq_zald hx hb hK hP 9 2 rfl rfl (by omega) (by omega) dM_why_136 ?_
                      refine tq_i (g2K j (by omega) (by omega)) ?_
                      refine tq_bf hx hb dM_why_137 (tgt := 160) (by decide) (fun h137 => ?_) (fun h137 => ?_)
                      · have hk1 : q = tm_cnt (q_K N kd fa fb so xa xb xc F T d d2) (j + 1) := by rw [cnt_no h137]; exact k1
                        refine lv_iinc (k := 0) (lv' := [(3, .int (nI (j + 1))), (0, .ref (a 0)), (1, .int (nI d)), (2, .int (nI d2))]) hx hb dM_why_160 hl rfl (nI_1 _) (by decide) rfl (fun ls hl => ?_)
                        refine lv_goto hx hb dM_why_163 (tgt := 123) (by decide) ?_
                        exact ih123 (j + 1) q f ls H locs hk1 k2 (by omega) (by omega) hP hD hS (by omega) (lv_sub hl [0, 1, 2, 3] rfl)
                      · have hk1 : q + 1 = tm_cnt (q_K N kd fa fb so xa xb xc F T d d2) (j + 1) := by rw [cnt_yes h137, k1]
                        have hk2 : ∀ i, i < q + 1 → ∃ x, upd f q (nI j) i = nI x ∧ (q_K N kd fa fb so xa xb xc F T d d2) x = true ∧ tm_cnt (q_K N kd fa fb so xa xb xc F T d d2) x = i := fun i hi => by
                          by_cases c : i = q
                          · rw [c, upd_self]
                            exact ⟨j, rfl, h137, k1.symm⟩
                          · rw [upd_ne c]
                            exact k2 i (by omega)
                        refine lv_aload_n hx hb dM_why_140 rfl (lv_at hl 1 rfl) ?_
                        refine gf_M_52 (v := .ref (a 13)) hx hb hA hown hK hP 0 rfl rfl dM_why_141 ?_
                        refine lv_aload_n hx hb dM_why_144 rfl (lv_at hl 1 rfl) ?_
                        refine gf_M_141 (v := .int (nI q)) hx hb hA hown hK hP 0 rfl rfl dM_why_145 ?_
                        refine lv_iload_n hx hb dM_why_148 rfl (lv_at hl 0 rfl) ?_
                        refine tq_iast hx hb hK hP hD hS 13 0 rfl rfl (by omega) (by omega) dM_why_149 (fun H locs hP hD hS => ?_)
                        have hP : va_P D vwA (mW a kI kL kZ (v.1, va_up v.2.1 9 (upd f q (nI j)), va_up v.2.2 5 q)) H := hP
                        have hD : va_D (mA a) (mW a kI kL kZ (v.1, va_up v.2.1 9 (upd f q (nI j)), va_up v.2.2 5 q)) := hD
                        refine lv_aload_n hx hb dM_why_150 rfl (lv_at hl 1 rfl) ?_
                        refine lv_dup hx hb dM_why_151 rfl ?_
                        refine gf_M_141 (v := .int (nI q)) hx hb hA hown hK hP 0 rfl rfl dM_why_152 ?_
                        refine lv_iconst (v := nI 1) hx hb dM_why_155 (by decide +kernel) ?_
                        refine tq_iadd hx hb dM_why_156 ?_
                        refine pf_M_141 (v := .int (nI (q + 1))) hx hb hA hown hK hP hD hS 0 rfl rfl rfl (Nat.le_of_ble_eq_true rfl) dM_why_157 (fun H locs hP hD hS => ?_)
                        have hP : va_P D vwA (mW a kI kL kZ (v.1, va_up v.2.1 9 (upd f q (nI j)), va_up v.2.2 5 (q + 1))) H := hP
                        have hD : va_D (mA a) (mW a kI kL kZ (v.1, va_up v.2.1 9 (upd f q (nI j)), va_up v.2.2 5 (q + 1))) := hD
                        refine lv_iinc (k := 0) (lv' := [(3, .int (nI (j + 1))), (0, .ref (a 0)), (1, .int (nI d)), (2, .int (nI d2))]) hx hb dM_why_160 hl rfl (nI_1 _) (by decide) rfl (fun ls hl => ?_)
                        refine lv_goto hx hb dM_why_163 (tgt := 123) (by decide) ?_
                        exact ih123 (j + 1) (q + 1) (upd f q (nI j)) ls H locs hk1 hk2 (by omega) (by omega) hP hD hS (by omega) (lv_sub hl [0, 1, 2, 3] rfl)
                exact lp2 _ 1 0 (v.2.1 9) ls _ _ (cnt_zero (fun k hk => by rw [show k = 0 by omega]; exact hK0)).symm (fun i hi => absurd hi (Nat.not_lt_zero i)) (by omega) (by omega) hP hD hS (Nat.lt_succ_self _) (lv_sub hl [0, 1, 2, 3] rfl)
              · have hn1 : ¬ n = 0 := fun z => h64 ((nI_le0 (by omega)).mpr z)
                refine lv_aload_n hx hb dM_why_67 rfl (lv_at hl 1 rfl) ?_
                refine gf_M_39 (v := .ref (a 9)) hx hb hA hown hK hP 0 rfl rfl dM_why_68 ?_
                refine lv_iload_n hx hb dM_why_71 rfl (lv_at hl 0 rfl) ?_
                refine tq_zald hx hb hK hP 9 2 rfl rfl (by omega) (by omega) dM_why_72 ?_
                refine tq_i (g2.2 n (by omega) (by omega)) ?_
                refine tq_bt hx hb dM_why_73 (tgt := 79) (by decide) (fun h73 => ?_) (fun h73 => ?_)
                · have hUn := dB_iff.mp h73
                  refine lv_aload_n hx hb dM_why_79 rfl (lv_at hl 1 rfl) ?_
                  refine gf_M_39 (v := .ref (a 9)) hx hb hA hown hK hP 0 rfl rfl dM_why_80 ?_
                  refine lv_iload_n hx hb dM_why_83 rfl (lv_at hl 0 rfl) ?_
                  refine lv_iconst (v := nI 0) hx hb dM_why_84 (by decide +kernel) ?_
                  refine tq_zast hx hb hK hP hD hS 9 2 rfl rfl (by omega) (by omega) (by first | rfl | decide | exact tq_nzv _) dM_why_85 (fun H locs hP hD hS => ?_)
                  have hP : va_P D vwA (mW a kI kL kZ (v.1, va_up v.2.1 8 (upd (v.2.1 8) n (nI 0)), v.2.2)) H := hP
                  have hD : va_D (mA a) (mW a kI kL kZ (v.1, va_up v.2.1 8 (upd (v.2.1 8) n (nI 0)), v.2.2)) := hD
                  have hP : va_P D vwA (mW a kI kL kZ (m_u8 v n 0)) H := hP
                  have hD : va_D (mA a) (mW a kI kL kZ (m_u8 v n 0)) := hD
                  have hus := use_0 g2 (show n ≤ T by omega)
                  have tvu : m_tab (m_u8 v n 0) N kd fa fb T so xa xb xc := tab_of2 tv (fun i z => va_up_ne _ _ z) rfl rfl
                  have hrg9 : m_rng (m_u8 v n 0) := g1.2.2.2
                  have hm9 : (m_u8 v n 0).2.2 4 ≤ 1 := g1.2.2.1
                  refine lv_aload_n hx hb dM_why_86 rfl (lv_at hl 1 rfl) ?_
                  refine lv_iload_n hx hb dM_why_87 rfl (lv_at hl 2 rfl) ?_
                  refine lv_iload_n hx hb dM_why_88 rfl (lv_at hl 3 rfl) ?_
                  refine ks_v (wf := mW a kI kL kZ) (u := (m_u8 v n 0)) ⟨hx, hb, hml, hown, hA⟩ (m_follow l D a kI kL kZ (m_u8 v n 0) N kd fa fb T so xa xb xc tvu (fun q => tm_used F (fun U => b_Bel N kd fa fb so xa xb xc U d d2) T (T - n) q ∧ q ≠ n) hus hrg9 hm9 d d2 hd hd2) (kw_M_124 hA rfl rfl ⟨Nat.le_trans (Nat.le_of_ble_eq_true rfl) hRf, Nat.le_trans (Nat.le_of_ble_eq_true rfl) hRl⟩) hK hP hD hS (fun _ h => h) (fun u' => mW_adr u') 0 5 rfl rfl rfl hl.1 (Nat.le_of_ble_eq_true rfl) ⟨by omega, by omega⟩ dM_why_89 rfl (fun u3 H locs hu3 hP hD hS => ?_)
                  have hf := hu3
                  have hE : u3.1 0 d d2 = true ↔ (fun U => b_Bel N kd fa fb so xa xb xc U d d2) (fun q => tm_used F (fun U => b_Bel N kd fa fb so xa xb xc U d d2) T (T - n) q ∧ q ≠ n) := fol_bel tvu hus.1 hf.2.2.2.1 hf.2.2.2.2
                  refine lv_aload_n hx hb dM_why_92 rfl (lv_at hl 1 rfl) ?_
                  refine gf_M_39 (v := .ref (a 9)) hx hb hA hown hK hP 0 rfl rfl dM_why_93 ?_
                  refine lv_iload_n hx hb dM_why_96 rfl (lv_at hl 0 rfl) ?_
                  refine lv_aload_n hx hb dM_why_97 rfl (lv_at hl 1 rfl) ?_
                  refine gf_M_42 (v := .ref (a 10)) hx hb hA hown hK hP 0 rfl rfl dM_why_98 ?_
                  refine lv_iload_n hx hb dM_why_101 rfl (lv_at hl 2 rfl) ?_
                  refine lv_iload_n hx hb dM_why_102 rfl (lv_at hl 3 rfl) ?_
                  refine k_in ⟨hx, hb, hml, hown, hA⟩ (kw_M_84 hA rfl rfl ⟨Nat.le_trans (Nat.le_of_ble_eq_true rfl) hRf, Nat.le_trans (Nat.le_of_ble_eq_true rfl) hRl⟩) hK hP hS 10 1 rfl rfl (by omega) (by omega) (by decide) hl.1 (Nat.le_of_ble_eq_true rfl) ⟨by omega, by omega⟩ dM_why_103 (fun H locs hP hS => ?_)
                  refine tq_bt hx hb dM_why_106 (tgt := 113) (by decide) (fun h106 => ?_) (fun h106 => ?_)
                  · refine lv_iconst (v := nI 0) hx hb dM_why_113 (by decide +kernel) ?_
                    refine tq_zast hx hb hK hP hD hS 9 2 rfl rfl (by omega) (by omega) (by first | rfl | decide | exact tq_nzv _) dM_why_114 (fun H locs hP hD hS => ?_)
                    have hP : va_P D vwA (mW a kI kL kZ (u3.1, va_up u3.2.1 8 (upd (u3.2.1 8) n (nI 0)), u3.2.2)) H := hP
                    have hD : va_D (mA a) (mW a kI kL kZ (u3.1, va_up u3.2.1 8 (upd (u3.2.1 8) n (nI 0)), u3.2.2)) := hD
                    have hP : va_P D vwA (mW a kI kL kZ (m_u8 u3 n 0)) H := hP
                    have hD : va_D (mA a) (mW a kI kL kZ (m_u8 u3 n 0)) := hD
                    have hstep : m_wk (m_w0 u2) (m_u8 u3 n 0) ∧ m_use (m_u8 u3 n 0) T (tm_used F (fun U => b_Bel N kd fa fb so xa xb xc U d d2) T (T - (n - 1))) := ⟨⟨fun i z => (va_up_ne _ _ z).trans ((congrFun hf.1 i).trans ((va_up_ne _ _ z).trans (g1.1 i z))), fun j z => (hf.2.1 j z).trans (g1.2.1 j z), hf.2.2.1, mo_rng hf.2.2.2.1 hN.2.2.1⟩, use_congr (use_1 (E := (fun U => b_Bel N kd fa fb so xa xb xc U d d2) (fun q => tm_used F (fun U => b_Bel N kd fa fb so xa xb xc U d d2) T (T - n) q ∧ q ≠ n)) (use_of hus hf.1) (by omega) (by omega) hUn (by rw [dB_f.mpr (fun z => z (hE.mp h106))]; rfl)) (used_s rfl (by omega) (by omega))⟩
                    refine lv_iinc (k := 0) (lv' := [(3, .int (nI (n - 1))), (0, .ref (a 0)), (1, .int (nI d)), (2, .int (nI d2))]) hx hb dM_why_115 hl rfl (nI_dn (by omega)) (by decide) rfl (fun ls hl => ?_)
                    refine lv_goto hx hb dM_why_118 (tgt := 63) (by decide) ?_
                    exact ih63 (n - 1) (m_u8 u3 n 0) ls H locs hstep.1 hstep.2 (by omega) hP hD hS (by omega) (lv_sub hl [0, 1, 2, 3] rfl)
                  · refine lv_iconst (v := nI 1) hx hb dM_why_109 (by decide +kernel) ?_
                    refine lv_goto hx hb dM_why_110 (tgt := 114) (by decide) ?_
                    refine tq_zast hx hb hK hP hD hS 9 2 rfl rfl (by omega) (by omega) (by first | rfl | decide | exact tq_nzv _) dM_why_114 (fun H locs hP hD hS => ?_)
                    have hP : va_P D vwA (mW a kI kL kZ (u3.1, va_up u3.2.1 8 (upd (u3.2.1 8) n (nI 1)), u3.2.2)) H := hP
                    have hD : va_D (mA a) (mW a kI kL kZ (u3.1, va_up u3.2.1 8 (upd (u3.2.1 8) n (nI 1)), u3.2.2)) := hD
                    have hP : va_P D vwA (mW a kI kL kZ (m_u8 u3 n 1)) H := hP
                    have hD : va_D (mA a) (mW a kI kL kZ (m_u8 u3 n 1)) := hD
                    have hstep : m_wk (m_w0 u2) (m_u8 u3 n 1) ∧ m_use (m_u8 u3 n 1) T (tm_used F (fun U => b_Bel N kd fa fb so xa xb xc U d d2) T (T - (n - 1))) := ⟨⟨fun i z => (va_up_ne _ _ z).trans ((congrFun hf.1 i).trans ((va_up_ne _ _ z).trans (g1.1 i z))), fun j z => (hf.2.1 j z).trans (g1.2.1 j z), hf.2.2.1, mo_rng hf.2.2.2.1 hN.2.2.1⟩, use_congr (use_1 (E := (fun U => b_Bel N kd fa fb so xa xb xc U d d2) (fun q => tm_used F (fun U => b_Bel N kd fa fb so xa xb xc U d d2) T (T - n) q ∧ q ≠ n)) (use_of hus hf.1) (by omega) (by omega) hUn (by rw [dB_iff.mpr (fun z => by rw [hE.mpr z] at h106; cases h106)]; rfl)) (used_s rfl (by omega) (by omega))⟩
                    refine lv_iinc (k := 0) (lv' := [(3, .int (nI (n - 1))), (0, .ref (a 0)), (1, .int (nI d)), (2, .int (nI d2))]) hx hb dM_why_115 hl rfl (nI_dn (by omega)) (by decide) rfl (fun ls hl => ?_)
                    refine lv_goto hx hb dM_why_118 (tgt := 63) (by decide) ?_
                    exact ih63 (n - 1) (m_u8 u3 n 1) ls H locs hstep.1 hstep.2 (by omega) hP hD hS (by omega) (lv_sub hl [0, 1, 2, 3] rfl)
                · have hstep : m_wk (m_w0 u2) v ∧ m_use v T (tm_used F (fun U => b_Bel N kd fa fb so xa xb xc U d d2) T (T - (n - 1))) := ⟨g1, use_congr g2 (used_n (by omega) (by omega) (dB_f.mp h73))⟩
                  refine lv_goto hx hb dM_why_76 (tgt := 115) (by decide) ?_
                  refine lv_iinc (k := 0) (lv' := [(3, .int (nI (n - 1))), (0, .ref (a 0)), (1, .int (nI d)), (2, .int (nI d2))]) hx hb dM_why_115 hl rfl (nI_dn (by omega)) (by decide) rfl (fun ls hl => ?_)
                  refine lv_goto hx hb dM_why_118 (tgt := 63) (by decide) ?_
                  exact ih63 (n - 1) v ls H locs hstep.1 hstep.2 (by omega) hP hD hS (by omega) (lv_sub hl [0, 1, 2, 3] rfl)
          exact lp _ ((m_w0 u2).2.2 2) (m_w0 u2) ls _ _ ⟨fun _ _ => rfl, fun _ _ => rfl, hinu2.2.2.2.2.1, hinu2.2.2.1⟩ (use_congr (u := m_w0 u2) hfl.1 (fun k => by rw [show T - (m_w0 u2).2.2 2 = 0 from (show T - u2.2.2 2 = 0 by omega)]; exact Iff.rfl)) (show u2.2.2 2 ≤ T by omega) hP hD hS (Nat.lt_succ_self _) (lv_sub hl [0, 1, 2, 3] rfl)
        · have hnb : ¬ b_Bel N kd fa fb so xa xb xc F d d2 := fun z => by
            have := (clo_bel hinu2.1 hinu2.2.1.1 hfl.2.1 hfl.2.2 (x := d) (y := d2)).mpr z
            rw [show u2.1 0 d d2 = false from h48] at this
            cases this
          refine lv_iconst (v := (-1)) hx hb dM_why_51 (by decide +kernel) ?_
          subst hQe
          exact W.iret (v := (-1)) hx hb hr (fun t ht hW => ⟨⟨_, (m_mn u2), rfl, ⟨Or.inl ⟨hnb, rfl, mn_inv hinu2⟩, hzu2⟩, tq_hp ht hP⟩, hS.F ht⟩) hS.2.2 dM_why_52
      · omega
    · exact absurd h14 (by rw [t2]; decide)
