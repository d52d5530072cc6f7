/-! The model: common, count. Written by wip/whole/gen/genM4.py. -/
def m_lw (u : sU) (j k : Nat) : Bool := m_st u j k || (decide (j < k) && (u.1 0 j k && u.1 0 k j))
noncomputable def m_co (u : sU) (N d d2 k : Nat) : Bool := m_cm u d d2 k && dB (∀ b, b < N → m_cm u d d2 b = true → m_lw u b k = false)
theorem m_co_eq {u : sU} {N d d2 k : Nat} {q : Bool} (h : q = true ↔ m_cm u d d2 k = true ∧ ∀ b, b < N → m_cm u d d2 b = true → m_lw u b k = false) : m_co u N d d2 k = q := by
  unfold m_co
  refine (bl_ext (h.trans ?_)).symm
  rw [Bool.and_eq_true, dB_iff]
theorem m_lw_f {u : sU} {j k : Nat} (h1 : m_st u j k = false) (h2 : ¬ j < k ∨ u.1 0 j k = false ∨ u.1 0 k j = false) : m_lw u j k = false := by
  unfold m_lw
  rw [h1, Bool.false_or]
  rcases h2 with h | h | h
  · rw [decide_eq_false h]; rfl
  · rw [h, Bool.false_and, Bool.and_false]
  · rw [h, Bool.and_false, Bool.and_false]
set_option maxHeartbeats 4000000 in
set_option maxRecDepth 100000 in
/-- m_common -/
theorem m_common (l : Launch) (D : va_G) (a : Nat → Nat) (kI kL kZ : ClassId) (u : sU) (N : Nat) (kd fa fb : Nat → Nat) (T : Nat) (so xa xb xc : Nat → Nat) (F : Nat → Prop) (M : Nat) (rs : Nat → Nat) (hin : m_inv u N kd fa fb T so xa xb xc F M rs) (d d2 : Nat) (x : Int32) (hd : d < N) (hd2 : d2 < N) : Met l yM_common (wM_common :: wA) ({ frames := 5, cells := 0, slots := 0, locals := 118 }) (va_Pc [.ref (a 0), .int (nI d), .int (nI d2), .int x] (tq_wB D vwA (mW a kI kL kZ u) (sT kI kL kZ))) (va_Qi (fun r (u' : sU) => (q_sup (m_co u' N d d2) N x r) ∧ m_inv u' N kd fa fb T so xa xb xc F M rs ∧ u'.2.2 0 = 0 ∧ u'.2.2 3 = 1) (fun u' t => va_P D vwA (mW a kI kL kZ u') t.heap) (mA a)) 0 0 (mA a) := by
  refine Met.ofW (cc := bM_common) (maxL := 9) (ret := (some .int)) (by decide +kernel) rfl ?_
  intro p e s m args below meth c s₁ B1 hml hv
  obtain ⟨rfl, hP, hK, hD0⟩ := hv
  have hx := B1.exec
  have hb := B1.bytes
  have hr := B1.returns
  have hA : ∀ w ∈ wA, w.before ([.ref (a 0), .int (nI d), .int (nI d2), .int x] : List Value).toArray s = true := fun w h => atoms_spec (ws := wM_common :: wA) B1.pre w (List.mem_cons_of_mem _ h)
  have hown : s.vm.findClass RcM = some m.cls := findClass_of_methodNamed B1.named
  have hlocks := B1.notSynchronized
  have hS : va_S (mA a) s.heap s.heap [] := va_S.rf
  have hl := lv_entry ([.ref (a 0), .int (nI d), .int (nI d2), .int x]) (n := 9) (Nat.le_of_ble_eq_true rfl)
  rw [lg_entry_eq]
  generalize (lg_sl ([.ref (a 0), .int (nI d), .int (nI d2), .int x]) ++ List.replicate (9 - (lg_sl ([.ref (a 0), .int (nI d), .int (nI d2), .int x])).length) Slot.unset).toArray = ls at hl ⊢
  have hl : lv_has ls 9 [(0, .ref (a 0)), (1, .int (nI d)), (2, .int (nI d2)), (3, .int x)] := hl
  refine tq_gen (fun R Q hRe hQe => ?_)
  have hRf : 5 ≤ R.frames := by rw [hRe]; exact Nat.le_of_ble_eq_true rfl
  have hRl : 118 ≤ R.locals := by rw [hRe]; exact Nat.le_of_ble_eq_true rfl
  have hRc : 0 ≤ R.cells := by rw [hRe]; exact Nat.le_of_ble_eq_true rfl
  have hRs : 0 ≤ R.slots := by rw [hRe]; exact Nat.le_of_ble_eq_true rfl
  have hD := mA_D hD0
  have hta := hin.1
  have hN := mt_N hta
  have t1 : m_th (u.2.2 1) (nI d) = true := th_t (by omega)
  have t2 : m_th (u.2.2 1) (nI d2) = true := th_t (by omega)
  refine lv_aload_n hx hb dM_common_0 rfl (lv_at hl 0 rfl) ?_
  refine lv_aload_n hx hb dM_common_1 rfl (lv_at hl 0 rfl) ?_
  refine lv_iload_n hx hb dM_common_2 rfl (lv_at hl 1 rfl) ?_
  refine ks_rv ⟨hx, hb, hml, hown, hA⟩ (m_isThere l D a kI kL kZ u (nI d) (by omega)) (kw_M_66 hA rfl rfl ⟨Nat.le_trans (Nat.le_of_ble_eq_true rfl) hRf, Nat.le_trans (Nat.le_of_ble_eq_true rfl) hRl⟩) hK hP hS 0 5 rfl rfl rfl hl.1 (Nat.le_of_ble_eq_true rfl) ⟨by omega, by omega⟩ dM_common_3 rfl (fun H locs hP hS => ?_)
  refine tq_i (y := bI (m_th (u.2.2 1) (nI d))) rfl ?_
  refine tq_bf hx hb dM_common_6 (tgt := 17) (by decide) (fun h6 => ?_) (fun h6 => ?_)
  · exact absurd h6 (by rw [t1]; decide)
  · refine lv_aload_n hx hb dM_common_9 rfl (lv_at hl 0 rfl) ?_
    refine lv_iload_n hx hb dM_common_10 rfl (lv_at hl 2 rfl) ?_
    refine ks_rv ⟨hx, hb, hml, hown, hA⟩ (m_isThere l D a kI kL kZ u (nI d2) (by omega)) (kw_M_66 hA rfl rfl ⟨Nat.le_trans (Nat.le_of_ble_eq_true rfl) hRf, Nat.le_trans (Nat.le_of_ble_eq_true rfl) hRl⟩) hK hP hS 0 5 rfl rfl rfl hl.1 (Nat.le_of_ble_eq_true rfl) ⟨by omega, by omega⟩ dM_common_11 rfl (fun H locs hP hS => ?_)
    refine tq_i (y := bI (m_th (u.2.2 1) (nI d2))) rfl ?_
    refine tq_bt hx hb dM_common_14 (tgt := 21) (by decide) (fun h14 => ?_) (fun h14 => ?_)
    · refine lv_iconst (v := nI 0) hx hb dM_common_21 (by decide +kernel) ?_
      refine ks_i (wf := mW a kI kL kZ) (u := u) ⟨hx, hb, hml, hown, hA⟩ (m_fails0 l D a kI kL kZ u ) (kw_M_70 hA rfl rfl ⟨Nat.le_trans (Nat.le_of_ble_eq_true rfl) hRf, Nat.le_trans (Nat.le_of_ble_eq_true rfl) hRl⟩) hK hP hD hS (fun _ h => h) (fun u' => mW_adr u') 0 5 rfl rfl rfl hl.1 (Nat.le_of_ble_eq_true rfl) ⟨by omega, by omega⟩ dM_common_22 rfl (fun r1 u1 H locs hu1 hP hD hS => ?_)
      refine tq_i hu1.1 ?_
      have hinu1 : m_inv u1 N kd fa fb T so xa xb xc F M rs := by rw [hu1.2]; exact hin
      have hNu1 := mt_N hinu1.1
      have hzu1 : u1.2.2 0 = 0 := by rw [hu1.2]; rfl
      refine tq_zeq hx hb dM_common_25 (tgt := 30) (by decide) (by omega) (fun h25 => ?_) (fun h25 => ?_)
      · refine lv_aload_n hx hb dM_common_30 rfl (lv_at hl 0 rfl) ?_
        refine ks_v (wf := mW a kI kL kZ) (u := u1) ⟨hx, hb, hml, hown, hA⟩ (m_close l D a kI kL kZ u1 N kd fa fb T so xa xb xc hinu1.1 F hinu1.2.1 hinu1.2.2.1 hinu1.2.2.2.1 hinu1.2.2.2.2.1 hinu1.2.2.2.2.2.1) (kw_M_127 hA rfl rfl ⟨Nat.le_trans (Nat.le_of_ble_eq_true rfl) hRf, Nat.le_trans (Nat.le_of_ble_eq_true rfl) hRl⟩) hK hP hD hS (fun _ h => h) (fun u' => mW_adr u') 0 5 rfl rfl rfl hl.1 (Nat.le_of_ble_eq_true rfl) ⟨by omega, by omega⟩ dM_common_31 rfl (fun u2 H locs hu2 hP hD hS => ?_)
        have hinu2 := cls_inv hinu1 hu2
        have hNu2 := mt_N hinu2.1
        have hzu2 : u2.2.2 0 = 0 := (hu2.2.1 0 (by decide) (by decide)).trans hzu1
        have hc3 := hu2.2.2.1
        have hfl := hu2.2.2.2.2
        have hlo := m_nm_lo hinu2.1
        have hlo2 : tm_cnt (m_co u2 N d d2) 2 = 0 := cnt_zero (fun k hk => and_f (and_f (and_f (hlo k hk))))
        refine lv_iconst (v := nI 0) hx hb dM_common_34 (by decide +kernel) ?_
        refine lv_istore (lv' := [(4, .int (nI 0)), (0, .ref (a 0)), (1, .int (nI d)), (2, .int (nI d2)), (3, .int x)]) hx hb dM_common_35 hl (by decide) rfl (fun ls hl => ?_)
        refine lv_iconst (v := nI 2) hx hb dM_common_37 (by decide +kernel) ?_
        refine lv_istore (lv' := [(5, .int (nI 2)), (4, .int (nI 0)), (0, .ref (a 0)), (1, .int (nI d)), (2, .int (nI d2)), (3, .int x)]) hx hb dM_common_38 hl (by decide) rfl (fun ls hl => ?_)
        have lp : ∀ (fu : Nat) (q n : Nat) (ls : Array Slot) (H : Heap) (locs : List Loc), q = tm_cnt (m_co u2 N d d2) n → n ≤ N → (∀ b, b < n → ((m_co u2 N d d2) b = true → ¬ nI (tm_cnt (m_co u2 N d d2) b) = x)) → va_P D vwA (mW a kI kL kZ u2) H → va_D (mA a) (mW a kI kL kZ u2) → va_S (mA a) s.heap H locs → N - n < fu → lv_has ls 9 [(5, .int (nI n)), (4, .int (nI q)), (0, .ref (a 0)), (1, .int (nI d)), (2, .int (nI d2)), (3, .int x)] → W p l e R s m ([.ref (a 0), .int (nI d), .int (nI d2), .int x] : List Value).toArray below meth c H locs 0 0 Q (F0 m 40 ls []) := by
          intro fu
          induction fu with
          | zero => intros; omega
          | succ fu ih40 =>
            intro q n ls H locs g1 g2 g3 hP hD hS hfu hl
            refine lv_iload hx hb dM_common_40 (lv_at hl 0 rfl) ?_
            refine lv_aload_n hx hb dM_common_42 rfl (lv_at hl 2 rfl) ?_
            refine gf_M_7 (v := .int (nI (u2.2.2 1))) hx hb hA hown hK hP 0 rfl rfl dM_common_43 ?_
            refine tq_ge hx hb dM_common_46 (tgt := 193) (by decide) (by omega) (by omega) (fun h46 => ?_) (fun h46 => ?_)
            · refine lv_iconst (v := (-1)) hx hb dM_common_193 (by decide +kernel) ?_
              subst hQe
              exact W.iret (v := (-1)) hx hb hr (fun t ht hW => ⟨⟨_, u2, rfl, ⟨Or.inr ⟨rfl, fun b z => g3 b (by omega)⟩, hinu2, hzu2, hc3⟩, tq_hp ht hP⟩, hS.F ht⟩) hS.2.2 dM_common_194
            · refine lv_aload_n hx hb dM_common_49 rfl (lv_at hl 2 rfl) ?_
              refine lv_iload_n hx hb dM_common_50 rfl (lv_at hl 3 rfl) ?_
              refine lv_iload_n hx hb dM_common_51 rfl (lv_at hl 4 rfl) ?_
              refine lv_iload hx hb dM_common_52 (lv_at hl 0 rfl) ?_
              refine ks_rv ⟨hx, hb, hml, hown, hA⟩ (m_isCommon l D a kI kL kZ u2 d d2 n (by omega) (by omega) (by omega)) (kw_M_138 hA rfl rfl ⟨Nat.le_trans (Nat.le_of_ble_eq_true rfl) hRf, Nat.le_trans (Nat.le_of_ble_eq_true rfl) hRl⟩) hK hP hS 0 5 rfl rfl rfl hl.1 (Nat.le_of_ble_eq_true rfl) ⟨by omega, by omega⟩ dM_common_54 rfl (fun H locs hP hS => ?_)
              refine tq_i (y := bI (m_cm u2 d d2 n)) rfl ?_
              refine lv_istore (lv' := [(6, .int (bI (m_cm u2 d d2 n))), (5, .int (nI n)), (4, .int (nI q)), (0, .ref (a 0)), (1, .int (nI d)), (2, .int (nI d2)), (3, .int x)]) hx hb dM_common_57 hl (by decide) rfl (fun ls hl => ?_)
              refine lv_iconst (v := nI 2) hx hb dM_common_59 (by decide +kernel) ?_
              refine lv_istore (lv' := [(7, .int (nI 2)), (6, .int (bI (m_cm u2 d d2 n))), (5, .int (nI n)), (4, .int (nI q)), (0, .ref (a 0)), (1, .int (nI d)), (2, .int (nI d2)), (3, .int x)]) hx hb dM_common_60 hl (by decide) rfl (fun ls hl => ?_)
              have lp2 : ∀ (fu : Nat) (q6 : Bool) (j : Nat) (ls : Array Slot) (H : Heap) (locs : List Loc), (q6 = true ↔ m_cm u2 d d2 n = true ∧ ∀ b, b < j → m_cm u2 d d2 b = true → m_lw u2 b n = false) → j ≤ N → va_P D vwA (mW a kI kL kZ u2) H → va_D (mA a) (mW a kI kL kZ u2) → va_S (mA a) s.heap H locs → N - j < fu → lv_has ls 9 [(7, .int (nI j)), (6, .int (bI q6)), (5, .int (nI n)), (4, .int (nI q)), (0, .ref (a 0)), (1, .int (nI d)), (2, .int (nI d2)), (3, .int x)] → W p l e R s m ([.ref (a 0), .int (nI d), .int (nI d2), .int x] : List Value).toArray below meth c H locs 0 0 Q (F0 m 62 ls []) := by
                intro fu
                induction fu with
                | zero => intros; omega
                | succ fu ih62 =>
                  intro q6 j ls H locs k1 k2 hP hD hS hfu hl
                  refine lv_iload hx hb dM_common_62 (lv_at hl 0 rfl) ?_
                  refine lv_aload_n hx hb dM_common_64 rfl (lv_at hl 4 rfl) ?_
                  refine gf_M_7 (v := .int (nI (u2.2.2 1))) hx hb hA hown hK hP 0 rfl rfl dM_common_65 ?_
                  refine tq_ge hx hb dM_common_68 (tgt := 158) (by decide) (by omega) (by omega) (fun h68 => ?_) (fun h68 => ?_)
                  · have hco : m_co u2 N d d2 n = q6 := m_co_eq (by first | (rw [show N = j by omega]; exact k1) | exact ⟨fun z => absurd z (by rw [h73]; decide), fun z => absurd (k1.mpr ⟨z.1, fun b hb => z.2 b (by omega)⟩) (by rw [h73]; decide)⟩)
                    have hq9 := tm_cnt_le (m_co u2 N d d2) n
                    refine lv_iload hx hb dM_common_158 (lv_at hl 1 rfl) ?_
                    refine tq_bf hx hb dM_common_160 (tgt := 172) (by decide) (fun h160 => ?_) (fun h160 => ?_)
                    · have hstep : q + 0 = tm_cnt (m_co u2 N d d2) (n + 1) := by rw [cnt_no (p := (m_co u2 N d d2)) (hco.trans h160)]; exact g1
                      have hno : (fun b => ((m_co u2 N d d2) b = true → ¬ nI (tm_cnt (m_co u2 N d d2) b) = x)) n := fun z => absurd z (by rw [hco, h160]; decide)
                      refine lv_iload hx hb dM_common_172 (lv_at hl 3 rfl) ?_
                      refine lv_iload hx hb dM_common_174 (lv_at hl 1 rfl) ?_
                      refine tq_bf hx hb dM_common_176 (tgt := 183) (by decide) (fun h176 => ?_) (fun h176 => ?_)
                      · refine lv_iconst (v := nI 0) hx hb dM_common_183 (by decide +kernel) ?_
                        refine tq_iadd hx hb dM_common_184 ?_
                        refine lv_istore (lv' := [(4, .int (nI (q + 0))), (7, .int (nI j)), (6, .int (bI q6)), (5, .int (nI n)), (0, .ref (a 0)), (1, .int (nI d)), (2, .int (nI d2)), (3, .int x)]) hx hb dM_common_185 hl (by decide) rfl (fun ls hl => ?_)
                        refine lv_iinc (k := 3) (lv' := [(5, .int (nI (n + 1))), (4, .int (nI (q + 0))), (7, .int (nI j)), (6, .int (bI q6)), (0, .ref (a 0)), (1, .int (nI d)), (2, .int (nI d2)), (3, .int x)]) hx hb dM_common_187 hl rfl (nI_1 _) (by decide) rfl (fun ls hl => ?_)
                        refine lv_goto hx hb dM_common_190 (tgt := 40) (by decide) ?_
                        exact ih40 (q + 0) (n + 1) ls H locs (hstep) (by omega) (lt_s (p := fun b => ((m_co u2 N d d2) b = true → ¬ nI (tm_cnt (m_co u2 N d d2) b) = x)) g3 hno) hP hD hS (by omega) (lv_sub hl [0, 1, 4, 5, 6, 7] rfl)
                      · exact absurd (h160.symm.trans h176) (by decide)
                    · refine lv_iload hx hb dM_common_163 (lv_at hl 3 rfl) ?_
                      refine lv_iload_n hx hb dM_common_165 rfl (lv_at hl 7 rfl) ?_
                      refine lv_icmp_ne hx hb dM_common_166 (tgt := 172) (by decide) (fun h166 => ?_) (fun h166 => ?_)
                      · have hstep : q + 1 = tm_cnt (m_co u2 N d d2) (n + 1) := by rw [cnt_yes (p := (m_co u2 N d d2)) (hco.trans h160), g1]
                        have hno : (fun b => ((m_co u2 N d d2) b = true → ¬ nI (tm_cnt (m_co u2 N d d2) b) = x)) n := fun _ z => h166 (by rw [g1]; exact z)
                        refine lv_iload hx hb dM_common_172 (lv_at hl 3 rfl) ?_
                        refine lv_iload hx hb dM_common_174 (lv_at hl 1 rfl) ?_
                        refine tq_bf hx hb dM_common_176 (tgt := 183) (by decide) (fun h176 => ?_) (fun h176 => ?_)
                        · exact absurd (h160.symm.trans h176) (by decide)
                        · refine lv_iconst (v := nI 1) hx hb dM_common_179 (by decide +kernel) ?_
                          refine lv_goto hx hb dM_common_180 (tgt := 184) (by decide) ?_
                          refine tq_iadd hx hb dM_common_184 ?_
                          refine lv_istore (lv' := [(4, .int (nI (q + 1))), (7, .int (nI j)), (6, .int (bI q6)), (5, .int (nI n)), (0, .ref (a 0)), (1, .int (nI d)), (2, .int (nI d2)), (3, .int x)]) hx hb dM_common_185 hl (by decide) rfl (fun ls hl => ?_)
                          refine lv_iinc (k := 3) (lv' := [(5, .int (nI (n + 1))), (4, .int (nI (q + 1))), (7, .int (nI j)), (6, .int (bI q6)), (0, .ref (a 0)), (1, .int (nI d)), (2, .int (nI d2)), (3, .int x)]) hx hb dM_common_187 hl rfl (nI_1 _) (by decide) rfl (fun ls hl => ?_)
                          refine lv_goto hx hb dM_common_190 (tgt := 40) (by decide) ?_
                          exact ih40 (q + 1) (n + 1) ls H locs (hstep) (by omega) (lt_s (p := fun b => ((m_co u2 N d d2) b = true → ¬ nI (tm_cnt (m_co u2 N d d2) b) = x)) g3 hno) hP hD hS (by omega) (lv_sub hl [0, 1, 4, 5, 6, 7] rfl)
                      · refine lv_iload hx hb dM_common_169 (lv_at hl 2 rfl) ?_
                        subst hQe
                        exact W.iret (v := nI n) hx hb hr (fun t ht hW => ⟨⟨_, u2, rfl, ⟨Or.inl ⟨n, by omega, hco.trans h160, by rw [← g1]; exact h166, rfl⟩, hinu2, hzu2, hc3⟩, tq_hp ht hP⟩, hS.F ht⟩) hS.2.2 dM_common_171
                  · refine lv_iload hx hb dM_common_71 (lv_at hl 1 rfl) ?_
                    refine tq_bf hx hb dM_common_73 (tgt := 158) (by decide) (fun h73 => ?_) (fun h73 => ?_)
                    · have hco : m_co u2 N d d2 n = q6 := m_co_eq (by first | (rw [show N = j by omega]; exact k1) | exact ⟨fun z => absurd z (by rw [h73]; decide), fun z => absurd (k1.mpr ⟨z.1, fun b hb => z.2 b (by omega)⟩) (by rw [h73]; decide)⟩)
                      have hq9 := tm_cnt_le (m_co u2 N d d2) n
                      refine lv_iload hx hb dM_common_158 (lv_at hl 1 rfl) ?_
                      refine tq_bf hx hb dM_common_160 (tgt := 172) (by decide) (fun h160 => ?_) (fun h160 => ?_)
                      · have hstep : q + 0 = tm_cnt (m_co u2 N d d2) (n + 1) := by rw [cnt_no (p := (m_co u2 N d d2)) (hco.trans h160)]; exact g1
                        have hno : (fun b => ((m_co u2 N d d2) b = true → ¬ nI (tm_cnt (m_co u2 N d d2) b) = x)) n := fun z => absurd z (by rw [hco, h160]; decide)
                        refine lv_iload hx hb dM_common_172 (lv_at hl 3 rfl) ?_
                        refine lv_iload hx hb dM_common_174 (lv_at hl 1 rfl) ?_
                        refine tq_bf hx hb dM_common_176 (tgt := 183) (by decide) (fun h176 => ?_) (fun h176 => ?_)
                        · refine lv_iconst (v := nI 0) hx hb dM_common_183 (by decide +kernel) ?_
                          refine tq_iadd hx hb dM_common_184 ?_
                          refine lv_istore (lv' := [(4, .int (nI (q + 0))), (7, .int (nI j)), (6, .int (bI q6)), (5, .int (nI n)), (0, .ref (a 0)), (1, .int (nI d)), (2, .int (nI d2)), (3, .int x)]) hx hb dM_common_185 hl (by decide) rfl (fun ls hl => ?_)
                          refine lv_iinc (k := 3) (lv' := [(5, .int (nI (n + 1))), (4, .int (nI (q + 0))), (7, .int (nI j)), (6, .int (bI q6)), (0, .ref (a 0)), (1, .int (nI d)), (2, .int (nI d2)), (3, .int x)]) hx hb dM_common_187 hl rfl (nI_1 _) (by decide) rfl (fun ls hl => ?_)
                          refine lv_goto hx hb dM_common_190 (tgt := 40) (by decide) ?_
                          exact ih40 (q + 0) (n + 1) ls H locs (hstep) (by omega) (lt_s (p := fun b => ((m_co u2 N d d2) b = true → ¬ nI (tm_cnt (m_co u2 N d d2) b) = x)) g3 hno) hP hD hS (by omega) (lv_sub hl [0, 1, 4, 5, 6, 7] rfl)
                        · exact absurd (h160.symm.trans h176) (by decide)
                      · refine lv_iload hx hb dM_common_163 (lv_at hl 3 rfl) ?_
                        refine lv_iload_n hx hb dM_common_165 rfl (lv_at hl 7 rfl) ?_
                        refine lv_icmp_ne hx hb dM_common_166 (tgt := 172) (by decide) (fun h166 => ?_) (fun h166 => ?_)
                        · have hstep : q + 1 = tm_cnt (m_co u2 N d d2) (n + 1) := by rw [cnt_yes (p := (m_co u2 N d d2)) (hco.trans h160), g1]
                          have hno : (fun b => ((m_co u2 N d d2) b = true → ¬ nI (tm_cnt (m_co u2 N d d2) b) = x)) n := fun _ z => h166 (by rw [g1]; exact z)
                          refine lv_iload hx hb dM_common_172 (lv_at hl 3 rfl) ?_
                          refine lv_iload hx hb dM_common_174 (lv_at hl 1 rfl) ?_
                          refine tq_bf hx hb dM_common_176 (tgt := 183) (by decide) (fun h176 => ?_) (fun h176 => ?_)
                          · exact absurd (h160.symm.trans h176) (by decide)
                          · refine lv_iconst (v := nI 1) hx hb dM_common_179 (by decide +kernel) ?_
                            refine lv_goto hx hb dM_common_180 (tgt := 184) (by decide) ?_
                            refine tq_iadd hx hb dM_common_184 ?_
                            refine lv_istore (lv' := [(4, .int (nI (q + 1))), (7, .int (nI j)), (6, .int (bI q6)), (5, .int (nI n)), (0, .ref (a 0)), (1, .int (nI d)), (2, .int (nI d2)), (3, .int x)]) hx hb dM_common_185 hl (by decide) rfl (fun ls hl => ?_)
                            refine lv_iinc (k := 3) (lv' := [(5, .int (nI (n + 1))), (4, .int (nI (q + 1))), (7, .int (nI j)), (6, .int (bI q6)), (0, .ref (a 0)), (1, .int (nI d)), (2, .int (nI d2)), (3, .int x)]) hx hb dM_common_187 hl rfl (nI_1 _) (by decide) rfl (fun ls hl => ?_)
                            refine lv_goto hx hb dM_common_190 (tgt := 40) (by decide) ?_
                            exact ih40 (q + 1) (n + 1) ls H locs (hstep) (by omega) (lt_s (p := fun b => ((m_co u2 N d d2) b = true → ¬ nI (tm_cnt (m_co u2 N d d2) b) = x)) g3 hno) hP hD hS (by omega) (lv_sub hl [0, 1, 4, 5, 6, 7] rfl)
                        · refine lv_iload hx hb dM_common_169 (lv_at hl 2 rfl) ?_
                          subst hQe
                          exact W.iret (v := nI n) hx hb hr (fun t ht hW => ⟨⟨_, u2, rfl, ⟨Or.inl ⟨n, by omega, hco.trans h160, by rw [← g1]; exact h166, rfl⟩, hinu2, hzu2, hc3⟩, tq_hp ht hP⟩, hS.F ht⟩) hS.2.2 dM_common_171
                    · refine lv_aload_n hx hb dM_common_76 rfl (lv_at hl 4 rfl) ?_
                      refine lv_iload hx hb dM_common_77 (lv_at hl 0 rfl) ?_
                      refine lv_iload hx hb dM_common_79 (lv_at hl 2 rfl) ?_
                      refine ks_rv ⟨hx, hb, hml, hown, hA⟩ (m_strictly l D a kI kL kZ u2 j n (by omega) (by omega)) (kw_M_130 hA rfl rfl ⟨Nat.le_trans (Nat.le_of_ble_eq_true rfl) hRf, Nat.le_trans (Nat.le_of_ble_eq_true rfl) hRl⟩) hK hP hS 0 5 rfl rfl rfl hl.1 (Nat.le_of_ble_eq_true rfl) ⟨by omega, by omega⟩ dM_common_81 rfl (fun H locs hP hS => ?_)
                      refine tq_i (y := bI (m_st u2 j n)) rfl ?_
                      refine tq_bt hx hb dM_common_84 (tgt := 122) (by decide) (fun h84 => ?_) (fun h84 => ?_)
                      · have hlw : m_lw u2 j n = true := by unfold m_lw; rw [h84]; rfl
                        refine lv_iconst (v := nI 1) hx hb dM_common_122 (by decide +kernel) ?_
                        refine lv_goto hx hb dM_common_123 (tgt := 127) (by decide) ?_
                        refine lv_istore (lv' := [(8, .int (nI 1)), (7, .int (nI j)), (6, .int (bI q6)), (5, .int (nI n)), (4, .int (nI q)), (0, .ref (a 0)), (1, .int (nI d)), (2, .int (nI d2)), (3, .int x)]) hx hb dM_common_127 hl (by decide) rfl (fun ls hl => ?_)
                        refine lv_aload_n hx hb dM_common_129 rfl (lv_at hl 5 rfl) ?_
                        refine lv_iload_n hx hb dM_common_130 rfl (lv_at hl 6 rfl) ?_
                        refine lv_iload_n hx hb dM_common_131 rfl (lv_at hl 7 rfl) ?_
                        refine lv_iload hx hb dM_common_132 (lv_at hl 1 rfl) ?_
                        refine ks_rv ⟨hx, hb, hml, hown, hA⟩ (m_isCommon l D a kI kL kZ u2 d d2 j (by omega) (by omega) (by omega)) (kw_M_138 hA rfl rfl ⟨Nat.le_trans (Nat.le_of_ble_eq_true rfl) hRf, Nat.le_trans (Nat.le_of_ble_eq_true rfl) hRl⟩) hK hP hS 0 5 rfl rfl rfl hl.1 (Nat.le_of_ble_eq_true rfl) ⟨by omega, by omega⟩ dM_common_134 rfl (fun H locs hP hS => ?_)
                        refine tq_i (y := bI (m_cm u2 d d2 j)) rfl ?_
                        refine tq_bf hx hb dM_common_137 (tgt := 145) (by decide) (fun h137 => ?_) (fun h137 => ?_)
                        · have hstep2 : true = true ↔ m_cm u2 d d2 n = true ∧ ∀ b, b < (j + 1) → m_cm u2 d d2 b = true → m_lw u2 b n = false := ⟨fun _ => ⟨(k1.mp h73).1, lt_s (p := (fun b => m_cm u2 d d2 b = true → m_lw u2 b n = false)) (k1.mp h73).2 (fun z => absurd z (by rw [h137]; decide))⟩, fun _ => rfl⟩
                          refine lv_iconst (v := nI 1) hx hb dM_common_145 (by decide +kernel) ?_
                          refine lv_goto hx hb dM_common_146 (tgt := 150) (by decide) ?_
                          refine lv_istore (lv' := [(6, .int (nI 1)), (8, .int (nI 1)), (7, .int (nI j)), (5, .int (nI n)), (4, .int (nI q)), (0, .ref (a 0)), (1, .int (nI d)), (2, .int (nI d2)), (3, .int x)]) hx hb dM_common_150 hl (by decide) rfl (fun ls hl => ?_)
                          refine lv_iinc (k := 2) (lv' := [(7, .int (nI (j + 1))), (6, .int (nI 1)), (8, .int (nI 1)), (5, .int (nI n)), (4, .int (nI q)), (0, .ref (a 0)), (1, .int (nI d)), (2, .int (nI d2)), (3, .int x)]) hx hb dM_common_152 hl rfl (nI_1 _) (by decide) rfl (fun ls hl => ?_)
                          refine lv_goto hx hb dM_common_155 (tgt := 62) (by decide) ?_
                          exact ih62 true (j + 1) ls H locs (hstep2) (by omega) hP hD hS (by omega) (lv_sub hl [0, 1, 3, 4, 5, 6, 7, 8] rfl)
                        · have hstep2 : false = true ↔ m_cm u2 d d2 n = true ∧ ∀ b, b < (j + 1) → m_cm u2 d d2 b = true → m_lw u2 b n = false := ⟨fun z => absurd z (by decide), fun z => absurd (z.2 j (by omega) h137) (by rw [hlw]; decide)⟩
                          refine lv_iload hx hb dM_common_140 (lv_at hl 0 rfl) ?_
                          refine tq_zne hx hb dM_common_142 (tgt := 149) (by decide) (by omega) (fun h142 => ?_) (fun h142 => ?_)
                          · refine lv_iconst (v := nI 0) hx hb dM_common_149 (by decide +kernel) ?_
                            refine lv_istore (lv' := [(6, .int (nI 0)), (8, .int (nI 1)), (7, .int (nI j)), (5, .int (nI n)), (4, .int (nI q)), (0, .ref (a 0)), (1, .int (nI d)), (2, .int (nI d2)), (3, .int x)]) hx hb dM_common_150 hl (by decide) rfl (fun ls hl => ?_)
                            refine lv_iinc (k := 2) (lv' := [(7, .int (nI (j + 1))), (6, .int (nI 0)), (8, .int (nI 1)), (5, .int (nI n)), (4, .int (nI q)), (0, .ref (a 0)), (1, .int (nI d)), (2, .int (nI d2)), (3, .int x)]) hx hb dM_common_152 hl rfl (nI_1 _) (by decide) rfl (fun ls hl => ?_)
                            refine lv_goto hx hb dM_common_155 (tgt := 62) (by decide) ?_
                            exact ih62 false (j + 1) ls H locs (hstep2) (by omega) hP hD hS (by omega) (lv_sub hl [0, 1, 3, 4, 5, 6, 7, 8] rfl)
                          · omega
                      · refine lv_iload hx hb dM_common_87 (lv_at hl 0 rfl) ?_
                        refine lv_iload hx hb dM_common_89 (lv_at hl 2 rfl) ?_
                        refine tq_ge hx hb dM_common_91 (tgt := 126) (by decide) (by omega) (by omega) (fun h91 => ?_) (fun h91 => ?_)
                        · have hlw : m_lw u2 j n = false := m_lw_f h84 (Or.inl (by omega))
                          refine lv_iconst (v := nI 0) hx hb dM_common_126 (by decide +kernel) ?_
                          refine lv_istore (lv' := [(8, .int (nI 0)), (7, .int (nI j)), (6, .int (bI q6)), (5, .int (nI n)), (4, .int (nI q)), (0, .ref (a 0)), (1, .int (nI d)), (2, .int (nI d2)), (3, .int x)]) hx hb dM_common_127 hl (by decide) rfl (fun ls hl => ?_)
                          refine lv_aload_n hx hb dM_common_129 rfl (lv_at hl 5 rfl) ?_
                          refine lv_iload_n hx hb dM_common_130 rfl (lv_at hl 6 rfl) ?_
                          refine lv_iload_n hx hb dM_common_131 rfl (lv_at hl 7 rfl) ?_
                          refine lv_iload hx hb dM_common_132 (lv_at hl 1 rfl) ?_
                          refine ks_rv ⟨hx, hb, hml, hown, hA⟩ (m_isCommon l D a kI kL kZ u2 d d2 j (by omega) (by omega) (by omega)) (kw_M_138 hA rfl rfl ⟨Nat.le_trans (Nat.le_of_ble_eq_true rfl) hRf, Nat.le_trans (Nat.le_of_ble_eq_true rfl) hRl⟩) hK hP hS 0 5 rfl rfl rfl hl.1 (Nat.le_of_ble_eq_true rfl) ⟨by omega, by omega⟩ dM_common_134 rfl (fun H locs hP hS => ?_)
                          refine tq_i (y := bI (m_cm u2 d d2 j)) rfl ?_
                          refine tq_bf hx hb dM_common_137 (tgt := 145) (by decide) (fun h137 => ?_) (fun h137 => ?_)
                          · have hstep2 : true = true ↔ m_cm u2 d d2 n = true ∧ ∀ b, b < (j + 1) → m_cm u2 d d2 b = true → m_lw u2 b n = false := ⟨fun _ => ⟨(k1.mp h73).1, lt_s (p := (fun b => m_cm u2 d d2 b = true → m_lw u2 b n = false)) (k1.mp h73).2 (fun z => absurd z (by rw [h137]; decide))⟩, fun _ => rfl⟩
                            refine lv_iconst (v := nI 1) hx hb dM_common_145 (by decide +kernel) ?_
                            refine lv_goto hx hb dM_common_146 (tgt := 150) (by decide) ?_
                            refine lv_istore (lv' := [(6, .int (nI 1)), (8, .int (nI 0)), (7, .int (nI j)), (5, .int (nI n)), (4, .int (nI q)), (0, .ref (a 0)), (1, .int (nI d)), (2, .int (nI d2)), (3, .int x)]) hx hb dM_common_150 hl (by decide) rfl (fun ls hl => ?_)
                            refine lv_iinc (k := 2) (lv' := [(7, .int (nI (j + 1))), (6, .int (nI 1)), (8, .int (nI 0)), (5, .int (nI n)), (4, .int (nI q)), (0, .ref (a 0)), (1, .int (nI d)), (2, .int (nI d2)), (3, .int x)]) hx hb dM_common_152 hl rfl (nI_1 _) (by decide) rfl (fun ls hl => ?_)
                            refine lv_goto hx hb dM_common_155 (tgt := 62) (by decide) ?_
                            exact ih62 true (j + 1) ls H locs (hstep2) (by omega) hP hD hS (by omega) (lv_sub hl [0, 1, 3, 4, 5, 6, 7, 8] rfl)
                          · have hstep2 : true = true ↔ m_cm u2 d d2 n = true ∧ ∀ b, b < (j + 1) → m_cm u2 d d2 b = true → m_lw u2 b n = false := ⟨fun _ => ⟨(k1.mp h73).1, lt_s (p := (fun b => m_cm u2 d d2 b = true → m_lw u2 b n = false)) (k1.mp h73).2 (fun _ => hlw)⟩, fun _ => rfl⟩
                            refine lv_iload hx hb dM_common_140 (lv_at hl 0 rfl) ?_
                            refine tq_zne hx hb dM_common_142 (tgt := 149) (by decide) (by omega) (fun h142 => ?_) (fun h142 => ?_)
                            · omega
                            · refine lv_iconst (v := nI 1) hx hb dM_common_145 (by decide +kernel) ?_
                              refine lv_goto hx hb dM_common_146 (tgt := 150) (by decide) ?_
                              refine lv_istore (lv' := [(6, .int (nI 1)), (8, .int (nI 0)), (7, .int (nI j)), (5, .int (nI n)), (4, .int (nI q)), (0, .ref (a 0)), (1, .int (nI d)), (2, .int (nI d2)), (3, .int x)]) hx hb dM_common_150 hl (by decide) rfl (fun ls hl => ?_)
                              refine lv_iinc (k := 2) (lv' := [(7, .int (nI (j + 1))), (6, .int (nI 1)), (8, .int (nI 0)), (5, .int (nI n)), (4, .int (nI q)), (0, .ref (a 0)), (1, .int (nI d)), (2, .int (nI d2)), (3, .int x)]) hx hb dM_common_152 hl rfl (nI_1 _) (by decide) rfl (fun ls hl => ?_)
                              refine lv_goto hx hb dM_common_155 (tgt := 62) (by decide) ?_
                              exact ih62 true (j + 1) ls H locs (hstep2) (by omega) hP hD hS (by omega) (lv_sub hl [0, 1, 3, 4, 5, 6, 7, 8] rfl)
                        · refine lv_aload_n hx hb dM_common_94 rfl (lv_at hl 4 rfl) ?_
                          refine gf_M_42 (v := .ref (a 10)) hx hb hA hown hK hP 0 rfl rfl dM_common_95 ?_
                          refine lv_iload hx hb dM_common_98 (lv_at hl 0 rfl) ?_
                          refine lv_iload hx hb dM_common_100 (lv_at hl 2 rfl) ?_
                          refine k_in ⟨hx, hb, hml, hown, hA⟩ (kw_M_84 hA rfl rfl ⟨Nat.le_trans (Nat.le_of_ble_eq_true rfl) hRf, Nat.le_trans (Nat.le_of_ble_eq_true rfl) hRl⟩) hK hP hS 10 1 rfl rfl (by omega) (by omega) (by decide) hl.1 (Nat.le_of_ble_eq_true rfl) ⟨by omega, by omega⟩ dM_common_102 (fun H locs hP hS => ?_)
                          refine tq_bf hx hb dM_common_105 (tgt := 126) (by decide) (fun h105 => ?_) (fun h105 => ?_)
                          · have hlw : m_lw u2 j n = false := m_lw_f h84 (Or.inr (Or.inl h105))
                            refine lv_iconst (v := nI 0) hx hb dM_common_126 (by decide +kernel) ?_
                            refine lv_istore (lv' := [(8, .int (nI 0)), (7, .int (nI j)), (6, .int (bI q6)), (5, .int (nI n)), (4, .int (nI q)), (0, .ref (a 0)), (1, .int (nI d)), (2, .int (nI d2)), (3, .int x)]) hx hb dM_common_127 hl (by decide) rfl (fun ls hl => ?_)
                            refine lv_aload_n hx hb dM_common_129 rfl (lv_at hl 5 rfl) ?_
                            refine lv_iload_n hx hb dM_common_130 rfl (lv_at hl 6 rfl) ?_
                            refine lv_iload_n hx hb dM_common_131 rfl (lv_at hl 7 rfl) ?_
                            refine lv_iload hx hb dM_common_132 (lv_at hl 1 rfl) ?_
                            refine ks_rv ⟨hx, hb, hml, hown, hA⟩ (m_isCommon l D a kI kL kZ u2 d d2 j (by omega) (by omega) (by omega)) (kw_M_138 hA rfl rfl ⟨Nat.le_trans (Nat.le_of_ble_eq_true rfl) hRf, Nat.le_trans (Nat.le_of_ble_eq_true rfl) hRl⟩) hK hP hS 0 5 rfl rfl rfl hl.1 (Nat.le_of_ble_eq_true rfl) ⟨by omega, by omega⟩ dM_common_134 rfl (fun H locs hP hS => ?_)
                            refine tq_i (y := bI (m_cm u2 d d2 j)) rfl ?_
                            refine tq_bf hx hb dM_common_137 (tgt := 145) (by decide) (fun h137 => ?_) (fun h137 => ?_)
                            · have hstep2 : true = true ↔ m_cm u2 d d2 n = true ∧ ∀ b, b < (j + 1) → m_cm u2 d d2 b = true → m_lw u2 b n = false := ⟨fun _ => ⟨(k1.mp h73).1, lt_s (p := (fun b => m_cm u2 d d2 b = true → m_lw u2 b n = false)) (k1.mp h73).2 (fun z => absurd z (by rw [h137]; decide))⟩, fun _ => rfl⟩
                              refine lv_iconst (v := nI 1) hx hb dM_common_145 (by decide +kernel) ?_
                              refine lv_goto hx hb dM_common_146 (tgt := 150) (by decide) ?_
                              refine lv_istore (lv' := [(6, .int (nI 1)), (8, .int (nI 0)), (7, .int (nI j)), (5, .int (nI n)), (4, .int (nI q)), (0, .ref (a 0)), (1, .int (nI d)), (2, .int (nI d2)), (3, .int x)]) hx hb dM_common_150 hl (by decide) rfl (fun ls hl => ?_)
                              refine lv_iinc (k := 2) (lv' := [(7, .int (nI (j + 1))), (6, .int (nI 1)), (8, .int (nI 0)), (5, .int (nI n)), (4, .int (nI q)), (0, .ref (a 0)), (1, .int (nI d)), (2, .int (nI d2)), (3, .int x)]) hx hb dM_common_152 hl rfl (nI_1 _) (by decide) rfl (fun ls hl => ?_)
                              refine lv_goto hx hb dM_common_155 (tgt := 62) (by decide) ?_
                              exact ih62 true (j + 1) ls H locs (hstep2) (by omega) hP hD hS (by omega) (lv_sub hl [0, 1, 3, 4, 5, 6, 7, 8] rfl)
                            · have hstep2 : true = true ↔ m_cm u2 d d2 n = true ∧ ∀ b, b < (j + 1) → m_cm u2 d d2 b = true → m_lw u2 b n = false := ⟨fun _ => ⟨(k1.mp h73).1, lt_s (p := (fun b => m_cm u2 d d2 b = true → m_lw u2 b n = false)) (k1.mp h73).2 (fun _ => hlw)⟩, fun _ => rfl⟩
                              refine lv_iload hx hb dM_common_140 (lv_at hl 0 rfl) ?_
                              refine tq_zne hx hb dM_common_142 (tgt := 149) (by decide) (by omega) (fun h142 => ?_) (fun h142 => ?_)
                              · omega
                              · refine lv_iconst (v := nI 1) hx hb dM_common_145 (by decide +kernel) ?_
                                refine lv_goto hx hb dM_common_146 (tgt := 150) (by decide) ?_
                                refine lv_istore (lv' := [(6, .int (nI 1)), (8, .int (nI 0)), (7, .int (nI j)), (5, .int (nI n)), (4, .int (nI q)), (0, .ref (a 0)), (1, .int (nI d)), (2, .int (nI d2)), (3, .int x)]) hx hb dM_common_150 hl (by decide) rfl (fun ls hl => ?_)
                                refine lv_iinc (k := 2) (lv' := [(7, .int (nI (j + 1))), (6, .int (nI 1)), (8, .int (nI 0)), (5, .int (nI n)), (4, .int (nI q)), (0, .ref (a 0)), (1, .int (nI d)), (2, .int (nI d2)), (3, .int x)]) hx hb dM_common_152 hl rfl (nI_1 _) (by decide) rfl (fun ls hl => ?_)
                                refine lv_goto hx hb dM_common_155 (tgt := 62) (by decide) ?_
                                exact ih62 true (j + 1) ls H locs (hstep2) (by omega) hP hD hS (by omega) (lv_sub hl [0, 1, 3, 4, 5, 6, 7, 8] rfl)
                          · refine lv_aload_n hx hb dM_common_108 rfl (lv_at hl 4 rfl) ?_
                            refine gf_M_42 (v := .ref (a 10)) hx hb hA hown hK hP 0 rfl rfl dM_common_109 ?_
                            refine lv_iload hx hb dM_common_112 (lv_at hl 2 rfl) ?_
                            refine lv_iload hx hb dM_common_114 (lv_at hl 0 rfl) ?_
                            refine k_in ⟨hx, hb, hml, hown, hA⟩ (kw_M_84 hA rfl rfl ⟨Nat.le_trans (Nat.le_of_ble_eq_true rfl) hRf, Nat.le_trans (Nat.le_of_ble_eq_true rfl) hRl⟩) hK hP hS 10 1 rfl rfl (by omega) (by omega) (by decide) hl.1 (Nat.le_of_ble_eq_true rfl) ⟨by omega, by omega⟩ dM_common_116 (fun H locs hP hS => ?_)
                            refine tq_bf hx hb dM_common_119 (tgt := 126) (by decide) (fun h119 => ?_) (fun h119 => ?_)
                            · have hlw : m_lw u2 j n = false := m_lw_f h84 (Or.inr (Or.inr h119))
                              refine lv_iconst (v := nI 0) hx hb dM_common_126 (by decide +kernel) ?_
                              refine lv_istore (lv' := [(8, .int (nI 0)), (7, .int (nI j)), (6, .int (bI q6)), (5, .int (nI n)), (4, .int (nI q)), (0, .ref (a 0)), (1, .int (nI d)), (2, .int (nI d2)), (3, .int x)]) hx hb dM_common_127 hl (by decide) rfl (fun ls hl => ?_)
                              refine lv_aload_n hx hb dM_common_129 rfl (lv_at hl 5 rfl) ?_
                              refine lv_iload_n hx hb dM_common_130 rfl (lv_at hl 6 rfl) ?_
                              refine lv_iload_n hx hb dM_common_131 rfl (lv_at hl 7 rfl) ?_
                              refine lv_iload hx hb dM_common_132 (lv_at hl 1 rfl) ?_
                              refine ks_rv ⟨hx, hb, hml, hown, hA⟩ (m_isCommon l D a kI kL kZ u2 d d2 j (by omega) (by omega) (by omega)) (kw_M_138 hA rfl rfl ⟨Nat.le_trans (Nat.le_of_ble_eq_true rfl) hRf, Nat.le_trans (Nat.le_of_ble_eq_true rfl) hRl⟩) hK hP hS 0 5 rfl rfl rfl hl.1 (Nat.le_of_ble_eq_true rfl) ⟨by omega, by omega⟩ dM_common_134 rfl (fun H locs hP hS => ?_)
                              refine tq_i (y := bI (m_cm u2 d d2 j)) rfl ?_
                              refine tq_bf hx hb dM_common_137 (tgt := 145) (by decide) (fun h137 => ?_) (fun h137 => ?_)
                              · have hstep2 : true = true ↔ m_cm u2 d d2 n = true ∧ ∀ b, b < (j + 1) → m_cm u2 d d2 b = true → m_lw u2 b n = false := ⟨fun _ => ⟨(k1.mp h73).1, lt_s (p := (fun b => m_cm u2 d d2 b = true → m_lw u2 b n = false)) (k1.mp h73).2 (fun z => absurd z (by rw [h137]; decide))⟩, fun _ => rfl⟩
                                refine lv_iconst (v := nI 1) hx hb dM_common_145 (by decide +kernel) ?_
                                refine lv_goto hx hb dM_common_146 (tgt := 150) (by decide) ?_
                                refine lv_istore (lv' := [(6, .int (nI 1)), (8, .int (nI 0)), (7, .int (nI j)), (5, .int (nI n)), (4, .int (nI q)), (0, .ref (a 0)), (1, .int (nI d)), (2, .int (nI d2)), (3, .int x)]) hx hb dM_common_150 hl (by decide) rfl (fun ls hl => ?_)
                                refine lv_iinc (k := 2) (lv' := [(7, .int (nI (j + 1))), (6, .int (nI 1)), (8, .int (nI 0)), (5, .int (nI n)), (4, .int (nI q)), (0, .ref (a 0)), (1, .int (nI d)), (2, .int (nI d2)), (3, .int x)]) hx hb dM_common_152 hl rfl (nI_1 _) (by decide) rfl (fun ls hl => ?_)
                                refine lv_goto hx hb dM_common_155 (tgt := 62) (by decide) ?_
                                exact ih62 true (j + 1) ls H locs (hstep2) (by omega) hP hD hS (by omega) (lv_sub hl [0, 1, 3, 4, 5, 6, 7, 8] rfl)
                              · have hstep2 : true = true ↔ m_cm u2 d d2 n = true ∧ ∀ b, b < (j + 1) → m_cm u2 d d2 b = true → m_lw u2 b n = false := ⟨fun _ => ⟨(k1.mp h73).1, lt_s (p := (fun b => m_cm u2 d d2 b = true → m_lw u2 b n = false)) (k1.mp h73).2 (fun _ => hlw)⟩, fun _ => rfl⟩
                                refine lv_iload hx hb dM_common_140 (lv_at hl 0 rfl) ?_
                                refine tq_zne hx hb dM_common_142 (tgt := 149) (by decide) (by omega) (fun h142 => ?_) (fun h142 => ?_)
                                · omega
                                · refine lv_iconst (v := nI 1) hx hb dM_common_145 (by decide +kernel) ?_
                                  refine lv_goto hx hb dM_common_146 (tgt := 150) (by decide) ?_
                                  refine lv_istore (lv' := [(6, .int (nI 1)), (8, .int (nI 0)), (7, .int (nI j)), (5, .int (nI n)), (4, .int (nI q)), (0, .ref (a 0)), (1, .int (nI d)), (2, .int (nI d2)), (3, .int x)]) hx hb dM_common_150 hl (by decide) rfl (fun ls hl => ?_)
                                  refine lv_iinc (k := 2) (lv' := [(7, .int (nI (j + 1))), (6, .int (nI 1)), (8, .int (nI 0)), (5, .int (nI n)), (4, .int (nI q)), (0, .ref (a 0)), (1, .int (nI d)), (2, .int (nI d2)), (3, .int x)]) hx hb dM_common_152 hl rfl (nI_1 _) (by decide) rfl (fun ls hl => ?_)
                                  refine lv_goto hx hb dM_common_155 (tgt := 62) (by decide) ?_
                                  exact ih62 true (j + 1) ls H locs (hstep2) (by omega) hP hD hS (by omega) (lv_sub hl [0, 1, 3, 4, 5, 6, 7, 8] rfl)
                            · have hlw : m_lw u2 j n = true := by unfold m_lw; rw [decide_eq_true h91, h105, h119, h84]; rfl
                              refine lv_iconst (v := nI 1) hx hb dM_common_122 (by decide +kernel) ?_
                              refine lv_goto hx hb dM_common_123 (tgt := 127) (by decide) ?_
                              refine lv_istore (lv' := [(8, .int (nI 1)), (7, .int (nI j)), (6, .int (bI q6)), (5, .int (nI n)), (4, .int (nI q)), (0, .ref (a 0)), (1, .int (nI d)), (2, .int (nI d2)), (3, .int x)]) hx hb dM_common_127 hl (by decide) rfl (fun ls hl => ?_)
                              refine lv_aload_n hx hb dM_common_129 rfl (lv_at hl 5 rfl) ?_
                              refine lv_iload_n hx hb dM_common_130 rfl (lv_at hl 6 rfl) ?_
                              refine lv_iload_n hx hb dM_common_131 rfl (lv_at hl 7 rfl) ?_
                              refine lv_iload hx hb dM_common_132 (lv_at hl 1 rfl) ?_
                              refine ks_rv ⟨hx, hb, hml, hown, hA⟩ (m_isCommon l D a kI kL kZ u2 d d2 j (by omega) (by omega) (by omega)) (kw_M_138 hA rfl rfl ⟨Nat.le_trans (Nat.le_of_ble_eq_true rfl) hRf, Nat.le_trans (Nat.le_of_ble_eq_true rfl) hRl⟩) hK hP hS 0 5 rfl rfl rfl hl.1 (Nat.le_of_ble_eq_true rfl) ⟨by omega, by omega⟩ dM_common_134 rfl (fun H locs hP hS => ?_)
                              refine tq_i (y := bI (m_cm u2 d d2 j)) rfl ?_
                              refine tq_bf hx hb dM_common_137 (tgt := 145) (by decide) (fun h137 => ?_) (fun h137 => ?_)
                              · have hstep2 : true = true ↔ m_cm u2 d d2 n = true ∧ ∀ b, b < (j + 1) → m_cm u2 d d2 b = true → m_lw u2 b n = false := ⟨fun _ => ⟨(k1.mp h73).1, lt_s (p := (fun b => m_cm u2 d d2 b = true → m_lw u2 b n = false)) (k1.mp h73).2 (fun z => absurd z (by rw [h137]; decide))⟩, fun _ => rfl⟩
                                refine lv_iconst (v := nI 1) hx hb dM_common_145 (by decide +kernel) ?_
                                refine lv_goto hx hb dM_common_146 (tgt := 150) (by decide) ?_
                                refine lv_istore (lv' := [(6, .int (nI 1)), (8, .int (nI 1)), (7, .int (nI j)), (5, .int (nI n)), (4, .int (nI q)), (0, .ref (a 0)), (1, .int (nI d)), (2, .int (nI d2)), (3, .int x)]) hx hb dM_common_150 hl (by decide) rfl (fun ls hl => ?_)
                                refine lv_iinc (k := 2) (lv' := [(7, .int (nI (j + 1))), (6, .int (nI 1)), (8, .int (nI 1)), (5, .int (nI n)), (4, .int (nI q)), (0, .ref (a 0)), (1, .int (nI d)), (2, .int (nI d2)), (3, .int x)]) hx hb dM_common_152 hl rfl (nI_1 _) (by decide) rfl (fun ls hl => ?_)
                                refine lv_goto hx hb dM_common_155 (tgt := 62) (by decide) ?_
                                exact ih62 true (j + 1) ls H locs (hstep2) (by omega) hP hD hS (by omega) (lv_sub hl [0, 1, 3, 4, 5, 6, 7, 8] rfl)
                              · have hstep2 : false = true ↔ m_cm u2 d d2 n = true ∧ ∀ b, b < (j + 1) → m_cm u2 d d2 b = true → m_lw u2 b n = false := ⟨fun z => absurd z (by decide), fun z => absurd (z.2 j (by omega) h137) (by rw [hlw]; decide)⟩
                                refine lv_iload hx hb dM_common_140 (lv_at hl 0 rfl) ?_
                                refine tq_zne hx hb dM_common_142 (tgt := 149) (by decide) (by omega) (fun h142 => ?_) (fun h142 => ?_)
                                · refine lv_iconst (v := nI 0) hx hb dM_common_149 (by decide +kernel) ?_
                                  refine lv_istore (lv' := [(6, .int (nI 0)), (8, .int (nI 1)), (7, .int (nI j)), (5, .int (nI n)), (4, .int (nI q)), (0, .ref (a 0)), (1, .int (nI d)), (2, .int (nI d2)), (3, .int x)]) hx hb dM_common_150 hl (by decide) rfl (fun ls hl => ?_)
                                  refine lv_iinc (k := 2) (lv' := [(7, .int (nI (j + 1))), (6, .int (nI 0)), (8, .int (nI 1)), (5, .int (nI n)), (4, .int (nI q)), (0, .ref (a 0)), (1, .int (nI d)), (2, .int (nI d2)), (3, .int x)]) hx hb dM_common_152 hl rfl (nI_1 _) (by decide) rfl (fun ls hl => ?_)
                                  refine lv_goto hx hb dM_common_155 (tgt := 62) (by decide) ?_
                                  exact ih62 false (j + 1) ls H locs (hstep2) (by omega) hP hD hS (by omega) (lv_sub hl [0, 1, 3, 4, 5, 6, 7, 8] rfl)
                                · omega
              exact lp2 _ (m_cm u2 d d2 n) 2 ls _ _ ⟨fun z => ⟨z, fun b hb q => absurd q (by rw [show m_cm u2 d d2 b = false from and_f (and_f (hlo b hb))]; decide)⟩, fun z => z.1⟩ (by omega) hP hD hS (Nat.lt_succ_self _) (lv_sub hl [0, 1, 2, 3, 4, 5, 6, 7] rfl)
        exact lp _ 0 2 ls _ _ hlo2.symm (by omega) (fun b hb z => absurd z (by rw [show (m_co u2 N d d2) b = false from and_f (and_f (and_f (hlo b hb)))]; decide)) hP hD hS (Nat.lt_succ_self _) (lv_sub hl [0, 1, 2, 3, 4, 5] rfl)
      · omega
    · exact absurd h14 (by rw [t2]; decide)
set_option maxHeartbeats 4000000 in
set_option maxRecDepth 100000 in
/-- m_count0 -/
theorem m_count0 (l : Launch) (D : va_G) (a : Nat → Nat) (kI kL kZ : ClassId) (u : sU) (N : Nat) (kd fa fb : Nat → Nat) (T : Nat) (so xa xb xc : Nat → Nat) (F : Nat → Prop) (M : Nat) (rs : Nat → Nat) (hin : m_inv u N kd fa fb T so xa xb xc F M rs)  : Met l yM_count (wM_count :: wA) ({ frames := 5, cells := 0, slots := 0, locals := 118 }) (va_Pc [.ref (a 0), .int (nI 0)] (tq_wB D vwA (mW a kI kL kZ u) (sT kI kL kZ))) (va_Qi (fun r (u' : sU) => (r = nI N) ∧ m_inv u' N kd fa fb T so xa xb xc F M rs ∧ u'.2.2 0 = 0 ∧ u'.2.2 3 = 1) (fun u' t => va_P D vwA (mW a kI kL kZ u') t.heap) (mA a)) 0 0 (mA a) := by
  refine Met.ofW (cc := bM_count) (maxL := 4) (ret := (some .int)) (by decide +kernel) rfl ?_
  intro p e s m args below meth c s₁ B1 hml hv
  obtain ⟨rfl, hP, hK, hD0⟩ := hv
  have hx := B1.exec
  have hb := B1.bytes
  have hr := B1.returns
  have hA : ∀ w ∈ wA, w.before ([.ref (a 0), .int (nI 0)] : List Value).toArray s = true := fun w h => atoms_spec (ws := wM_count :: wA) B1.pre w (List.mem_cons_of_mem _ h)
  have hown : s.vm.findClass RcM = some m.cls := findClass_of_methodNamed B1.named
  have hlocks := B1.notSynchronized
  have hS : va_S (mA a) s.heap s.heap [] := va_S.rf
  have hl := lv_entry ([.ref (a 0), .int (nI 0)]) (n := 4) (Nat.le_of_ble_eq_true rfl)
  rw [lg_entry_eq]
  generalize (lg_sl ([.ref (a 0), .int (nI 0)]) ++ List.replicate (4 - (lg_sl ([.ref (a 0), .int (nI 0)])).length) Slot.unset).toArray = ls at hl ⊢
  have hl : lv_has ls 4 [(0, .ref (a 0)), (1, .int (nI 0))] := hl
  refine tq_gen (fun R Q hRe hQe => ?_)
  have hRf : 5 ≤ R.frames := by rw [hRe]; exact Nat.le_of_ble_eq_true rfl
  have hRl : 118 ≤ R.locals := by rw [hRe]; exact Nat.le_of_ble_eq_true rfl
  have hRc : 0 ≤ R.cells := by rw [hRe]; exact Nat.le_of_ble_eq_true rfl
  have hRs : 0 ≤ R.slots := by rw [hRe]; exact Nat.le_of_ble_eq_true rfl
  have hD := mA_D hD0
  have hta := hin.1
  have hN := mt_N hta
  refine lv_aload_n hx hb dM_count_0 rfl (lv_at hl 0 rfl) ?_
  refine lv_iconst (v := nI 0) hx hb dM_count_1 (by decide +kernel) ?_
  refine pf_M_55 (v := .int (nI 0)) hx hb hA hown hK hP hD hS 0 rfl rfl rfl (Nat.le_of_ble_eq_true rfl) dM_count_2 (fun H locs hP hD hS => ?_)
  have hP : va_P D vwA (mW a kI kL kZ (u.1, u.2.1, va_up u.2.2 0 0)) H := hP
  have hD : va_D (mA a) (mW a kI kL kZ (u.1, u.2.1, va_up u.2.2 0 0)) := hD
  have hinz : m_inv (m_thr u 0) N kd fa fb T so xa xb xc F M rs := hin
  have hNz := mt_N hinz.1
  have hzz : (m_thr u 0).2.2 0 = 0 := rfl
  have hP : va_P D vwA (mW a kI kL kZ (m_thr u 0)) H := hP
  have hD : va_D (mA a) (mW a kI kL kZ (m_thr u 0)) := hD
  refine lv_aload_n hx hb dM_count_5 rfl (lv_at hl 0 rfl) ?_
  refine ks_v (wf := mW a kI kL kZ) (u := (m_thr u 0)) ⟨hx, hb, hml, hown, hA⟩ (m_close l D a kI kL kZ (m_thr u 0) N kd fa fb T so xa xb xc hinz.1 F hinz.2.1 hinz.2.2.1 hinz.2.2.2.1 hinz.2.2.2.2.1 hinz.2.2.2.2.2.1) (kw_M_127 hA rfl rfl ⟨Nat.le_trans (Nat.le_of_ble_eq_true rfl) hRf, Nat.le_trans (Nat.le_of_ble_eq_true rfl) hRl⟩) hK hP hD hS (fun _ h => h) (fun u' => mW_adr u') 0 5 rfl rfl rfl hl.1 (Nat.le_of_ble_eq_true rfl) ⟨by omega, by omega⟩ dM_count_6 rfl (fun u1 H locs hu1 hP hD hS => ?_)
  have hinu1 := cls_inv hinz hu1
  have hNu1 := mt_N hinu1.1
  have hzu1 : u1.2.2 0 = 0 := (hu1.2.1 0 (by decide) (by decide)).trans hzz
  have hc3 := hu1.2.2.1
  have hfl := hu1.2.2.2.2
  refine lv_iconst (v := nI 0) hx hb dM_count_9 (by decide +kernel) ?_
  refine lv_istore_n (lv' := [(2, .int (nI 0)), (0, .ref (a 0)), (1, .int (nI 0))]) hx hb dM_count_10 rfl hl (by decide) rfl (fun ls hl => ?_)
  refine lv_iconst (v := nI 0) hx hb dM_count_11 (by decide +kernel) ?_
  refine lv_istore_n (lv' := [(3, .int (nI 0)), (2, .int (nI 0)), (0, .ref (a 0)), (1, .int (nI 0))]) hx hb dM_count_12 rfl hl (by decide) rfl (fun ls hl => ?_)
  have lp : ∀ (fu : Nat) (q n : Nat) (ls : Array Slot) (H : Heap) (locs : List Loc), q = tm_cnt (fun _ => false) n → n ≤ N → va_P D vwA (mW a kI kL kZ u1) H → va_D (mA a) (mW a kI kL kZ u1) → va_S (mA a) s.heap H locs → N - n < fu → lv_has ls 4 [(3, .int (nI n)), (2, .int (nI q)), (0, .ref (a 0)), (1, .int (nI 0))] → W p l e R s m ([.ref (a 0), .int (nI 0)] : List Value).toArray below meth c H locs 0 0 Q (F0 m 13 ls []) := by
    intro fu
    induction fu with
    | zero => intros; omega
    | succ fu ih13 =>
      intro q n ls H locs g1 g2 hP hD hS hfu hl
      refine lv_iload_n hx hb dM_count_13 rfl (lv_at hl 0 rfl) ?_
      refine lv_aload_n hx hb dM_count_14 rfl (lv_at hl 2 rfl) ?_
      refine gf_M_7 (v := .int (nI (u1.2.2 1))) hx hb hA hown hK hP 0 rfl rfl dM_count_15 ?_
      refine tq_ge hx hb dM_count_18 (tgt := 98) (by decide) (by omega) (by omega) (fun h18 => ?_) (fun h18 => ?_)
      · refine lv_iconst (v := nI 1) hx hb dM_count_98 (by decide +kernel) ?_
        refine lv_istore_n (lv' := [(3, .int (nI 1)), (2, .int (nI q)), (0, .ref (a 0)), (1, .int (nI 0))]) hx hb dM_count_99 rfl hl (by decide) rfl (fun ls hl => ?_)
        have lp2 : ∀ (fu : Nat) (q2 k : Nat) (ls : Array Slot) (H : Heap) (locs : List Loc), q2 = tm_cnt (fun _ => false) N → k ≤ 1 → va_P D vwA (mW a kI kL kZ u1) H → va_D (mA a) (mW a kI kL kZ u1) → va_S (mA a) s.heap H locs → 0 < fu → lv_has ls 4 [(3, .int (nI k)), (2, .int (nI q2)), (0, .ref (a 0)), (1, .int (nI 0))] → W p l e R s m ([.ref (a 0), .int (nI 0)] : List Value).toArray below meth c H locs 0 0 Q (F0 m 100 ls []) := by
          intro fu
          induction fu with
          | zero => intros; omega
          | succ fu ih100 =>
            intro q2 k ls H locs k1 k3 hP hD hS hfu hl
            refine lv_iload_n hx hb dM_count_100 rfl (lv_at hl 0 rfl) ?_
            refine lv_aload_n hx hb dM_count_101 rfl (lv_at hl 2 rfl) ?_
            refine gf_M_77 (v := .int (nI (u1.2.2 2))) hx hb hA hown hK hP 0 rfl rfl dM_count_102 ?_
            refine tq_gt hx hb dM_count_105 (tgt := 136) (by decide) (by omega) (by omega) (fun h105 => ?_) (fun h105 => ?_)
            · refine lv_iload_n hx hb dM_count_136 rfl (lv_at hl 3 rfl) ?_
              refine tq_zne hx hb dM_count_137 (tgt := 147) (by decide) (by omega) (fun h137 => ?_) (fun h137 => ?_)
              · omega
              · refine lv_aload_n hx hb dM_count_140 rfl (lv_at hl 2 rfl) ?_
                refine gf_M_7 (v := .int (nI (u1.2.2 1))) hx hb hA hown hK hP 0 rfl rfl dM_count_141 ?_
                refine lv_goto hx hb dM_count_144 (tgt := 186) (by decide) ?_
                subst hQe
                exact W.iret (v := nI (u1.2.2 1)) hx hb hr (fun t ht hW => ⟨⟨_, u1, rfl, ⟨by rw [hNu1.1], hinu1, hzu1, hc3⟩, tq_hp ht hP⟩, hS.F ht⟩) hS.2.2 dM_count_186
            · refine lv_iload_n hx hb dM_count_108 rfl (lv_at hl 3 rfl) ?_
              refine lv_iconst (v := nI 3) hx hb dM_count_109 (by decide +kernel) ?_
              refine tq_ne hx hb dM_count_110 (tgt := 136) (by decide) (by omega) (by omega) (fun h110 => ?_) (fun h110 => ?_)
              · refine lv_iload_n hx hb dM_count_136 rfl (lv_at hl 3 rfl) ?_
                refine tq_zne hx hb dM_count_137 (tgt := 147) (by decide) (by omega) (fun h137 => ?_) (fun h137 => ?_)
                · omega
                · refine lv_aload_n hx hb dM_count_140 rfl (lv_at hl 2 rfl) ?_
                  refine gf_M_7 (v := .int (nI (u1.2.2 1))) hx hb hA hown hK hP 0 rfl rfl dM_count_141 ?_
                  refine lv_goto hx hb dM_count_144 (tgt := 186) (by decide) ?_
                  subst hQe
                  exact W.iret (v := nI (u1.2.2 1)) hx hb hr (fun t ht hW => ⟨⟨_, u1, rfl, ⟨by rw [hNu1.1], hinu1, hzu1, hc3⟩, tq_hp ht hP⟩, hS.F ht⟩) hS.2.2 dM_count_186
              · omega
        exact lp2 _ q 1 ls _ _ (by rw [g1, show n = N by omega]) (by omega) hP hD hS (Nat.lt_succ_self _) (lv_sub hl [0, 1, 2, 3] rfl)
      · refine lv_iload_n hx hb dM_count_21 rfl (lv_at hl 1 rfl) ?_
        refine lv_iload_n hx hb dM_count_22 rfl (lv_at hl 3 rfl) ?_
        refine lv_iconst (v := nI 1) hx hb dM_count_23 (by decide +kernel) ?_
        refine tq_ne hx hb dM_count_24 (tgt := 45) (by decide) (by omega) (by omega) (fun h24 => ?_) (fun h24 => ?_)
        · refine lv_iload_n hx hb dM_count_45 rfl (lv_at hl 3 rfl) ?_
          refine lv_iconst (v := nI 5) hx hb dM_count_46 (by decide +kernel) ?_
          refine tq_ne hx hb dM_count_47 (tgt := 70) (by decide) (by omega) (by omega) (fun h47 => ?_) (fun h47 => ?_)
          · refine lv_iload_n hx hb dM_count_70 rfl (lv_at hl 3 rfl) ?_
            refine lv_bipush (v := nI 6) hx hb dM_count_71 (by decide +kernel) ?_
            refine tq_ne hx hb dM_count_73 (tgt := 89) (by decide) (by omega) (by omega) (fun h73 => ?_) (fun h73 => ?_)
            · have hstep : q + 0 = tm_cnt (fun _ => false) (n + 1) := by rw [cnt_no (p := (fun _ => false)) (n := n) rfl]; exact g1
              refine lv_iconst (v := nI 0) hx hb dM_count_89 (by decide +kernel) ?_
              refine tq_iadd hx hb dM_count_90 ?_
              refine lv_istore_n (lv' := [(2, .int (nI (q + 0))), (3, .int (nI n)), (0, .ref (a 0)), (1, .int (nI 0))]) hx hb dM_count_91 rfl hl (by decide) rfl (fun ls hl => ?_)
              refine lv_iinc (k := 1) (lv' := [(3, .int (nI (n + 1))), (2, .int (nI (q + 0))), (0, .ref (a 0)), (1, .int (nI 0))]) hx hb dM_count_92 hl rfl (nI_1 _) (by decide) rfl (fun ls hl => ?_)
              refine lv_goto hx hb dM_count_95 (tgt := 13) (by decide) ?_
              exact ih13 (q + 0) (n + 1) ls H locs (hstep) (by omega) hP hD hS (by omega) (lv_sub hl [0, 1, 2, 3] rfl)
            · omega
          · omega
        · omega
  exact lp _ 0 0 ls _ _ rfl (by omega) hP hD hS (Nat.lt_succ_self _) (lv_sub hl [0, 1, 2, 3] rfl)
set_option maxHeartbeats 4000000 in
set_option maxRecDepth 100000 in
/-- m_count1 -/
theorem m_count1 (l : Launch) (D : va_G) (a : Nat → Nat) (kI kL kZ : ClassId) (u : sU) (N : Nat) (kd fa fb : Nat → Nat) (T : Nat) (so xa xb xc : Nat → Nat) (F : Nat → Prop) (M : Nat) (rs : Nat → Nat) (hin : m_inv u N kd fa fb T so xa xb xc F M rs)  : Met l yM_count (wM_count :: wA) ({ frames := 5, cells := 0, slots := 0, locals := 118 }) (va_Pc [.ref (a 0), .int (nI 1)] (tq_wB D vwA (mW a kI kL kZ u) (sT kI kL kZ))) (va_Qi (fun r (u' : sU) => (r = nI (tm_cnt (m_nm u') N)) ∧ m_inv u' N kd fa fb T so xa xb xc F M rs ∧ u'.2.2 0 = 0 ∧ u'.2.2 3 = 1) (fun u' t => va_P D vwA (mW a kI kL kZ u') t.heap) (mA a)) 0 0 (mA a) := by
  refine Met.ofW (cc := bM_count) (maxL := 4) (ret := (some .int)) (by decide +kernel) rfl ?_
  intro p e s m args below meth c s₁ B1 hml hv
  obtain ⟨rfl, hP, hK, hD0⟩ := hv
  have hx := B1.exec
  have hb := B1.bytes
  have hr := B1.returns
  have hA : ∀ w ∈ wA, w.before ([.ref (a 0), .int (nI 1)] : List Value).toArray s = true := fun w h => atoms_spec (ws := wM_count :: wA) B1.pre w (List.mem_cons_of_mem _ h)
  have hown : s.vm.findClass RcM = some m.cls := findClass_of_methodNamed B1.named
  have hlocks := B1.notSynchronized
  have hS : va_S (mA a) s.heap s.heap [] := va_S.rf
  have hl := lv_entry ([.ref (a 0), .int (nI 1)]) (n := 4) (Nat.le_of_ble_eq_true rfl)
  rw [lg_entry_eq]
  generalize (lg_sl ([.ref (a 0), .int (nI 1)]) ++ List.replicate (4 - (lg_sl ([.ref (a 0), .int (nI 1)])).length) Slot.unset).toArray = ls at hl ⊢
  have hl : lv_has ls 4 [(0, .ref (a 0)), (1, .int (nI 1))] := hl
  refine tq_gen (fun R Q hRe hQe => ?_)
  have hRf : 5 ≤ R.frames := by rw [hRe]; exact Nat.le_of_ble_eq_true rfl
  have hRl : 118 ≤ R.locals := by rw [hRe]; exact Nat.le_of_ble_eq_true rfl
  have hRc : 0 ≤ R.cells := by rw [hRe]; exact Nat.le_of_ble_eq_true rfl
  have hRs : 0 ≤ R.slots := by rw [hRe]; exact Nat.le_of_ble_eq_true rfl
  have hD := mA_D hD0
  have hta := hin.1
  have hN := mt_N hta
  refine lv_aload_n hx hb dM_count_0 rfl (lv_at hl 0 rfl) ?_
  refine lv_iconst (v := nI 0) hx hb dM_count_1 (by decide +kernel) ?_
  refine pf_M_55 (v := .int (nI 0)) hx hb hA hown hK hP hD hS 0 rfl rfl rfl (Nat.le_of_ble_eq_true rfl) dM_count_2 (fun H locs hP hD hS => ?_)
  have hP : va_P D vwA (mW a kI kL kZ (u.1, u.2.1, va_up u.2.2 0 0)) H := hP
  have hD : va_D (mA a) (mW a kI kL kZ (u.1, u.2.1, va_up u.2.2 0 0)) := hD
  have hinz : m_inv (m_thr u 0) N kd fa fb T so xa xb xc F M rs := hin
  have hNz := mt_N hinz.1
  have hzz : (m_thr u 0).2.2 0 = 0 := rfl
  have hP : va_P D vwA (mW a kI kL kZ (m_thr u 0)) H := hP
  have hD : va_D (mA a) (mW a kI kL kZ (m_thr u 0)) := hD
  refine lv_aload_n hx hb dM_count_5 rfl (lv_at hl 0 rfl) ?_
  refine ks_v (wf := mW a kI kL kZ) (u := (m_thr u 0)) ⟨hx, hb, hml, hown, hA⟩ (m_close l D a kI kL kZ (m_thr u 0) N kd fa fb T so xa xb xc hinz.1 F hinz.2.1 hinz.2.2.1 hinz.2.2.2.1 hinz.2.2.2.2.1 hinz.2.2.2.2.2.1) (kw_M_127 hA rfl rfl ⟨Nat.le_trans (Nat.le_of_ble_eq_true rfl) hRf, Nat.le_trans (Nat.le_of_ble_eq_true rfl) hRl⟩) hK hP hD hS (fun _ h => h) (fun u' => mW_adr u') 0 5 rfl rfl rfl hl.1 (Nat.le_of_ble_eq_true rfl) ⟨by omega, by omega⟩ dM_count_6 rfl (fun u1 H locs hu1 hP hD hS => ?_)
  have hinu1 := cls_inv hinz hu1
  have hNu1 := mt_N hinu1.1
  have hzu1 : u1.2.2 0 = 0 := (hu1.2.1 0 (by decide) (by decide)).trans hzz
  have hc3 := hu1.2.2.1
  have hfl := hu1.2.2.2.2
  refine lv_iconst (v := nI 0) hx hb dM_count_9 (by decide +kernel) ?_
  refine lv_istore_n (lv' := [(2, .int (nI 0)), (0, .ref (a 0)), (1, .int (nI 1))]) hx hb dM_count_10 rfl hl (by decide) rfl (fun ls hl => ?_)
  refine lv_iconst (v := nI 0) hx hb dM_count_11 (by decide +kernel) ?_
  refine lv_istore_n (lv' := [(3, .int (nI 0)), (2, .int (nI 0)), (0, .ref (a 0)), (1, .int (nI 1))]) hx hb dM_count_12 rfl hl (by decide) rfl (fun ls hl => ?_)
  have lp : ∀ (fu : Nat) (q n : Nat) (ls : Array Slot) (H : Heap) (locs : List Loc), q = tm_cnt (m_nm u1) n → n ≤ N → va_P D vwA (mW a kI kL kZ u1) H → va_D (mA a) (mW a kI kL kZ u1) → va_S (mA a) s.heap H locs → N - n < fu → lv_has ls 4 [(3, .int (nI n)), (2, .int (nI q)), (0, .ref (a 0)), (1, .int (nI 1))] → W p l e R s m ([.ref (a 0), .int (nI 1)] : List Value).toArray below meth c H locs 0 0 Q (F0 m 13 ls []) := by
    intro fu
    induction fu with
    | zero => intros; omega
    | succ fu ih13 =>
      intro q n ls H locs g1 g2 hP hD hS hfu hl
      refine lv_iload_n hx hb dM_count_13 rfl (lv_at hl 0 rfl) ?_
      refine lv_aload_n hx hb dM_count_14 rfl (lv_at hl 2 rfl) ?_
      refine gf_M_7 (v := .int (nI (u1.2.2 1))) hx hb hA hown hK hP 0 rfl rfl dM_count_15 ?_
      refine tq_ge hx hb dM_count_18 (tgt := 98) (by decide) (by omega) (by omega) (fun h18 => ?_) (fun h18 => ?_)
      · refine lv_iconst (v := nI 1) hx hb dM_count_98 (by decide +kernel) ?_
        refine lv_istore_n (lv' := [(3, .int (nI 1)), (2, .int (nI q)), (0, .ref (a 0)), (1, .int (nI 1))]) hx hb dM_count_99 rfl hl (by decide) rfl (fun ls hl => ?_)
        have lp2 : ∀ (fu : Nat) (q2 k : Nat) (ls : Array Slot) (H : Heap) (locs : List Loc), q2 = tm_cnt (m_nm u1) N → k ≤ 1 → va_P D vwA (mW a kI kL kZ u1) H → va_D (mA a) (mW a kI kL kZ u1) → va_S (mA a) s.heap H locs → 0 < fu → lv_has ls 4 [(3, .int (nI k)), (2, .int (nI q2)), (0, .ref (a 0)), (1, .int (nI 1))] → W p l e R s m ([.ref (a 0), .int (nI 1)] : List Value).toArray below meth c H locs 0 0 Q (F0 m 100 ls []) := by
          intro fu
          induction fu with
          | zero => intros; omega
          | succ fu ih100 =>
            intro q2 k ls H locs k1 k3 hP hD hS hfu hl
            refine lv_iload_n hx hb dM_count_100 rfl (lv_at hl 0 rfl) ?_
            refine lv_aload_n hx hb dM_count_101 rfl (lv_at hl 2 rfl) ?_
            refine gf_M_77 (v := .int (nI (u1.2.2 2))) hx hb hA hown hK hP 0 rfl rfl dM_count_102 ?_
            refine tq_gt hx hb dM_count_105 (tgt := 136) (by decide) (by omega) (by omega) (fun h105 => ?_) (fun h105 => ?_)
            · refine lv_iload_n hx hb dM_count_136 rfl (lv_at hl 3 rfl) ?_
              refine tq_zne hx hb dM_count_137 (tgt := 147) (by decide) (by omega) (fun h137 => ?_) (fun h137 => ?_)
              · refine lv_iload_n hx hb dM_count_147 rfl (lv_at hl 3 rfl) ?_
                refine lv_iconst (v := nI 2) hx hb dM_count_148 (by decide +kernel) ?_
                refine tq_ne hx hb dM_count_149 (tgt := 159) (by decide) (by omega) (by omega) (fun h149 => ?_) (fun h149 => ?_)
                · refine lv_iload_n hx hb dM_count_159 rfl (lv_at hl 3 rfl) ?_
                  refine lv_iconst (v := nI 4) hx hb dM_count_160 (by decide +kernel) ?_
                  refine tq_ne hx hb dM_count_161 (tgt := 171) (by decide) (by omega) (by omega) (fun h161 => ?_) (fun h161 => ?_)
                  · refine lv_iload_n hx hb dM_count_171 rfl (lv_at hl 3 rfl) ?_
                    refine lv_if_lt hx hb dM_count_172 (tgt := 181) (by decide) (fun h172 => ?_) (fun h172 => ?_)
                    · exact absurd h172 (nI_nn (by decide))
                    · refine lv_iload_n hx hb dM_count_175 rfl (lv_at hl 3 rfl) ?_
                      refine lv_bipush (v := nI 6) hx hb dM_count_176 (by decide +kernel) ?_
                      refine tq_le hx hb dM_count_178 (tgt := 185) (by decide) (by omega) (by omega) (fun h178 => ?_) (fun h178 => ?_)
                      · refine lv_iload_n hx hb dM_count_185 rfl (lv_at hl 1 rfl) ?_
                        subst hQe
                        exact W.iret (v := nI q2) hx hb hr (fun t ht hW => ⟨⟨_, u1, rfl, ⟨by rw [k1], hinu1, hzu1, hc3⟩, tq_hp ht hP⟩, hS.F ht⟩) hS.2.2 dM_count_186
                      · omega
                  · omega
                · omega
              · omega
            · refine lv_iload_n hx hb dM_count_108 rfl (lv_at hl 3 rfl) ?_
              refine lv_iconst (v := nI 3) hx hb dM_count_109 (by decide +kernel) ?_
              refine tq_ne hx hb dM_count_110 (tgt := 136) (by decide) (by omega) (by omega) (fun h110 => ?_) (fun h110 => ?_)
              · refine lv_iload_n hx hb dM_count_136 rfl (lv_at hl 3 rfl) ?_
                refine tq_zne hx hb dM_count_137 (tgt := 147) (by decide) (by omega) (fun h137 => ?_) (fun h137 => ?_)
                · refine lv_iload_n hx hb dM_count_147 rfl (lv_at hl 3 rfl) ?_
                  refine lv_iconst (v := nI 2) hx hb dM_count_148 (by decide +kernel) ?_
                  refine tq_ne hx hb dM_count_149 (tgt := 159) (by decide) (by omega) (by omega) (fun h149 => ?_) (fun h149 => ?_)
                  · refine lv_iload_n hx hb dM_count_159 rfl (lv_at hl 3 rfl) ?_
                    refine lv_iconst (v := nI 4) hx hb dM_count_160 (by decide +kernel) ?_
                    refine tq_ne hx hb dM_count_161 (tgt := 171) (by decide) (by omega) (by omega) (fun h161 => ?_) (fun h161 => ?_)
                    · refine lv_iload_n hx hb dM_count_171 rfl (lv_at hl 3 rfl) ?_
                      refine lv_if_lt hx hb dM_count_172 (tgt := 181) (by decide) (fun h172 => ?_) (fun h172 => ?_)
                      · exact absurd h172 (nI_nn (by decide))
                      · refine lv_iload_n hx hb dM_count_175 rfl (lv_at hl 3 rfl) ?_
                        refine lv_bipush (v := nI 6) hx hb dM_count_176 (by decide +kernel) ?_
                        refine tq_le hx hb dM_count_178 (tgt := 185) (by decide) (by omega) (by omega) (fun h178 => ?_) (fun h178 => ?_)
                        · refine lv_iload_n hx hb dM_count_185 rfl (lv_at hl 1 rfl) ?_
                          subst hQe
                          exact W.iret (v := nI q2) hx hb hr (fun t ht hW => ⟨⟨_, u1, rfl, ⟨by rw [k1], hinu1, hzu1, hc3⟩, tq_hp ht hP⟩, hS.F ht⟩) hS.2.2 dM_count_186
                        · omega
                    · omega
                  · omega
                · omega
              · omega
        exact lp2 _ q 1 ls _ _ (by rw [g1, show n = N by omega]) (by omega) hP hD hS (Nat.lt_succ_self _) (lv_sub hl [0, 1, 2, 3] rfl)
      · refine lv_iload_n hx hb dM_count_21 rfl (lv_at hl 1 rfl) ?_
        refine lv_iload_n hx hb dM_count_22 rfl (lv_at hl 3 rfl) ?_
        refine lv_iconst (v := nI 1) hx hb dM_count_23 (by decide +kernel) ?_
        refine tq_ne hx hb dM_count_24 (tgt := 45) (by decide) (by omega) (by omega) (fun h24 => ?_) (fun h24 => ?_)
        · omega
        · refine lv_aload_n hx hb dM_count_27 rfl (lv_at hl 2 rfl) ?_
          refine gf_M_13 (v := .ref (a 1)) hx hb hA hown hK hP 0 rfl rfl dM_count_28 ?_
          refine lv_iload_n hx hb dM_count_31 rfl (lv_at hl 0 rfl) ?_
          refine tq_iald hx hb hK hP 1 0 rfl rfl (by omega) (by omega) dM_count_32 ?_
          refine lv_iconst (v := nI 2) hx hb dM_count_33 (by decide +kernel) ?_
          refine lv_icmp_ne hx hb dM_count_34 (tgt := 41) (by decide) (fun h34 => ?_) (fun h34 => ?_)
          · have hstep : q + 0 = tm_cnt (m_nm u1) (n + 1) := by rw [cnt_no (p := (m_nm u1)) (m_nm_f h34)]; exact g1
            refine lv_iconst (v := nI 0) hx hb dM_count_41 (by decide +kernel) ?_
            refine lv_goto hx hb dM_count_42 (tgt := 90) (by decide) ?_
            refine tq_iadd hx hb dM_count_90 ?_
            refine lv_istore_n (lv' := [(2, .int (nI (q + 0))), (3, .int (nI n)), (0, .ref (a 0)), (1, .int (nI 1))]) hx hb dM_count_91 rfl hl (by decide) rfl (fun ls hl => ?_)
            refine lv_iinc (k := 1) (lv' := [(3, .int (nI (n + 1))), (2, .int (nI (q + 0))), (0, .ref (a 0)), (1, .int (nI 1))]) hx hb dM_count_92 hl rfl (nI_1 _) (by decide) rfl (fun ls hl => ?_)
            refine lv_goto hx hb dM_count_95 (tgt := 13) (by decide) ?_
            exact ih13 (q + 0) (n + 1) ls H locs (hstep) (by omega) hP hD hS (by omega) (lv_sub hl [0, 1, 2, 3] rfl)
          · have hstep : q + 1 = tm_cnt (m_nm u1) (n + 1) := by rw [cnt_yes (p := (m_nm u1)) (m_nm_t h34), g1]
            refine lv_iconst (v := nI 1) hx hb dM_count_37 (by decide +kernel) ?_
            refine lv_goto hx hb dM_count_38 (tgt := 90) (by decide) ?_
            refine tq_iadd hx hb dM_count_90 ?_
            refine lv_istore_n (lv' := [(2, .int (nI (q + 1))), (3, .int (nI n)), (0, .ref (a 0)), (1, .int (nI 1))]) hx hb dM_count_91 rfl hl (by decide) rfl (fun ls hl => ?_)
            refine lv_iinc (k := 1) (lv' := [(3, .int (nI (n + 1))), (2, .int (nI (q + 1))), (0, .ref (a 0)), (1, .int (nI 1))]) hx hb dM_count_92 hl rfl (nI_1 _) (by decide) rfl (fun ls hl => ?_)
            refine lv_goto hx hb dM_count_95 (tgt := 13) (by decide) ?_
            exact ih13 (q + 1) (n + 1) ls H locs (hstep) (by omega) hP hD hS (by omega) (lv_sub hl [0, 1, 2, 3] rfl)
  exact lp _ 0 0 ls _ _ rfl (by omega) hP hD hS (Nat.lt_succ_self _) (lv_sub hl [0, 1, 2, 3] rfl)
set_option maxHeartbeats 4000000 in
set_option maxRecDepth 100000 in
/-- m_count2 -/
theorem m_count2 (l : Launch) (D : va_G) (a : Nat → Nat) (kI kL kZ : ClassId) (u : sU) (N : Nat) (kd fa fb : Nat → Nat) (T : Nat) (so xa xb xc : Nat → Nat) (F : Nat → Prop) (M : Nat) (rs : Nat → Nat) (hin : m_inv u N kd fa fb T so xa xb xc F M rs)  : Met l yM_count (wM_count :: wA) ({ frames := 5, cells := 0, slots := 0, locals := 118 }) (va_Pc [.ref (a 0), .int (nI 2)] (tq_wB D vwA (mW a kI kL kZ u) (sT kI kL kZ))) (va_Qi (fun r (u' : sU) => (r = nI T) ∧ m_inv u' N kd fa fb T so xa xb xc F M rs ∧ u'.2.2 0 = 0 ∧ u'.2.2 3 = 1) (fun u' t => va_P D vwA (mW a kI kL kZ u') t.heap) (mA a)) 0 0 (mA a) := by
  refine Met.ofW (cc := bM_count) (maxL := 4) (ret := (some .int)) (by decide +kernel) rfl ?_
  intro p e s m args below meth c s₁ B1 hml hv
  obtain ⟨rfl, hP, hK, hD0⟩ := hv
  have hx := B1.exec
  have hb := B1.bytes
  have hr := B1.returns
  have hA : ∀ w ∈ wA, w.before ([.ref (a 0), .int (nI 2)] : List Value).toArray s = true := fun w h => atoms_spec (ws := wM_count :: wA) B1.pre w (List.mem_cons_of_mem _ h)
  have hown : s.vm.findClass RcM = some m.cls := findClass_of_methodNamed B1.named
  have hlocks := B1.notSynchronized
  have hS : va_S (mA a) s.heap s.heap [] := va_S.rf
  have hl := lv_entry ([.ref (a 0), .int (nI 2)]) (n := 4) (Nat.le_of_ble_eq_true rfl)
  rw [lg_entry_eq]
  generalize (lg_sl ([.ref (a 0), .int (nI 2)]) ++ List.replicate (4 - (lg_sl ([.ref (a 0), .int (nI 2)])).length) Slot.unset).toArray = ls at hl ⊢
  have hl : lv_has ls 4 [(0, .ref (a 0)), (1, .int (nI 2))] := hl
  refine tq_gen (fun R Q hRe hQe => ?_)
  have hRf : 5 ≤ R.frames := by rw [hRe]; exact Nat.le_of_ble_eq_true rfl
  have hRl : 118 ≤ R.locals := by rw [hRe]; exact Nat.le_of_ble_eq_true rfl
  have hRc : 0 ≤ R.cells := by rw [hRe]; exact Nat.le_of_ble_eq_true rfl
  have hRs : 0 ≤ R.slots := by rw [hRe]; exact Nat.le_of_ble_eq_true rfl
  have hD := mA_D hD0
  have hta := hin.1
  have hN := mt_N hta
  refine lv_aload_n hx hb dM_count_0 rfl (lv_at hl 0 rfl) ?_
  refine lv_iconst (v := nI 0) hx hb dM_count_1 (by decide +kernel) ?_
  refine pf_M_55 (v := .int (nI 0)) hx hb hA hown hK hP hD hS 0 rfl rfl rfl (Nat.le_of_ble_eq_true rfl) dM_count_2 (fun H locs hP hD hS => ?_)
  have hP : va_P D vwA (mW a kI kL kZ (u.1, u.2.1, va_up u.2.2 0 0)) H := hP
  have hD : va_D (mA a) (mW a kI kL kZ (u.1, u.2.1, va_up u.2.2 0 0)) := hD
  have hinz : m_inv (m_thr u 0) N kd fa fb T so xa xb xc F M rs := hin
  have hNz := mt_N hinz.1
  have hzz : (m_thr u 0).2.2 0 = 0 := rfl
  have hP : va_P D vwA (mW a kI kL kZ (m_thr u 0)) H := hP
  have hD : va_D (mA a) (mW a kI kL kZ (m_thr u 0)) := hD
  refine lv_aload_n hx hb dM_count_5 rfl (lv_at hl 0 rfl) ?_
  refine ks_v (wf := mW a kI kL kZ) (u := (m_thr u 0)) ⟨hx, hb, hml, hown, hA⟩ (m_close l D a kI kL kZ (m_thr u 0) N kd fa fb T so xa xb xc hinz.1 F hinz.2.1 hinz.2.2.1 hinz.2.2.2.1 hinz.2.2.2.2.1 hinz.2.2.2.2.2.1) (kw_M_127 hA rfl rfl ⟨Nat.le_trans (Nat.le_of_ble_eq_true rfl) hRf, Nat.le_trans (Nat.le_of_ble_eq_true rfl) hRl⟩) hK hP hD hS (fun _ h => h) (fun u' => mW_adr u') 0 5 rfl rfl rfl hl.1 (Nat.le_of_ble_eq_true rfl) ⟨by omega, by omega⟩ dM_count_6 rfl (fun u1 H locs hu1 hP hD hS => ?_)
  have hinu1 := cls_inv hinz hu1
  have hNu1 := mt_N hinu1.1
  have hzu1 : u1.2.2 0 = 0 := (hu1.2.1 0 (by decide) (by decide)).trans hzz
  have hc3 := hu1.2.2.1
  have hfl := hu1.2.2.2.2
  refine lv_iconst (v := nI 0) hx hb dM_count_9 (by decide +kernel) ?_
  refine lv_istore_n (lv' := [(2, .int (nI 0)), (0, .ref (a 0)), (1, .int (nI 2))]) hx hb dM_count_10 rfl hl (by decide) rfl (fun ls hl => ?_)
  refine lv_iconst (v := nI 0) hx hb dM_count_11 (by decide +kernel) ?_
  refine lv_istore_n (lv' := [(3, .int (nI 0)), (2, .int (nI 0)), (0, .ref (a 0)), (1, .int (nI 2))]) hx hb dM_count_12 rfl hl (by decide) rfl (fun ls hl => ?_)
  have lp : ∀ (fu : Nat) (q n : Nat) (ls : Array Slot) (H : Heap) (locs : List Loc), q = tm_cnt (fun _ => false) n → n ≤ N → va_P D vwA (mW a kI kL kZ u1) H → va_D (mA a) (mW a kI kL kZ u1) → va_S (mA a) s.heap H locs → N - n < fu → lv_has ls 4 [(3, .int (nI n)), (2, .int (nI q)), (0, .ref (a 0)), (1, .int (nI 2))] → W p l e R s m ([.ref (a 0), .int (nI 2)] : List Value).toArray below meth c H locs 0 0 Q (F0 m 13 ls []) := by
    intro fu
    induction fu with
    | zero => intros; omega
    | succ fu ih13 =>
      intro q n ls H locs g1 g2 hP hD hS hfu hl
      refine lv_iload_n hx hb dM_count_13 rfl (lv_at hl 0 rfl) ?_
      refine lv_aload_n hx hb dM_count_14 rfl (lv_at hl 2 rfl) ?_
      refine gf_M_7 (v := .int (nI (u1.2.2 1))) hx hb hA hown hK hP 0 rfl rfl dM_count_15 ?_
      refine tq_ge hx hb dM_count_18 (tgt := 98) (by decide) (by omega) (by omega) (fun h18 => ?_) (fun h18 => ?_)
      · refine lv_iconst (v := nI 1) hx hb dM_count_98 (by decide +kernel) ?_
        refine lv_istore_n (lv' := [(3, .int (nI 1)), (2, .int (nI q)), (0, .ref (a 0)), (1, .int (nI 2))]) hx hb dM_count_99 rfl hl (by decide) rfl (fun ls hl => ?_)
        have lp2 : ∀ (fu : Nat) (q2 k : Nat) (ls : Array Slot) (H : Heap) (locs : List Loc), q2 = tm_cnt (fun _ => false) N → k ≤ 1 → va_P D vwA (mW a kI kL kZ u1) H → va_D (mA a) (mW a kI kL kZ u1) → va_S (mA a) s.heap H locs → 0 < fu → lv_has ls 4 [(3, .int (nI k)), (2, .int (nI q2)), (0, .ref (a 0)), (1, .int (nI 2))] → W p l e R s m ([.ref (a 0), .int (nI 2)] : List Value).toArray below meth c H locs 0 0 Q (F0 m 100 ls []) := by
          intro fu
          induction fu with
          | zero => intros; omega
          | succ fu ih100 =>
            intro q2 k ls H locs k1 k3 hP hD hS hfu hl
            refine lv_iload_n hx hb dM_count_100 rfl (lv_at hl 0 rfl) ?_
            refine lv_aload_n hx hb dM_count_101 rfl (lv_at hl 2 rfl) ?_
            refine gf_M_77 (v := .int (nI (u1.2.2 2))) hx hb hA hown hK hP 0 rfl rfl dM_count_102 ?_
            refine tq_gt hx hb dM_count_105 (tgt := 136) (by decide) (by omega) (by omega) (fun h105 => ?_) (fun h105 => ?_)
            · refine lv_iload_n hx hb dM_count_136 rfl (lv_at hl 3 rfl) ?_
              refine tq_zne hx hb dM_count_137 (tgt := 147) (by decide) (by omega) (fun h137 => ?_) (fun h137 => ?_)
              · refine lv_iload_n hx hb dM_count_147 rfl (lv_at hl 3 rfl) ?_
                refine lv_iconst (v := nI 2) hx hb dM_count_148 (by decide +kernel) ?_
                refine tq_ne hx hb dM_count_149 (tgt := 159) (by decide) (by omega) (by omega) (fun h149 => ?_) (fun h149 => ?_)
                · omega
                · refine lv_aload_n hx hb dM_count_152 rfl (lv_at hl 2 rfl) ?_
                  refine gf_M_77 (v := .int (nI (u1.2.2 2))) hx hb hA hown hK hP 0 rfl rfl dM_count_153 ?_
                  refine lv_goto hx hb dM_count_156 (tgt := 186) (by decide) ?_
                  subst hQe
                  exact W.iret (v := nI (u1.2.2 2)) hx hb hr (fun t ht hW => ⟨⟨_, u1, rfl, ⟨by rw [hNu1.2.2.2.1], hinu1, hzu1, hc3⟩, tq_hp ht hP⟩, hS.F ht⟩) hS.2.2 dM_count_186
              · omega
            · refine lv_iload_n hx hb dM_count_108 rfl (lv_at hl 3 rfl) ?_
              refine lv_iconst (v := nI 3) hx hb dM_count_109 (by decide +kernel) ?_
              refine tq_ne hx hb dM_count_110 (tgt := 136) (by decide) (by omega) (by omega) (fun h110 => ?_) (fun h110 => ?_)
              · refine lv_iload_n hx hb dM_count_136 rfl (lv_at hl 3 rfl) ?_
                refine tq_zne hx hb dM_count_137 (tgt := 147) (by decide) (by omega) (fun h137 => ?_) (fun h137 => ?_)
                · refine lv_iload_n hx hb dM_count_147 rfl (lv_at hl 3 rfl) ?_
                  refine lv_iconst (v := nI 2) hx hb dM_count_148 (by decide +kernel) ?_
                  refine tq_ne hx hb dM_count_149 (tgt := 159) (by decide) (by omega) (by omega) (fun h149 => ?_) (fun h149 => ?_)
                  · omega
                  · refine lv_aload_n hx hb dM_count_152 rfl (lv_at hl 2 rfl) ?_
                    refine gf_M_77 (v := .int (nI (u1.2.2 2))) hx hb hA hown hK hP 0 rfl rfl dM_count_153 ?_
                    refine lv_goto hx hb dM_count_156 (tgt := 186) (by decide) ?_
                    subst hQe
                    exact W.iret (v := nI (u1.2.2 2)) hx hb hr (fun t ht hW => ⟨⟨_, u1, rfl, ⟨by rw [hNu1.2.2.2.1], hinu1, hzu1, hc3⟩, tq_hp ht hP⟩, hS.F ht⟩) hS.2.2 dM_count_186
                · omega
              · omega
        exact lp2 _ q 1 ls _ _ (by rw [g1, show n = N by omega]) (by omega) hP hD hS (Nat.lt_succ_self _) (lv_sub hl [0, 1, 2, 3] rfl)
      · refine lv_iload_n hx hb dM_count_21 rfl (lv_at hl 1 rfl) ?_
        refine lv_iload_n hx hb dM_count_22 rfl (lv_at hl 3 rfl) ?_
        refine lv_iconst (v := nI 1) hx hb dM_count_23 (by decide +kernel) ?_
        refine tq_ne hx hb dM_count_24 (tgt := 45) (by decide) (by omega) (by omega) (fun h24 => ?_) (fun h24 => ?_)
        · refine lv_iload_n hx hb dM_count_45 rfl (lv_at hl 3 rfl) ?_
          refine lv_iconst (v := nI 5) hx hb dM_count_46 (by decide +kernel) ?_
          refine tq_ne hx hb dM_count_47 (tgt := 70) (by decide) (by omega) (by omega) (fun h47 => ?_) (fun h47 => ?_)
          · refine lv_iload_n hx hb dM_count_70 rfl (lv_at hl 3 rfl) ?_
            refine lv_bipush (v := nI 6) hx hb dM_count_71 (by decide +kernel) ?_
            refine tq_ne hx hb dM_count_73 (tgt := 89) (by decide) (by omega) (by omega) (fun h73 => ?_) (fun h73 => ?_)
            · have hstep : q + 0 = tm_cnt (fun _ => false) (n + 1) := by rw [cnt_no (p := (fun _ => false)) (n := n) rfl]; exact g1
              refine lv_iconst (v := nI 0) hx hb dM_count_89 (by decide +kernel) ?_
              refine tq_iadd hx hb dM_count_90 ?_
              refine lv_istore_n (lv' := [(2, .int (nI (q + 0))), (3, .int (nI n)), (0, .ref (a 0)), (1, .int (nI 2))]) hx hb dM_count_91 rfl hl (by decide) rfl (fun ls hl => ?_)
              refine lv_iinc (k := 1) (lv' := [(3, .int (nI (n + 1))), (2, .int (nI (q + 0))), (0, .ref (a 0)), (1, .int (nI 2))]) hx hb dM_count_92 hl rfl (nI_1 _) (by decide) rfl (fun ls hl => ?_)
              refine lv_goto hx hb dM_count_95 (tgt := 13) (by decide) ?_
              exact ih13 (q + 0) (n + 1) ls H locs (hstep) (by omega) hP hD hS (by omega) (lv_sub hl [0, 1, 2, 3] rfl)
            · omega
          · omega
        · omega
  exact lp _ 0 0 ls _ _ rfl (by omega) hP hD hS (Nat.lt_succ_self _) (lv_sub hl [0, 1, 2, 3] rfl)
set_option maxHeartbeats 4000000 in
set_option maxRecDepth 100000 in
/-- m_count3 -/
theorem m_count3 (l : Launch) (D : va_G) (a : Nat → Nat) (kI kL kZ : ClassId) (u : sU) (N : Nat) (kd fa fb : Nat → Nat) (T : Nat) (so xa xb xc : Nat → Nat) (F : Nat → Prop) (M : Nat) (rs : Nat → Nat) (hin : m_inv u N kd fa fb T so xa xb xc F M rs)  : Met l yM_count (wM_count :: wA) ({ frames := 5, cells := 0, slots := 0, locals := 118 }) (va_Pc [.ref (a 0), .int (nI 3)] (tq_wB D vwA (mW a kI kL kZ u) (sT kI kL kZ))) (va_Qi (fun r (u' : sU) => (r = nI (tm_cnt (fun k => dB (F k)) (T + 1))) ∧ m_inv u' N kd fa fb T so xa xb xc F M rs ∧ u'.2.2 0 = 0 ∧ u'.2.2 3 = 1) (fun u' t => va_P D vwA (mW a kI kL kZ u') t.heap) (mA a)) 0 0 (mA a) := by
  refine Met.ofW (cc := bM_count) (maxL := 4) (ret := (some .int)) (by decide +kernel) rfl ?_
  intro p e s m args below meth c s₁ B1 hml hv
  obtain ⟨rfl, hP, hK, hD0⟩ := hv
  have hx := B1.exec
  have hb := B1.bytes
  have hr := B1.returns
  have hA : ∀ w ∈ wA, w.before ([.ref (a 0), .int (nI 3)] : List Value).toArray s = true := fun w h => atoms_spec (ws := wM_count :: wA) B1.pre w (List.mem_cons_of_mem _ h)
  have hown : s.vm.findClass RcM = some m.cls := findClass_of_methodNamed B1.named
  have hlocks := B1.notSynchronized
  have hS : va_S (mA a) s.heap s.heap [] := va_S.rf
  have hl := lv_entry ([.ref (a 0), .int (nI 3)]) (n := 4) (Nat.le_of_ble_eq_true rfl)
  rw [lg_entry_eq]
  generalize (lg_sl ([.ref (a 0), .int (nI 3)]) ++ List.replicate (4 - (lg_sl ([.ref (a 0), .int (nI 3)])).length) Slot.unset).toArray = ls at hl ⊢
  have hl : lv_has ls 4 [(0, .ref (a 0)), (1, .int (nI 3))] := hl
  refine tq_gen (fun R Q hRe hQe => ?_)
  have hRf : 5 ≤ R.frames := by rw [hRe]; exact Nat.le_of_ble_eq_true rfl
  have hRl : 118 ≤ R.locals := by rw [hRe]; exact Nat.le_of_ble_eq_true rfl
  have hRc : 0 ≤ R.cells := by rw [hRe]; exact Nat.le_of_ble_eq_true rfl
  have hRs : 0 ≤ R.slots := by rw [hRe]; exact Nat.le_of_ble_eq_true rfl
  have hD := mA_D hD0
  have hta := hin.1
  have hN := mt_N hta
  refine lv_aload_n hx hb dM_count_0 rfl (lv_at hl 0 rfl) ?_
  refine lv_iconst (v := nI 0) hx hb dM_count_1 (by decide +kernel) ?_
  refine pf_M_55 (v := .int (nI 0)) hx hb hA hown hK hP hD hS 0 rfl rfl rfl (Nat.le_of_ble_eq_true rfl) dM_count_2 (fun H locs hP hD hS => ?_)
  have hP : va_P D vwA (mW a kI kL kZ (u.1, u.2.1, va_up u.2.2 0 0)) H := hP
  have hD : va_D (mA a) (mW a kI kL kZ (u.1, u.2.1, va_up u.2.2 0 0)) := hD
  have hinz : m_inv (m_thr u 0) N kd fa fb T so xa xb xc F M rs := hin
  have hNz := mt_N hinz.1
  have hzz : (m_thr u 0).2.2 0 = 0 := rfl
  have hP : va_P D vwA (mW a kI kL kZ (m_thr u 0)) H := hP
  have hD : va_D (mA a) (mW a kI kL kZ (m_thr u 0)) := hD
  refine lv_aload_n hx hb dM_count_5 rfl (lv_at hl 0 rfl) ?_
  refine ks_v (wf := mW a kI kL kZ) (u := (m_thr u 0)) ⟨hx, hb, hml, hown, hA⟩ (m_close l D a kI kL kZ (m_thr u 0) N kd fa fb T so xa xb xc hinz.1 F hinz.2.1 hinz.2.2.1 hinz.2.2.2.1 hinz.2.2.2.2.1 hinz.2.2.2.2.2.1) (kw_M_127 hA rfl rfl ⟨Nat.le_trans (Nat.le_of_ble_eq_true rfl) hRf, Nat.le_trans (Nat.le_of_ble_eq_true rfl) hRl⟩) hK hP hD hS (fun _ h => h) (fun u' => mW_adr u') 0 5 rfl rfl rfl hl.1 (Nat.le_of_ble_eq_true rfl) ⟨by omega, by omega⟩ dM_count_6 rfl (fun u1 H locs hu1 hP hD hS => ?_)
  have hinu1 := cls_inv hinz hu1
  have hNu1 := mt_N hinu1.1
  have hzu1 : u1.2.2 0 = 0 := (hu1.2.1 0 (by decide) (by decide)).trans hzz
  have hc3 := hu1.2.2.1
  have hfl := hu1.2.2.2.2
  refine lv_iconst (v := nI 0) hx hb dM_count_9 (by decide +kernel) ?_
  refine lv_istore_n (lv' := [(2, .int (nI 0)), (0, .ref (a 0)), (1, .int (nI 3))]) hx hb dM_count_10 rfl hl (by decide) rfl (fun ls hl => ?_)
  refine lv_iconst (v := nI 0) hx hb dM_count_11 (by decide +kernel) ?_
  refine lv_istore_n (lv' := [(3, .int (nI 0)), (2, .int (nI 0)), (0, .ref (a 0)), (1, .int (nI 3))]) hx hb dM_count_12 rfl hl (by decide) rfl (fun ls hl => ?_)
  have lp : ∀ (fu : Nat) (q n : Nat) (ls : Array Slot) (H : Heap) (locs : List Loc), q = tm_cnt (fun _ => false) n → n ≤ N → va_P D vwA (mW a kI kL kZ u1) H → va_D (mA a) (mW a kI kL kZ u1) → va_S (mA a) s.heap H locs → N - n < fu → lv_has ls 4 [(3, .int (nI n)), (2, .int (nI q)), (0, .ref (a 0)), (1, .int (nI 3))] → W p l e R s m ([.ref (a 0), .int (nI 3)] : List Value).toArray below meth c H locs 0 0 Q (F0 m 13 ls []) := by
    intro fu
    induction fu with
    | zero => intros; omega
    | succ fu ih13 =>
      intro q n ls H locs g1 g2 hP hD hS hfu hl
      refine lv_iload_n hx hb dM_count_13 rfl (lv_at hl 0 rfl) ?_
      refine lv_aload_n hx hb dM_count_14 rfl (lv_at hl 2 rfl) ?_
      refine gf_M_7 (v := .int (nI (u1.2.2 1))) hx hb hA hown hK hP 0 rfl rfl dM_count_15 ?_
      refine tq_ge hx hb dM_count_18 (tgt := 98) (by decide) (by omega) (by omega) (fun h18 => ?_) (fun h18 => ?_)
      · refine lv_iconst (v := nI 1) hx hb dM_count_98 (by decide +kernel) ?_
        refine lv_istore_n (lv' := [(3, .int (nI 1)), (2, .int (nI q)), (0, .ref (a 0)), (1, .int (nI 3))]) hx hb dM_count_99 rfl hl (by decide) rfl (fun ls hl => ?_)
        have lp2 : ∀ (fu : Nat) (q2 k : Nat) (ls : Array Slot) (H : Heap) (locs : List Loc), q2 = tm_cnt (fun k => dB (F k)) k → 1 ≤ k → k ≤ T + 1 → va_P D vwA (mW a kI kL kZ u1) H → va_D (mA a) (mW a kI kL kZ u1) → va_S (mA a) s.heap H locs → T + 1 - k < fu → lv_has ls 4 [(3, .int (nI k)), (2, .int (nI q2)), (0, .ref (a 0)), (1, .int (nI 3))] → W p l e R s m ([.ref (a 0), .int (nI 3)] : List Value).toArray below meth c H locs 0 0 Q (F0 m 100 ls []) := by
          intro fu
          induction fu with
          | zero => intros; omega
          | succ fu ih100 =>
            intro q2 k ls H locs k1 k2 k3 hP hD hS hfu hl
            refine lv_iload_n hx hb dM_count_100 rfl (lv_at hl 0 rfl) ?_
            refine lv_aload_n hx hb dM_count_101 rfl (lv_at hl 2 rfl) ?_
            refine gf_M_77 (v := .int (nI (u1.2.2 2))) hx hb hA hown hK hP 0 rfl rfl dM_count_102 ?_
            refine tq_gt hx hb dM_count_105 (tgt := 136) (by decide) (by omega) (by omega) (fun h105 => ?_) (fun h105 => ?_)
            · refine lv_iload_n hx hb dM_count_136 rfl (lv_at hl 3 rfl) ?_
              refine tq_zne hx hb dM_count_137 (tgt := 147) (by decide) (by omega) (fun h137 => ?_) (fun h137 => ?_)
              · refine lv_iload_n hx hb dM_count_147 rfl (lv_at hl 3 rfl) ?_
                refine lv_iconst (v := nI 2) hx hb dM_count_148 (by decide +kernel) ?_
                refine tq_ne hx hb dM_count_149 (tgt := 159) (by decide) (by omega) (by omega) (fun h149 => ?_) (fun h149 => ?_)
                · refine lv_iload_n hx hb dM_count_159 rfl (lv_at hl 3 rfl) ?_
                  refine lv_iconst (v := nI 4) hx hb dM_count_160 (by decide +kernel) ?_
                  refine tq_ne hx hb dM_count_161 (tgt := 171) (by decide) (by omega) (by omega) (fun h161 => ?_) (fun h161 => ?_)
                  · refine lv_iload_n hx hb dM_count_171 rfl (lv_at hl 3 rfl) ?_
                    refine lv_if_lt hx hb dM_count_172 (tgt := 181) (by decide) (fun h172 => ?_) (fun h172 => ?_)
                    · exact absurd h172 (nI_nn (by decide))
                    · refine lv_iload_n hx hb dM_count_175 rfl (lv_at hl 3 rfl) ?_
                      refine lv_bipush (v := nI 6) hx hb dM_count_176 (by decide +kernel) ?_
                      refine tq_le hx hb dM_count_178 (tgt := 185) (by decide) (by omega) (by omega) (fun h178 => ?_) (fun h178 => ?_)
                      · refine lv_iload_n hx hb dM_count_185 rfl (lv_at hl 1 rfl) ?_
                        subst hQe
                        exact W.iret (v := nI q2) hx hb hr (fun t ht hW => ⟨⟨_, u1, rfl, ⟨by rw [k1, show k = T + 1 by omega], hinu1, hzu1, hc3⟩, tq_hp ht hP⟩, hS.F ht⟩) hS.2.2 dM_count_186
                      · omega
                  · omega
                · omega
              · omega
            · refine lv_iload_n hx hb dM_count_108 rfl (lv_at hl 3 rfl) ?_
              refine lv_iconst (v := nI 3) hx hb dM_count_109 (by decide +kernel) ?_
              refine tq_ne hx hb dM_count_110 (tgt := 136) (by decide) (by omega) (by omega) (fun h110 => ?_) (fun h110 => ?_)
              · omega
              · refine lv_iload_n hx hb dM_count_113 rfl (lv_at hl 1 rfl) ?_
                refine lv_aload_n hx hb dM_count_114 rfl (lv_at hl 2 rfl) ?_
                refine gf_M_35 (v := .ref (a 8)) hx hb hA hown hK hP 0 rfl rfl dM_count_115 ?_
                refine lv_iload_n hx hb dM_count_118 rfl (lv_at hl 0 rfl) ?_
                refine tq_zald hx hb hK hP 8 2 rfl rfl (by omega) (by omega) dM_count_119 ?_
                refine tq_i (hinu1.2.1.2 k (by omega) (by omega)) ?_
                refine tq_bf hx hb dM_count_120 (tgt := 127) (by decide) (fun h120 => ?_) (fun h120 => ?_)
                · have hstep2 : q2 + 0 = tm_cnt (fun k => dB (F k)) (k + 1) := by rw [cnt_no (p := (fun k => dB (F k))) (n := k) h120]; exact k1
                  refine lv_iconst (v := nI 0) hx hb dM_count_127 (by decide +kernel) ?_
                  refine tq_iadd hx hb dM_count_128 ?_
                  refine lv_istore_n (lv' := [(2, .int (nI (q2 + 0))), (3, .int (nI k)), (0, .ref (a 0)), (1, .int (nI 3))]) hx hb dM_count_129 rfl hl (by decide) rfl (fun ls hl => ?_)
                  refine lv_iinc (k := 1) (lv' := [(3, .int (nI (k + 1))), (2, .int (nI (q2 + 0))), (0, .ref (a 0)), (1, .int (nI 3))]) hx hb dM_count_130 hl rfl (nI_1 _) (by decide) rfl (fun ls hl => ?_)
                  refine lv_goto hx hb dM_count_133 (tgt := 100) (by decide) ?_
                  exact ih100 (q2 + 0) (k + 1) ls H locs (hstep2) (by omega) (by omega) hP hD hS (by omega) (lv_sub hl [0, 1, 2, 3] rfl)
                · have hstep2 : q2 + 1 = tm_cnt (fun k => dB (F k)) (k + 1) := by rw [cnt_yes (p := (fun k => dB (F k))) (n := k) h120, k1]
                  refine lv_iconst (v := nI 1) hx hb dM_count_123 (by decide +kernel) ?_
                  refine lv_goto hx hb dM_count_124 (tgt := 128) (by decide) ?_
                  refine tq_iadd hx hb dM_count_128 ?_
                  refine lv_istore_n (lv' := [(2, .int (nI (q2 + 1))), (3, .int (nI k)), (0, .ref (a 0)), (1, .int (nI 3))]) hx hb dM_count_129 rfl hl (by decide) rfl (fun ls hl => ?_)
                  refine lv_iinc (k := 1) (lv' := [(3, .int (nI (k + 1))), (2, .int (nI (q2 + 1))), (0, .ref (a 0)), (1, .int (nI 3))]) hx hb dM_count_130 hl rfl (nI_1 _) (by decide) rfl (fun ls hl => ?_)
                  refine lv_goto hx hb dM_count_133 (tgt := 100) (by decide) ?_
                  exact ih100 (q2 + 1) (k + 1) ls H locs (hstep2) (by omega) (by omega) hP hD hS (by omega) (lv_sub hl [0, 1, 2, 3] rfl)
        exact lp2 _ q 1 ls _ _ (by rw [g1, cnt_zero (p := (fun _ => false)) (fun _ _ => rfl)]; exact (cnt_zero (p := (fun k => dB (F k))) (fun k hk => dB_f.mpr (fun z => by have := hinu1.2.1.1 k z; omega))).symm) (by omega) (by omega) hP hD hS (Nat.lt_succ_self _) (lv_sub hl [0, 1, 2, 3] rfl)
      · refine lv_iload_n hx hb dM_count_21 rfl (lv_at hl 1 rfl) ?_
        refine lv_iload_n hx hb dM_count_22 rfl (lv_at hl 3 rfl) ?_
        refine lv_iconst (v := nI 1) hx hb dM_count_23 (by decide +kernel) ?_
        refine tq_ne hx hb dM_count_24 (tgt := 45) (by decide) (by omega) (by omega) (fun h24 => ?_) (fun h24 => ?_)
        · refine lv_iload_n hx hb dM_count_45 rfl (lv_at hl 3 rfl) ?_
          refine lv_iconst (v := nI 5) hx hb dM_count_46 (by decide +kernel) ?_
          refine tq_ne hx hb dM_count_47 (tgt := 70) (by decide) (by omega) (by omega) (fun h47 => ?_) (fun h47 => ?_)
          · refine lv_iload_n hx hb dM_count_70 rfl (lv_at hl 3 rfl) ?_
            refine lv_bipush (v := nI 6) hx hb dM_count_71 (by decide +kernel) ?_
            refine tq_ne hx hb dM_count_73 (tgt := 89) (by decide) (by omega) (by omega) (fun h73 => ?_) (fun h73 => ?_)
            · have hstep : q + 0 = tm_cnt (fun _ => false) (n + 1) := by rw [cnt_no (p := (fun _ => false)) (n := n) rfl]; exact g1
              refine lv_iconst (v := nI 0) hx hb dM_count_89 (by decide +kernel) ?_
              refine tq_iadd hx hb dM_count_90 ?_
              refine lv_istore_n (lv' := [(2, .int (nI (q + 0))), (3, .int (nI n)), (0, .ref (a 0)), (1, .int (nI 3))]) hx hb dM_count_91 rfl hl (by decide) rfl (fun ls hl => ?_)
              refine lv_iinc (k := 1) (lv' := [(3, .int (nI (n + 1))), (2, .int (nI (q + 0))), (0, .ref (a 0)), (1, .int (nI 3))]) hx hb dM_count_92 hl rfl (nI_1 _) (by decide) rfl (fun ls hl => ?_)
              refine lv_goto hx hb dM_count_95 (tgt := 13) (by decide) ?_
              exact ih13 (q + 0) (n + 1) ls H locs (hstep) (by omega) hP hD hS (by omega) (lv_sub hl [0, 1, 2, 3] rfl)
            · omega
          · omega
        · omega
  exact lp _ 0 0 ls _ _ rfl (by omega) hP hD hS (Nat.lt_succ_self _) (lv_sub hl [0, 1, 2, 3] rfl)
set_option maxHeartbeats 4000000 in
set_option maxRecDepth 100000 in
/-- m_count4 -/
theorem m_count4 (l : Launch) (D : va_G) (a : Nat → Nat) (kI kL kZ : ClassId) (u : sU) (N : Nat) (kd fa fb : Nat → Nat) (T : Nat) (so xa xb xc : Nat → Nat) (F : Nat → Prop) (M : Nat) (rs : Nat → Nat) (hin : m_inv u N kd fa fb T so xa xb xc F M rs)  : Met l yM_count (wM_count :: wA) ({ frames := 5, cells := 0, slots := 0, locals := 118 }) (va_Pc [.ref (a 0), .int (nI 4)] (tq_wB D vwA (mW a kI kL kZ u) (sT kI kL kZ))) (va_Qi (fun r (u' : sU) => (r = nI (tm_sum (fun n => tm_cnt (fun e => !(n == e) && u'.1 0 n e) N) N)) ∧ m_inv u' N kd fa fb T so xa xb xc F M rs ∧ u'.2.2 0 = 0 ∧ u'.2.2 3 = 1) (fun u' t => va_P D vwA (mW a kI kL kZ u') t.heap) (mA a)) 0 0 (mA a) := by
  refine Met.ofW (cc := bM_count) (maxL := 4) (ret := (some .int)) (by decide +kernel) rfl ?_
  intro p e s m args below meth c s₁ B1 hml hv
  obtain ⟨rfl, hP, hK, hD0⟩ := hv
  have hx := B1.exec
  have hb := B1.bytes
  have hr := B1.returns
  have hA : ∀ w ∈ wA, w.before ([.ref (a 0), .int (nI 4)] : List Value).toArray s = true := fun w h => atoms_spec (ws := wM_count :: wA) B1.pre w (List.mem_cons_of_mem _ h)
  have hown : s.vm.findClass RcM = some m.cls := findClass_of_methodNamed B1.named
  have hlocks := B1.notSynchronized
  have hS : va_S (mA a) s.heap s.heap [] := va_S.rf
  have hl := lv_entry ([.ref (a 0), .int (nI 4)]) (n := 4) (Nat.le_of_ble_eq_true rfl)
  rw [lg_entry_eq]
  generalize (lg_sl ([.ref (a 0), .int (nI 4)]) ++ List.replicate (4 - (lg_sl ([.ref (a 0), .int (nI 4)])).length) Slot.unset).toArray = ls at hl ⊢
  have hl : lv_has ls 4 [(0, .ref (a 0)), (1, .int (nI 4))] := hl
  refine tq_gen (fun R Q hRe hQe => ?_)
  have hRf : 5 ≤ R.frames := by rw [hRe]; exact Nat.le_of_ble_eq_true rfl
  have hRl : 118 ≤ R.locals := by rw [hRe]; exact Nat.le_of_ble_eq_true rfl
  have hRc : 0 ≤ R.cells := by rw [hRe]; exact Nat.le_of_ble_eq_true rfl
  have hRs : 0 ≤ R.slots := by rw [hRe]; exact Nat.le_of_ble_eq_true rfl
  have hD := mA_D hD0
  have hta := hin.1
  have hN := mt_N hta
  refine lv_aload_n hx hb dM_count_0 rfl (lv_at hl 0 rfl) ?_
  refine lv_iconst (v := nI 0) hx hb dM_count_1 (by decide +kernel) ?_
  refine pf_M_55 (v := .int (nI 0)) hx hb hA hown hK hP hD hS 0 rfl rfl rfl (Nat.le_of_ble_eq_true rfl) dM_count_2 (fun H locs hP hD hS => ?_)
  have hP : va_P D vwA (mW a kI kL kZ (u.1, u.2.1, va_up u.2.2 0 0)) H := hP
  have hD : va_D (mA a) (mW a kI kL kZ (u.1, u.2.1, va_up u.2.2 0 0)) := hD
  have hinz : m_inv (m_thr u 0) N kd fa fb T so xa xb xc F M rs := hin
  have hNz := mt_N hinz.1
  have hzz : (m_thr u 0).2.2 0 = 0 := rfl
  have hP : va_P D vwA (mW a kI kL kZ (m_thr u 0)) H := hP
  have hD : va_D (mA a) (mW a kI kL kZ (m_thr u 0)) := hD
  refine lv_aload_n hx hb dM_count_5 rfl (lv_at hl 0 rfl) ?_
  refine ks_v (wf := mW a kI kL kZ) (u := (m_thr u 0)) ⟨hx, hb, hml, hown, hA⟩ (m_close l D a kI kL kZ (m_thr u 0) N kd fa fb T so xa xb xc hinz.1 F hinz.2.1 hinz.2.2.1 hinz.2.2.2.1 hinz.2.2.2.2.1 hinz.2.2.2.2.2.1) (kw_M_127 hA rfl rfl ⟨Nat.le_trans (Nat.le_of_ble_eq_true rfl) hRf, Nat.le_trans (Nat.le_of_ble_eq_true rfl) hRl⟩) hK hP hD hS (fun _ h => h) (fun u' => mW_adr u') 0 5 rfl rfl rfl hl.1 (Nat.le_of_ble_eq_true rfl) ⟨by omega, by omega⟩ dM_count_6 rfl (fun u1 H locs hu1 hP hD hS => ?_)
  have hinu1 := cls_inv hinz hu1
  have hNu1 := mt_N hinu1.1
  have hzu1 : u1.2.2 0 = 0 := (hu1.2.1 0 (by decide) (by decide)).trans hzz
  have hc3 := hu1.2.2.1
  have hfl := hu1.2.2.2.2
  refine lv_iconst (v := nI 0) hx hb dM_count_9 (by decide +kernel) ?_
  refine lv_istore_n (lv' := [(2, .int (nI 0)), (0, .ref (a 0)), (1, .int (nI 4))]) hx hb dM_count_10 rfl hl (by decide) rfl (fun ls hl => ?_)
  refine lv_iconst (v := nI 0) hx hb dM_count_11 (by decide +kernel) ?_
  refine lv_istore_n (lv' := [(3, .int (nI 0)), (2, .int (nI 0)), (0, .ref (a 0)), (1, .int (nI 4))]) hx hb dM_count_12 rfl hl (by decide) rfl (fun ls hl => ?_)
  have lp : ∀ (fu : Nat) (q n : Nat) (ls : Array Slot) (H : Heap) (locs : List Loc), q = tm_cnt (fun _ => false) n → n ≤ N → va_P D vwA (mW a kI kL kZ u1) H → va_D (mA a) (mW a kI kL kZ u1) → va_S (mA a) s.heap H locs → N - n < fu → lv_has ls 4 [(3, .int (nI n)), (2, .int (nI q)), (0, .ref (a 0)), (1, .int (nI 4))] → W p l e R s m ([.ref (a 0), .int (nI 4)] : List Value).toArray below meth c H locs 0 0 Q (F0 m 13 ls []) := by
    intro fu
    induction fu with
    | zero => intros; omega
    | succ fu ih13 =>
      intro q n ls H locs g1 g2 hP hD hS hfu hl
      refine lv_iload_n hx hb dM_count_13 rfl (lv_at hl 0 rfl) ?_
      refine lv_aload_n hx hb dM_count_14 rfl (lv_at hl 2 rfl) ?_
      refine gf_M_7 (v := .int (nI (u1.2.2 1))) hx hb hA hown hK hP 0 rfl rfl dM_count_15 ?_
      refine tq_ge hx hb dM_count_18 (tgt := 98) (by decide) (by omega) (by omega) (fun h18 => ?_) (fun h18 => ?_)
      · refine lv_iconst (v := nI 1) hx hb dM_count_98 (by decide +kernel) ?_
        refine lv_istore_n (lv' := [(3, .int (nI 1)), (2, .int (nI q)), (0, .ref (a 0)), (1, .int (nI 4))]) hx hb dM_count_99 rfl hl (by decide) rfl (fun ls hl => ?_)
        have lp2 : ∀ (fu : Nat) (q2 k : Nat) (ls : Array Slot) (H : Heap) (locs : List Loc), q2 = tm_cnt (fun _ => false) N → k ≤ 1 → va_P D vwA (mW a kI kL kZ u1) H → va_D (mA a) (mW a kI kL kZ u1) → va_S (mA a) s.heap H locs → 0 < fu → lv_has ls 4 [(3, .int (nI k)), (2, .int (nI q2)), (0, .ref (a 0)), (1, .int (nI 4))] → W p l e R s m ([.ref (a 0), .int (nI 4)] : List Value).toArray below meth c H locs 0 0 Q (F0 m 100 ls []) := by
          intro fu
          induction fu with
          | zero => intros; omega
          | succ fu ih100 =>
            intro q2 k ls H locs k1 k3 hP hD hS hfu hl
            refine lv_iload_n hx hb dM_count_100 rfl (lv_at hl 0 rfl) ?_
            refine lv_aload_n hx hb dM_count_101 rfl (lv_at hl 2 rfl) ?_
            refine gf_M_77 (v := .int (nI (u1.2.2 2))) hx hb hA hown hK hP 0 rfl rfl dM_count_102 ?_
            refine tq_gt hx hb dM_count_105 (tgt := 136) (by decide) (by omega) (by omega) (fun h105 => ?_) (fun h105 => ?_)
            · refine lv_iload_n hx hb dM_count_136 rfl (lv_at hl 3 rfl) ?_
              refine tq_zne hx hb dM_count_137 (tgt := 147) (by decide) (by omega) (fun h137 => ?_) (fun h137 => ?_)
              · refine lv_iload_n hx hb dM_count_147 rfl (lv_at hl 3 rfl) ?_
                refine lv_iconst (v := nI 2) hx hb dM_count_148 (by decide +kernel) ?_
                refine tq_ne hx hb dM_count_149 (tgt := 159) (by decide) (by omega) (by omega) (fun h149 => ?_) (fun h149 => ?_)
                · refine lv_iload_n hx hb dM_count_159 rfl (lv_at hl 3 rfl) ?_
                  refine lv_iconst (v := nI 4) hx hb dM_count_160 (by decide +kernel) ?_
                  refine tq_ne hx hb dM_count_161 (tgt := 171) (by decide) (by omega) (by omega) (fun h161 => ?_) (fun h161 => ?_)
                  · omega
                  · refine lv_aload_n hx hb dM_count_164 rfl (lv_at hl 2 rfl) ?_
                    refine ks_rv ⟨hx, hb, hml, hown, hA⟩ (m_pairs l D a kI kL kZ u1  (by omega)) (kw_M_144 hA rfl rfl ⟨Nat.le_trans (Nat.le_of_ble_eq_true rfl) hRf, Nat.le_trans (Nat.le_of_ble_eq_true rfl) hRl⟩) hK hP hS 0 5 rfl rfl rfl hl.1 (Nat.le_of_ble_eq_true rfl) ⟨by omega, by omega⟩ dM_count_165 rfl (fun H locs hP hS => ?_)
                    refine tq_i (y := nI (tm_sum (fun n => tm_cnt (fun e => !(n == e) && u1.1 0 n e) (u1.2.2 1)) (u1.2.2 1))) rfl ?_
                    refine lv_goto hx hb dM_count_168 (tgt := 186) (by decide) ?_
                    subst hQe
                    exact W.iret (v := nI (tm_sum (fun n => tm_cnt (fun e => !(n == e) && u1.1 0 n e) (u1.2.2 1)) (u1.2.2 1))) hx hb hr (fun t ht hW => ⟨⟨_, u1, rfl, ⟨by rw [hNu1.1], hinu1, hzu1, hc3⟩, tq_hp ht hP⟩, hS.F ht⟩) hS.2.2 dM_count_186
                · omega
              · omega
            · refine lv_iload_n hx hb dM_count_108 rfl (lv_at hl 3 rfl) ?_
              refine lv_iconst (v := nI 3) hx hb dM_count_109 (by decide +kernel) ?_
              refine tq_ne hx hb dM_count_110 (tgt := 136) (by decide) (by omega) (by omega) (fun h110 => ?_) (fun h110 => ?_)
              · refine lv_iload_n hx hb dM_count_136 rfl (lv_at hl 3 rfl) ?_
                refine tq_zne hx hb dM_count_137 (tgt := 147) (by decide) (by omega) (fun h137 => ?_) (fun h137 => ?_)
                · refine lv_iload_n hx hb dM_count_147 rfl (lv_at hl 3 rfl) ?_
                  refine lv_iconst (v := nI 2) hx hb dM_count_148 (by decide +kernel) ?_
                  refine tq_ne hx hb dM_count_149 (tgt := 159) (by decide) (by omega) (by omega) (fun h149 => ?_) (fun h149 => ?_)
                  · refine lv_iload_n hx hb dM_count_159 rfl (lv_at hl 3 rfl) ?_
                    refine lv_iconst (v := nI 4) hx hb dM_count_160 (by decide +kernel) ?_
                    refine tq_ne hx hb dM_count_161 (tgt := 171) (by decide) (by omega) (by omega) (fun h161 => ?_) (fun h161 => ?_)
                    · omega
                    · refine lv_aload_n hx hb dM_count_164 rfl (lv_at hl 2 rfl) ?_
                      refine ks_rv ⟨hx, hb, hml, hown, hA⟩ (m_pairs l D a kI kL kZ u1  (by omega)) (kw_M_144 hA rfl rfl ⟨Nat.le_trans (Nat.le_of_ble_eq_true rfl) hRf, Nat.le_trans (Nat.le_of_ble_eq_true rfl) hRl⟩) hK hP hS 0 5 rfl rfl rfl hl.1 (Nat.le_of_ble_eq_true rfl) ⟨by omega, by omega⟩ dM_count_165 rfl (fun H locs hP hS => ?_)
                      refine tq_i (y := nI (tm_sum (fun n => tm_cnt (fun e => !(n == e) && u1.1 0 n e) (u1.2.2 1)) (u1.2.2 1))) rfl ?_
                      refine lv_goto hx hb dM_count_168 (tgt := 186) (by decide) ?_
                      subst hQe
                      exact W.iret (v := nI (tm_sum (fun n => tm_cnt (fun e => !(n == e) && u1.1 0 n e) (u1.2.2 1)) (u1.2.2 1))) hx hb hr (fun t ht hW => ⟨⟨_, u1, rfl, ⟨by rw [hNu1.1], hinu1, hzu1, hc3⟩, tq_hp ht hP⟩, hS.F ht⟩) hS.2.2 dM_count_186
                  · omega
                · omega
              · omega
        exact lp2 _ q 1 ls _ _ (by rw [g1, show n = N by omega]) (by omega) hP hD hS (Nat.lt_succ_self _) (lv_sub hl [0, 1, 2, 3] rfl)
      · refine lv_iload_n hx hb dM_count_21 rfl (lv_at hl 1 rfl) ?_
        refine lv_iload_n hx hb dM_count_22 rfl (lv_at hl 3 rfl) ?_
        refine lv_iconst (v := nI 1) hx hb dM_count_23 (by decide +kernel) ?_
        refine tq_ne hx hb dM_count_24 (tgt := 45) (by decide) (by omega) (by omega) (fun h24 => ?_) (fun h24 => ?_)
        · refine lv_iload_n hx hb dM_count_45 rfl (lv_at hl 3 rfl) ?_
          refine lv_iconst (v := nI 5) hx hb dM_count_46 (by decide +kernel) ?_
          refine tq_ne hx hb dM_count_47 (tgt := 70) (by decide) (by omega) (by omega) (fun h47 => ?_) (fun h47 => ?_)
          · refine lv_iload_n hx hb dM_count_70 rfl (lv_at hl 3 rfl) ?_
            refine lv_bipush (v := nI 6) hx hb dM_count_71 (by decide +kernel) ?_
            refine tq_ne hx hb dM_count_73 (tgt := 89) (by decide) (by omega) (by omega) (fun h73 => ?_) (fun h73 => ?_)
            · have hstep : q + 0 = tm_cnt (fun _ => false) (n + 1) := by rw [cnt_no (p := (fun _ => false)) (n := n) rfl]; exact g1
              refine lv_iconst (v := nI 0) hx hb dM_count_89 (by decide +kernel) ?_
              refine tq_iadd hx hb dM_count_90 ?_
              refine lv_istore_n (lv' := [(2, .int (nI (q + 0))), (3, .int (nI n)), (0, .ref (a 0)), (1, .int (nI 4))]) hx hb dM_count_91 rfl hl (by decide) rfl (fun ls hl => ?_)
              refine lv_iinc (k := 1) (lv' := [(3, .int (nI (n + 1))), (2, .int (nI (q + 0))), (0, .ref (a 0)), (1, .int (nI 4))]) hx hb dM_count_92 hl rfl (nI_1 _) (by decide) rfl (fun ls hl => ?_)
              refine lv_goto hx hb dM_count_95 (tgt := 13) (by decide) ?_
              exact ih13 (q + 0) (n + 1) ls H locs (hstep) (by omega) hP hD hS (by omega) (lv_sub hl [0, 1, 2, 3] rfl)
            · omega
          · omega
        · omega
  exact lp _ 0 0 ls _ _ rfl (by omega) hP hD hS (Nat.lt_succ_self _) (lv_sub hl [0, 1, 2, 3] rfl)
set_option maxHeartbeats 4000000 in
set_option maxRecDepth 100000 in
/-- m_count5 -/
theorem m_count5 (l : Launch) (D : va_G) (a : Nat → Nat) (kI kL kZ : ClassId) (u : sU) (N : Nat) (kd fa fb : Nat → Nat) (T : Nat) (so xa xb xc : Nat → Nat) (F : Nat → Prop) (M : Nat) (rs : Nat → Nat) (hin : m_inv u N kd fa fb T so xa xb xc F M rs)  : Met l yM_count (wM_count :: wA) ({ frames := 5, cells := 0, slots := 0, locals := 118 }) (va_Pc [.ref (a 0), .int (nI 5)] (tq_wB D vwA (mW a kI kL kZ u) (sT kI kL kZ))) (va_Qi (fun r (u' : sU) => (r = nI (tm_cnt (fun k => u'.1 0 k 1) N)) ∧ m_inv u' N kd fa fb T so xa xb xc F M rs ∧ u'.2.2 0 = 0 ∧ u'.2.2 3 = 1) (fun u' t => va_P D vwA (mW a kI kL kZ u') t.heap) (mA a)) 0 0 (mA a) := by
  refine Met.ofW (cc := bM_count) (maxL := 4) (ret := (some .int)) (by decide +kernel) rfl ?_
  intro p e s m args below meth c s₁ B1 hml hv
  obtain ⟨rfl, hP, hK, hD0⟩ := hv
  have hx := B1.exec
  have hb := B1.bytes
  have hr := B1.returns
  have hA : ∀ w ∈ wA, w.before ([.ref (a 0), .int (nI 5)] : List Value).toArray s = true := fun w h => atoms_spec (ws := wM_count :: wA) B1.pre w (List.mem_cons_of_mem _ h)
  have hown : s.vm.findClass RcM = some m.cls := findClass_of_methodNamed B1.named
  have hlocks := B1.notSynchronized
  have hS : va_S (mA a) s.heap s.heap [] := va_S.rf
  have hl := lv_entry ([.ref (a 0), .int (nI 5)]) (n := 4) (Nat.le_of_ble_eq_true rfl)
  rw [lg_entry_eq]
  generalize (lg_sl ([.ref (a 0), .int (nI 5)]) ++ List.replicate (4 - (lg_sl ([.ref (a 0), .int (nI 5)])).length) Slot.unset).toArray = ls at hl ⊢
  have hl : lv_has ls 4 [(0, .ref (a 0)), (1, .int (nI 5))] := hl
  refine tq_gen (fun R Q hRe hQe => ?_)
  have hRf : 5 ≤ R.frames := by rw [hRe]; exact Nat.le_of_ble_eq_true rfl
  have hRl : 118 ≤ R.locals := by rw [hRe]; exact Nat.le_of_ble_eq_true rfl
  have hRc : 0 ≤ R.cells := by rw [hRe]; exact Nat.le_of_ble_eq_true rfl
  have hRs : 0 ≤ R.slots := by rw [hRe]; exact Nat.le_of_ble_eq_true rfl
  have hD := mA_D hD0
  have hta := hin.1
  have hN := mt_N hta
  refine lv_aload_n hx hb dM_count_0 rfl (lv_at hl 0 rfl) ?_
  refine lv_iconst (v := nI 0) hx hb dM_count_1 (by decide +kernel) ?_
  refine pf_M_55 (v := .int (nI 0)) hx hb hA hown hK hP hD hS 0 rfl rfl rfl (Nat.le_of_ble_eq_true rfl) dM_count_2 (fun H locs hP hD hS => ?_)
  have hP : va_P D vwA (mW a kI kL kZ (u.1, u.2.1, va_up u.2.2 0 0)) H := hP
  have hD : va_D (mA a) (mW a kI kL kZ (u.1, u.2.1, va_up u.2.2 0 0)) := hD
  have hinz : m_inv (m_thr u 0) N kd fa fb T so xa xb xc F M rs := hin
  have hNz := mt_N hinz.1
  have hzz : (m_thr u 0).2.2 0 = 0 := rfl
  have hP : va_P D vwA (mW a kI kL kZ (m_thr u 0)) H := hP
  have hD : va_D (mA a) (mW a kI kL kZ (m_thr u 0)) := hD
  refine lv_aload_n hx hb dM_count_5 rfl (lv_at hl 0 rfl) ?_
  refine ks_v (wf := mW a kI kL kZ) (u := (m_thr u 0)) ⟨hx, hb, hml, hown, hA⟩ (m_close l D a kI kL kZ (m_thr u 0) N kd fa fb T so xa xb xc hinz.1 F hinz.2.1 hinz.2.2.1 hinz.2.2.2.1 hinz.2.2.2.2.1 hinz.2.2.2.2.2.1) (kw_M_127 hA rfl rfl ⟨Nat.le_trans (Nat.le_of_ble_eq_true rfl) hRf, Nat.le_trans (Nat.le_of_ble_eq_true rfl) hRl⟩) hK hP hD hS (fun _ h => h) (fun u' => mW_adr u') 0 5 rfl rfl rfl hl.1 (Nat.le_of_ble_eq_true rfl) ⟨by omega, by omega⟩ dM_count_6 rfl (fun u1 H locs hu1 hP hD hS => ?_)
  have hinu1 := cls_inv hinz hu1
  have hNu1 := mt_N hinu1.1
  have hzu1 : u1.2.2 0 = 0 := (hu1.2.1 0 (by decide) (by decide)).trans hzz
  have hc3 := hu1.2.2.1
  have hfl := hu1.2.2.2.2
  refine lv_iconst (v := nI 0) hx hb dM_count_9 (by decide +kernel) ?_
  refine lv_istore_n (lv' := [(2, .int (nI 0)), (0, .ref (a 0)), (1, .int (nI 5))]) hx hb dM_count_10 rfl hl (by decide) rfl (fun ls hl => ?_)
  refine lv_iconst (v := nI 0) hx hb dM_count_11 (by decide +kernel) ?_
  refine lv_istore_n (lv' := [(3, .int (nI 0)), (2, .int (nI 0)), (0, .ref (a 0)), (1, .int (nI 5))]) hx hb dM_count_12 rfl hl (by decide) rfl (fun ls hl => ?_)
  have lp : ∀ (fu : Nat) (q n : Nat) (ls : Array Slot) (H : Heap) (locs : List Loc), q = tm_cnt (fun k => u1.1 0 k 1) n → n ≤ N → va_P D vwA (mW a kI kL kZ u1) H → va_D (mA a) (mW a kI kL kZ u1) → va_S (mA a) s.heap H locs → N - n < fu → lv_has ls 4 [(3, .int (nI n)), (2, .int (nI q)), (0, .ref (a 0)), (1, .int (nI 5))] → W p l e R s m ([.ref (a 0), .int (nI 5)] : List Value).toArray below meth c H locs 0 0 Q (F0 m 13 ls []) := by
    intro fu
    induction fu with
    | zero => intros; omega
    | succ fu ih13 =>
      intro q n ls H locs g1 g2 hP hD hS hfu hl
      refine lv_iload_n hx hb dM_count_13 rfl (lv_at hl 0 rfl) ?_
      refine lv_aload_n hx hb dM_count_14 rfl (lv_at hl 2 rfl) ?_
      refine gf_M_7 (v := .int (nI (u1.2.2 1))) hx hb hA hown hK hP 0 rfl rfl dM_count_15 ?_
      refine tq_ge hx hb dM_count_18 (tgt := 98) (by decide) (by omega) (by omega) (fun h18 => ?_) (fun h18 => ?_)
      · refine lv_iconst (v := nI 1) hx hb dM_count_98 (by decide +kernel) ?_
        refine lv_istore_n (lv' := [(3, .int (nI 1)), (2, .int (nI q)), (0, .ref (a 0)), (1, .int (nI 5))]) hx hb dM_count_99 rfl hl (by decide) rfl (fun ls hl => ?_)
        have lp2 : ∀ (fu : Nat) (q2 k : Nat) (ls : Array Slot) (H : Heap) (locs : List Loc), q2 = tm_cnt (fun k => u1.1 0 k 1) N → k ≤ 1 → va_P D vwA (mW a kI kL kZ u1) H → va_D (mA a) (mW a kI kL kZ u1) → va_S (mA a) s.heap H locs → 0 < fu → lv_has ls 4 [(3, .int (nI k)), (2, .int (nI q2)), (0, .ref (a 0)), (1, .int (nI 5))] → W p l e R s m ([.ref (a 0), .int (nI 5)] : List Value).toArray below meth c H locs 0 0 Q (F0 m 100 ls []) := by
          intro fu
          induction fu with
          | zero => intros; omega
          | succ fu ih100 =>
            intro q2 k ls H locs k1 k3 hP hD hS hfu hl
            refine lv_iload_n hx hb dM_count_100 rfl (lv_at hl 0 rfl) ?_
            refine lv_aload_n hx hb dM_count_101 rfl (lv_at hl 2 rfl) ?_
            refine gf_M_77 (v := .int (nI (u1.2.2 2))) hx hb hA hown hK hP 0 rfl rfl dM_count_102 ?_
            refine tq_gt hx hb dM_count_105 (tgt := 136) (by decide) (by omega) (by omega) (fun h105 => ?_) (fun h105 => ?_)
            · refine lv_iload_n hx hb dM_count_136 rfl (lv_at hl 3 rfl) ?_
              refine tq_zne hx hb dM_count_137 (tgt := 147) (by decide) (by omega) (fun h137 => ?_) (fun h137 => ?_)
              · refine lv_iload_n hx hb dM_count_147 rfl (lv_at hl 3 rfl) ?_
                refine lv_iconst (v := nI 2) hx hb dM_count_148 (by decide +kernel) ?_
                refine tq_ne hx hb dM_count_149 (tgt := 159) (by decide) (by omega) (by omega) (fun h149 => ?_) (fun h149 => ?_)
                · refine lv_iload_n hx hb dM_count_159 rfl (lv_at hl 3 rfl) ?_
                  refine lv_iconst (v := nI 4) hx hb dM_count_160 (by decide +kernel) ?_
                  refine tq_ne hx hb dM_count_161 (tgt := 171) (by decide) (by omega) (by omega) (fun h161 => ?_) (fun h161 => ?_)
                  · refine lv_iload_n hx hb dM_count_171 rfl (lv_at hl 3 rfl) ?_
                    refine lv_if_lt hx hb dM_count_172 (tgt := 181) (by decide) (fun h172 => ?_) (fun h172 => ?_)
                    · exact absurd h172 (nI_nn (by decide))
                    · refine lv_iload_n hx hb dM_count_175 rfl (lv_at hl 3 rfl) ?_
                      refine lv_bipush (v := nI 6) hx hb dM_count_176 (by decide +kernel) ?_
                      refine tq_le hx hb dM_count_178 (tgt := 185) (by decide) (by omega) (by omega) (fun h178 => ?_) (fun h178 => ?_)
                      · refine lv_iload_n hx hb dM_count_185 rfl (lv_at hl 1 rfl) ?_
                        subst hQe
                        exact W.iret (v := nI q2) hx hb hr (fun t ht hW => ⟨⟨_, u1, rfl, ⟨by rw [k1], hinu1, hzu1, hc3⟩, tq_hp ht hP⟩, hS.F ht⟩) hS.2.2 dM_count_186
                      · omega
                  · omega
                · omega
              · omega
            · refine lv_iload_n hx hb dM_count_108 rfl (lv_at hl 3 rfl) ?_
              refine lv_iconst (v := nI 3) hx hb dM_count_109 (by decide +kernel) ?_
              refine tq_ne hx hb dM_count_110 (tgt := 136) (by decide) (by omega) (by omega) (fun h110 => ?_) (fun h110 => ?_)
              · refine lv_iload_n hx hb dM_count_136 rfl (lv_at hl 3 rfl) ?_
                refine tq_zne hx hb dM_count_137 (tgt := 147) (by decide) (by omega) (fun h137 => ?_) (fun h137 => ?_)
                · refine lv_iload_n hx hb dM_count_147 rfl (lv_at hl 3 rfl) ?_
                  refine lv_iconst (v := nI 2) hx hb dM_count_148 (by decide +kernel) ?_
                  refine tq_ne hx hb dM_count_149 (tgt := 159) (by decide) (by omega) (by omega) (fun h149 => ?_) (fun h149 => ?_)
                  · refine lv_iload_n hx hb dM_count_159 rfl (lv_at hl 3 rfl) ?_
                    refine lv_iconst (v := nI 4) hx hb dM_count_160 (by decide +kernel) ?_
                    refine tq_ne hx hb dM_count_161 (tgt := 171) (by decide) (by omega) (by omega) (fun h161 => ?_) (fun h161 => ?_)
                    · refine lv_iload_n hx hb dM_count_171 rfl (lv_at hl 3 rfl) ?_
                      refine lv_if_lt hx hb dM_count_172 (tgt := 181) (by decide) (fun h172 => ?_) (fun h172 => ?_)
                      · exact absurd h172 (nI_nn (by decide))
                      · refine lv_iload_n hx hb dM_count_175 rfl (lv_at hl 3 rfl) ?_
                        refine lv_bipush (v := nI 6) hx hb dM_count_176 (by decide +kernel) ?_
                        refine tq_le hx hb dM_count_178 (tgt := 185) (by decide) (by omega) (by omega) (fun h178 => ?_) (fun h178 => ?_)
                        · refine lv_iload_n hx hb dM_count_185 rfl (lv_at hl 1 rfl) ?_
                          subst hQe
                          exact W.iret (v := nI q2) hx hb hr (fun t ht hW => ⟨⟨_, u1, rfl, ⟨by rw [k1], hinu1, hzu1, hc3⟩, tq_hp ht hP⟩, hS.F ht⟩) hS.2.2 dM_count_186
                        · omega
                    · omega
                  · omega
                · omega
              · omega
        exact lp2 _ q 1 ls _ _ (by rw [g1, show n = N by omega]) (by omega) hP hD hS (Nat.lt_succ_self _) (lv_sub hl [0, 1, 2, 3] rfl)
      · refine lv_iload_n hx hb dM_count_21 rfl (lv_at hl 1 rfl) ?_
        refine lv_iload_n hx hb dM_count_22 rfl (lv_at hl 3 rfl) ?_
        refine lv_iconst (v := nI 1) hx hb dM_count_23 (by decide +kernel) ?_
        refine tq_ne hx hb dM_count_24 (tgt := 45) (by decide) (by omega) (by omega) (fun h24 => ?_) (fun h24 => ?_)
        · refine lv_iload_n hx hb dM_count_45 rfl (lv_at hl 3 rfl) ?_
          refine lv_iconst (v := nI 5) hx hb dM_count_46 (by decide +kernel) ?_
          refine tq_ne hx hb dM_count_47 (tgt := 70) (by decide) (by omega) (by omega) (fun h47 => ?_) (fun h47 => ?_)
          · omega
          · refine lv_aload_n hx hb dM_count_50 rfl (lv_at hl 2 rfl) ?_
            refine gf_M_42 (v := .ref (a 10)) hx hb hA hown hK hP 0 rfl rfl dM_count_51 ?_
            refine lv_iload_n hx hb dM_count_54 rfl (lv_at hl 0 rfl) ?_
            refine lv_iconst (v := nI 1) hx hb dM_count_55 (by decide +kernel) ?_
            refine k_in ⟨hx, hb, hml, hown, hA⟩ (kw_M_84 hA rfl rfl ⟨Nat.le_trans (Nat.le_of_ble_eq_true rfl) hRf, Nat.le_trans (Nat.le_of_ble_eq_true rfl) hRl⟩) hK hP hS 10 1 rfl rfl (by omega) (by omega) (by decide) hl.1 (Nat.le_of_ble_eq_true rfl) ⟨by omega, by omega⟩ dM_count_56 (fun H locs hP hS => ?_)
            refine tq_bf hx hb dM_count_59 (tgt := 66) (by decide) (fun h59 => ?_) (fun h59 => ?_)
            · have hstep : q + 0 = tm_cnt (fun k => u1.1 0 k 1) (n + 1) := by rw [cnt_no (p := (fun k => u1.1 0 k 1)) h59]; exact g1
              refine lv_iconst (v := nI 0) hx hb dM_count_66 (by decide +kernel) ?_
              refine lv_goto hx hb dM_count_67 (tgt := 90) (by decide) ?_
              refine tq_iadd hx hb dM_count_90 ?_
              refine lv_istore_n (lv' := [(2, .int (nI (q + 0))), (3, .int (nI n)), (0, .ref (a 0)), (1, .int (nI 5))]) hx hb dM_count_91 rfl hl (by decide) rfl (fun ls hl => ?_)
              refine lv_iinc (k := 1) (lv' := [(3, .int (nI (n + 1))), (2, .int (nI (q + 0))), (0, .ref (a 0)), (1, .int (nI 5))]) hx hb dM_count_92 hl rfl (nI_1 _) (by decide) rfl (fun ls hl => ?_)
              refine lv_goto hx hb dM_count_95 (tgt := 13) (by decide) ?_
              exact ih13 (q + 0) (n + 1) ls H locs (hstep) (by omega) hP hD hS (by omega) (lv_sub hl [0, 1, 2, 3] rfl)
            · have hstep : q + 1 = tm_cnt (fun k => u1.1 0 k 1) (n + 1) := by rw [cnt_yes (p := (fun k => u1.1 0 k 1)) h59, g1]
              refine lv_iconst (v := nI 1) hx hb dM_count_62 (by decide +kernel) ?_
              refine lv_goto hx hb dM_count_63 (tgt := 90) (by decide) ?_
              refine tq_iadd hx hb dM_count_90 ?_
              refine lv_istore_n (lv' := [(2, .int (nI (q + 1))), (3, .int (nI n)), (0, .ref (a 0)), (1, .int (nI 5))]) hx hb dM_count_91 rfl hl (by decide) rfl (fun ls hl => ?_)
              refine lv_iinc (k := 1) (lv' := [(3, .int (nI (n + 1))), (2, .int (nI (q + 1))), (0, .ref (a 0)), (1, .int (nI 5))]) hx hb dM_count_92 hl rfl (nI_1 _) (by decide) rfl (fun ls hl => ?_)
              refine lv_goto hx hb dM_count_95 (tgt := 13) (by decide) ?_
              exact ih13 (q + 1) (n + 1) ls H locs (hstep) (by omega) hP hD hS (by omega) (lv_sub hl [0, 1, 2, 3] rfl)
        · omega
  exact lp _ 0 0 ls _ _ rfl (by omega) hP hD hS (Nat.lt_succ_self _) (lv_sub hl [0, 1, 2, 3] rfl)
set_option maxHeartbeats 4000000 in
set_option maxRecDepth 100000 in
/-- m_count6 -/
theorem m_count6 (l : Launch) (D : va_G) (a : Nat → Nat) (kI kL kZ : ClassId) (u : sU) (N : Nat) (kd fa fb : Nat → Nat) (T : Nat) (so xa xb xc : Nat → Nat) (F : Nat → Prop) (M : Nat) (rs : Nat → Nat) (hin : m_inv u N kd fa fb T so xa xb xc F M rs)  : Met l yM_count (wM_count :: wA) ({ frames := 5, cells := 0, slots := 0, locals := 118 }) (va_Pc [.ref (a 0), .int (nI 6)] (tq_wB D vwA (mW a kI kL kZ u) (sT kI kL kZ))) (va_Qi (fun r (u' : sU) => (r = nI (tm_cnt (fun k => m_le u' k == k) N)) ∧ m_inv u' N kd fa fb T so xa xb xc F M rs ∧ u'.2.2 0 = 0 ∧ u'.2.2 3 = 1) (fun u' t => va_P D vwA (mW a kI kL kZ u') t.heap) (mA a)) 0 0 (mA a) := by
  refine Met.ofW (cc := bM_count) (maxL := 4) (ret := (some .int)) (by decide +kernel) rfl ?_
  intro p e s m args below meth c s₁ B1 hml hv
  obtain ⟨rfl, hP, hK, hD0⟩ := hv
  have hx := B1.exec
  have hb := B1.bytes
  have hr := B1.returns
  have hA : ∀ w ∈ wA, w.before ([.ref (a 0), .int (nI 6)] : List Value).toArray s = true := fun w h => atoms_spec (ws := wM_count :: wA) B1.pre w (List.mem_cons_of_mem _ h)
  have hown : s.vm.findClass RcM = some m.cls := findClass_of_methodNamed B1.named
  have hlocks := B1.notSynchronized
  have hS : va_S (mA a) s.heap s.heap [] := va_S.rf
  have hl := lv_entry ([.ref (a 0), .int (nI 6)]) (n := 4) (Nat.le_of_ble_eq_true rfl)
  rw [lg_entry_eq]
  generalize (lg_sl ([.ref (a 0), .int (nI 6)]) ++ List.replicate (4 - (lg_sl ([.ref (a 0), .int (nI 6)])).length) Slot.unset).toArray = ls at hl ⊢
  have hl : lv_has ls 4 [(0, .ref (a 0)), (1, .int (nI 6))] := hl
  refine tq_gen (fun R Q hRe hQe => ?_)
  have hRf : 5 ≤ R.frames := by rw [hRe]; exact Nat.le_of_ble_eq_true rfl
  have hRl : 118 ≤ R.locals := by rw [hRe]; exact Nat.le_of_ble_eq_true rfl
  have hRc : 0 ≤ R.cells := by rw [hRe]; exact Nat.le_of_ble_eq_true rfl
  have hRs : 0 ≤ R.slots := by rw [hRe]; exact Nat.le_of_ble_eq_true rfl
  have hD := mA_D hD0
  have hta := hin.1
  have hN := mt_N hta
  refine lv_aload_n hx hb dM_count_0 rfl (lv_at hl 0 rfl) ?_
  refine lv_iconst (v := nI 0) hx hb dM_count_1 (by decide +kernel) ?_
  refine pf_M_55 (v := .int (nI 0)) hx hb hA hown hK hP hD hS 0 rfl rfl rfl (Nat.le_of_ble_eq_true rfl) dM_count_2 (fun H locs hP hD hS => ?_)
  have hP : va_P D vwA (mW a kI kL kZ (u.1, u.2.1, va_up u.2.2 0 0)) H := hP
  have hD : va_D (mA a) (mW a kI kL kZ (u.1, u.2.1, va_up u.2.2 0 0)) := hD
  have hinz : m_inv (m_thr u 0) N kd fa fb T so xa xb xc F M rs := hin
  have hNz := mt_N hinz.1
  have hzz : (m_thr u 0).2.2 0 = 0 := rfl
  have hP : va_P D vwA (mW a kI kL kZ (m_thr u 0)) H := hP
  have hD : va_D (mA a) (mW a kI kL kZ (m_thr u 0)) := hD
  refine lv_aload_n hx hb dM_count_5 rfl (lv_at hl 0 rfl) ?_
  refine ks_v (wf := mW a kI kL kZ) (u := (m_thr u 0)) ⟨hx, hb, hml, hown, hA⟩ (m_close l D a kI kL kZ (m_thr u 0) N kd fa fb T so xa xb xc hinz.1 F hinz.2.1 hinz.2.2.1 hinz.2.2.2.1 hinz.2.2.2.2.1 hinz.2.2.2.2.2.1) (kw_M_127 hA rfl rfl ⟨Nat.le_trans (Nat.le_of_ble_eq_true rfl) hRf, Nat.le_trans (Nat.le_of_ble_eq_true rfl) hRl⟩) hK hP hD hS (fun _ h => h) (fun u' => mW_adr u') 0 5 rfl rfl rfl hl.1 (Nat.le_of_ble_eq_true rfl) ⟨by omega, by omega⟩ dM_count_6 rfl (fun u1 H locs hu1 hP hD hS => ?_)
  have hinu1 := cls_inv hinz hu1
  have hNu1 := mt_N hinu1.1
  have hzu1 : u1.2.2 0 = 0 := (hu1.2.1 0 (by decide) (by decide)).trans hzz
  have hc3 := hu1.2.2.1
  have hfl := hu1.2.2.2.2
  refine lv_iconst (v := nI 0) hx hb dM_count_9 (by decide +kernel) ?_
  refine lv_istore_n (lv' := [(2, .int (nI 0)), (0, .ref (a 0)), (1, .int (nI 6))]) hx hb dM_count_10 rfl hl (by decide) rfl (fun ls hl => ?_)
  refine lv_iconst (v := nI 0) hx hb dM_count_11 (by decide +kernel) ?_
  refine lv_istore_n (lv' := [(3, .int (nI 0)), (2, .int (nI 0)), (0, .ref (a 0)), (1, .int (nI 6))]) hx hb dM_count_12 rfl hl (by decide) rfl (fun ls hl => ?_)
  have lp : ∀ (fu : Nat) (q n : Nat) (ls : Array Slot) (H : Heap) (locs : List Loc), q = tm_cnt (fun k => m_le u1 k == k) n → n ≤ N → va_P D vwA (mW a kI kL kZ u1) H → va_D (mA a) (mW a kI kL kZ u1) → va_S (mA a) s.heap H locs → N - n < fu → lv_has ls 4 [(3, .int (nI n)), (2, .int (nI q)), (0, .ref (a 0)), (1, .int (nI 6))] → W p l e R s m ([.ref (a 0), .int (nI 6)] : List Value).toArray below meth c H locs 0 0 Q (F0 m 13 ls []) := by
    intro fu
    induction fu with
    | zero => intros; omega
    | succ fu ih13 =>
      intro q n ls H locs g1 g2 hP hD hS hfu hl
      refine lv_iload_n hx hb dM_count_13 rfl (lv_at hl 0 rfl) ?_
      refine lv_aload_n hx hb dM_count_14 rfl (lv_at hl 2 rfl) ?_
      refine gf_M_7 (v := .int (nI (u1.2.2 1))) hx hb hA hown hK hP 0 rfl rfl dM_count_15 ?_
      refine tq_ge hx hb dM_count_18 (tgt := 98) (by decide) (by omega) (by omega) (fun h18 => ?_) (fun h18 => ?_)
      · refine lv_iconst (v := nI 1) hx hb dM_count_98 (by decide +kernel) ?_
        refine lv_istore_n (lv' := [(3, .int (nI 1)), (2, .int (nI q)), (0, .ref (a 0)), (1, .int (nI 6))]) hx hb dM_count_99 rfl hl (by decide) rfl (fun ls hl => ?_)
        have lp2 : ∀ (fu : Nat) (q2 k : Nat) (ls : Array Slot) (H : Heap) (locs : List Loc), q2 = tm_cnt (fun k => m_le u1 k == k) N → k ≤ 1 → va_P D vwA (mW a kI kL kZ u1) H → va_D (mA a) (mW a kI kL kZ u1) → va_S (mA a) s.heap H locs → 0 < fu → lv_has ls 4 [(3, .int (nI k)), (2, .int (nI q2)), (0, .ref (a 0)), (1, .int (nI 6))] → W p l e R s m ([.ref (a 0), .int (nI 6)] : List Value).toArray below meth c H locs 0 0 Q (F0 m 100 ls []) := by
          intro fu
          induction fu with
          | zero => intros; omega
          | succ fu ih100 =>
            intro q2 k ls H locs k1 k3 hP hD hS hfu hl
            refine lv_iload_n hx hb dM_count_100 rfl (lv_at hl 0 rfl) ?_
            refine lv_aload_n hx hb dM_count_101 rfl (lv_at hl 2 rfl) ?_
            refine gf_M_77 (v := .int (nI (u1.2.2 2))) hx hb hA hown hK hP 0 rfl rfl dM_count_102 ?_
            refine tq_gt hx hb dM_count_105 (tgt := 136) (by decide) (by omega) (by omega) (fun h105 => ?_) (fun h105 => ?_)
            · refine lv_iload_n hx hb dM_count_136 rfl (lv_at hl 3 rfl) ?_
              refine tq_zne hx hb dM_count_137 (tgt := 147) (by decide) (by omega) (fun h137 => ?_) (fun h137 => ?_)
              · refine lv_iload_n hx hb dM_count_147 rfl (lv_at hl 3 rfl) ?_
                refine lv_iconst (v := nI 2) hx hb dM_count_148 (by decide +kernel) ?_
                refine tq_ne hx hb dM_count_149 (tgt := 159) (by decide) (by omega) (by omega) (fun h149 => ?_) (fun h149 => ?_)
                · refine lv_iload_n hx hb dM_count_159 rfl (lv_at hl 3 rfl) ?_
                  refine lv_iconst (v := nI 4) hx hb dM_count_160 (by decide +kernel) ?_
                  refine tq_ne hx hb dM_count_161 (tgt := 171) (by decide) (by omega) (by omega) (fun h161 => ?_) (fun h161 => ?_)
                  · refine lv_iload_n hx hb dM_count_171 rfl (lv_at hl 3 rfl) ?_
                    refine lv_if_lt hx hb dM_count_172 (tgt := 181) (by decide) (fun h172 => ?_) (fun h172 => ?_)
                    · exact absurd h172 (nI_nn (by decide))
                    · refine lv_iload_n hx hb dM_count_175 rfl (lv_at hl 3 rfl) ?_
                      refine lv_bipush (v := nI 6) hx hb dM_count_176 (by decide +kernel) ?_
                      refine tq_le hx hb dM_count_178 (tgt := 185) (by decide) (by omega) (by omega) (fun h178 => ?_) (fun h178 => ?_)
                      · refine lv_iload_n hx hb dM_count_185 rfl (lv_at hl 1 rfl) ?_
                        subst hQe
                        exact W.iret (v := nI q2) hx hb hr (fun t ht hW => ⟨⟨_, u1, rfl, ⟨by rw [k1], hinu1, hzu1, hc3⟩, tq_hp ht hP⟩, hS.F ht⟩) hS.2.2 dM_count_186
                      · omega
                  · omega
                · omega
              · omega
            · refine lv_iload_n hx hb dM_count_108 rfl (lv_at hl 3 rfl) ?_
              refine lv_iconst (v := nI 3) hx hb dM_count_109 (by decide +kernel) ?_
              refine tq_ne hx hb dM_count_110 (tgt := 136) (by decide) (by omega) (by omega) (fun h110 => ?_) (fun h110 => ?_)
              · refine lv_iload_n hx hb dM_count_136 rfl (lv_at hl 3 rfl) ?_
                refine tq_zne hx hb dM_count_137 (tgt := 147) (by decide) (by omega) (fun h137 => ?_) (fun h137 => ?_)
                · refine lv_iload_n hx hb dM_count_147 rfl (lv_at hl 3 rfl) ?_
                  refine lv_iconst (v := nI 2) hx hb dM_count_148 (by decide +kernel) ?_
                  refine tq_ne hx hb dM_count_149 (tgt := 159) (by decide) (by omega) (by omega) (fun h149 => ?_) (fun h149 => ?_)
                  · refine lv_iload_n hx hb dM_count_159 rfl (lv_at hl 3 rfl) ?_
                    refine lv_iconst (v := nI 4) hx hb dM_count_160 (by decide +kernel) ?_
                    refine tq_ne hx hb dM_count_161 (tgt := 171) (by decide) (by omega) (by omega) (fun h161 => ?_) (fun h161 => ?_)
                    · refine lv_iload_n hx hb dM_count_171 rfl (lv_at hl 3 rfl) ?_
                      refine lv_if_lt hx hb dM_count_172 (tgt := 181) (by decide) (fun h172 => ?_) (fun h172 => ?_)
                      · exact absurd h172 (nI_nn (by decide))
                      · refine lv_iload_n hx hb dM_count_175 rfl (lv_at hl 3 rfl) ?_
                        refine lv_bipush (v := nI 6) hx hb dM_count_176 (by decide +kernel) ?_
                        refine tq_le hx hb dM_count_178 (tgt := 185) (by decide) (by omega) (by omega) (fun h178 => ?_) (fun h178 => ?_)
                        · refine lv_iload_n hx hb dM_count_185 rfl (lv_at hl 1 rfl) ?_
                          subst hQe
                          exact W.iret (v := nI q2) hx hb hr (fun t ht hW => ⟨⟨_, u1, rfl, ⟨by rw [k1], hinu1, hzu1, hc3⟩, tq_hp ht hP⟩, hS.F ht⟩) hS.2.2 dM_count_186
                        · omega
                    · omega
                  · omega
                · omega
              · omega
        exact lp2 _ q 1 ls _ _ (by rw [g1, show n = N by omega]) (by omega) hP hD hS (Nat.lt_succ_self _) (lv_sub hl [0, 1, 2, 3] rfl)
      · refine lv_iload_n hx hb dM_count_21 rfl (lv_at hl 1 rfl) ?_
        refine lv_iload_n hx hb dM_count_22 rfl (lv_at hl 3 rfl) ?_
        refine lv_iconst (v := nI 1) hx hb dM_count_23 (by decide +kernel) ?_
        refine tq_ne hx hb dM_count_24 (tgt := 45) (by decide) (by omega) (by omega) (fun h24 => ?_) (fun h24 => ?_)
        · refine lv_iload_n hx hb dM_count_45 rfl (lv_at hl 3 rfl) ?_
          refine lv_iconst (v := nI 5) hx hb dM_count_46 (by decide +kernel) ?_
          refine tq_ne hx hb dM_count_47 (tgt := 70) (by decide) (by omega) (by omega) (fun h47 => ?_) (fun h47 => ?_)
          · refine lv_iload_n hx hb dM_count_70 rfl (lv_at hl 3 rfl) ?_
            refine lv_bipush (v := nI 6) hx hb dM_count_71 (by decide +kernel) ?_
            refine tq_ne hx hb dM_count_73 (tgt := 89) (by decide) (by omega) (by omega) (fun h73 => ?_) (fun h73 => ?_)
            · omega
            · refine lv_aload_n hx hb dM_count_76 rfl (lv_at hl 2 rfl) ?_
              refine lv_iload_n hx hb dM_count_77 rfl (lv_at hl 0 rfl) ?_
              refine ks_rv ⟨hx, hb, hml, hown, hA⟩ (m_least l D a kI kL kZ u1 n (by omega) (hfl.2.2.1 n (by omega)).1) (kw_M_134 hA rfl rfl ⟨Nat.le_trans (Nat.le_of_ble_eq_true rfl) hRf, Nat.le_trans (Nat.le_of_ble_eq_true rfl) hRl⟩) hK hP hS 0 5 rfl rfl rfl hl.1 (Nat.le_of_ble_eq_true rfl) ⟨by omega, by omega⟩ dM_count_78 rfl (fun H locs hP hS => ?_)
              refine tq_i (y := nI (m_le u1 n)) rfl ?_
              have hle := m_le_le u1 n
              refine lv_iload_n hx hb dM_count_81 rfl (lv_at hl 0 rfl) ?_
              refine tq_ne hx hb dM_count_82 (tgt := 89) (by decide) (by omega) (by omega) (fun h82 => ?_) (fun h82 => ?_)
              · have hstep : q + 0 = tm_cnt (fun k => m_le u1 k == k) (n + 1) := by rw [cnt_no (p := (fun k => m_le u1 k == k)) (n := n) (beq_eq_false_iff_ne.mpr h82)]; exact g1
                refine lv_iconst (v := nI 0) hx hb dM_count_89 (by decide +kernel) ?_
                refine tq_iadd hx hb dM_count_90 ?_
                refine lv_istore_n (lv' := [(2, .int (nI (q + 0))), (3, .int (nI n)), (0, .ref (a 0)), (1, .int (nI 6))]) hx hb dM_count_91 rfl hl (by decide) rfl (fun ls hl => ?_)
                refine lv_iinc (k := 1) (lv' := [(3, .int (nI (n + 1))), (2, .int (nI (q + 0))), (0, .ref (a 0)), (1, .int (nI 6))]) hx hb dM_count_92 hl rfl (nI_1 _) (by decide) rfl (fun ls hl => ?_)
                refine lv_goto hx hb dM_count_95 (tgt := 13) (by decide) ?_
                exact ih13 (q + 0) (n + 1) ls H locs (hstep) (by omega) hP hD hS (by omega) (lv_sub hl [0, 1, 2, 3] rfl)
              · have hstep : q + 1 = tm_cnt (fun k => m_le u1 k == k) (n + 1) := by rw [cnt_yes (p := (fun k => m_le u1 k == k)) (n := n) (beq_iff_eq.mpr h82), g1]
                refine lv_iconst (v := nI 1) hx hb dM_count_85 (by decide +kernel) ?_
                refine lv_goto hx hb dM_count_86 (tgt := 90) (by decide) ?_
                refine tq_iadd hx hb dM_count_90 ?_
                refine lv_istore_n (lv' := [(2, .int (nI (q + 1))), (3, .int (nI n)), (0, .ref (a 0)), (1, .int (nI 6))]) hx hb dM_count_91 rfl hl (by decide) rfl (fun ls hl => ?_)
                refine lv_iinc (k := 1) (lv' := [(3, .int (nI (n + 1))), (2, .int (nI (q + 1))), (0, .ref (a 0)), (1, .int (nI 6))]) hx hb dM_count_92 hl rfl (nI_1 _) (by decide) rfl (fun ls hl => ?_)
                refine lv_goto hx hb dM_count_95 (tgt := 13) (by decide) ?_
                exact ih13 (q + 1) (n + 1) ls H locs (hstep) (by omega) hP hD hS (by omega) (lv_sub hl [0, 1, 2, 3] rfl)
          · omega
        · omega
  exact lp _ 0 0 ls _ _ rfl (by omega) hP hD hS (Nat.lt_succ_self _) (lv_sub hl [0, 1, 2, 3] rfl)
set_option maxHeartbeats 4000000 in
set_option maxRecDepth 100000 in
/-- m_countN -/
theorem m_countN (l : Launch) (D : va_G) (a : Nat → Nat) (kI kL kZ : ClassId) (u : sU) (N : Nat) (kd fa fb : Nat → Nat) (T : Nat) (so xa xb xc : Nat → Nat) (F : Nat → Prop) (M : Nat) (rs : Nat → Nat) (hin : m_inv u N kd fa fb T so xa xb xc F M rs) (x : Int32) (hout : x.toInt < 0 ∨ 6 < x.toInt) : Met l yM_count (wM_count :: wA) ({ frames := 5, cells := 0, slots := 0, locals := 118 }) (va_Pc [.ref (a 0), .int x] (tq_wB D vwA (mW a kI kL kZ u) (sT kI kL kZ))) (va_Qi (fun r (u' : sU) => (r = -1) ∧ m_inv u' N kd fa fb T so xa xb xc F M rs ∧ u'.2.2 0 = 0 ∧ u'.2.2 3 = 1) (fun u' t => va_P D vwA (mW a kI kL kZ u') t.heap) (mA a)) 0 0 (mA a) := by
  refine Met.ofW (cc := bM_count) (maxL := 4) (ret := (some .int)) (by decide +kernel) rfl ?_
  intro p e s m args below meth c s₁ B1 hml hv
  obtain ⟨rfl, hP, hK, hD0⟩ := hv
  have hx := B1.exec
  have hb := B1.bytes
  have hr := B1.returns
  have hA : ∀ w ∈ wA, w.before ([.ref (a 0), .int x] : List Value).toArray s = true := fun w h => atoms_spec (ws := wM_count :: wA) B1.pre w (List.mem_cons_of_mem _ h)
  have hown : s.vm.findClass RcM = some m.cls := findClass_of_methodNamed B1.named
  have hlocks := B1.notSynchronized
  have hS : va_S (mA a) s.heap s.heap [] := va_S.rf
  have hl := lv_entry ([.ref (a 0), .int x]) (n := 4) (Nat.le_of_ble_eq_true rfl)
  rw [lg_entry_eq]
  generalize (lg_sl ([.ref (a 0), .int x]) ++ List.replicate (4 - (lg_sl ([.ref (a 0), .int x])).length) Slot.unset).toArray = ls at hl ⊢
  have hl : lv_has ls 4 [(0, .ref (a 0)), (1, .int x)] := hl
  refine tq_gen (fun R Q hRe hQe => ?_)
  have hRf : 5 ≤ R.frames := by rw [hRe]; exact Nat.le_of_ble_eq_true rfl
  have hRl : 118 ≤ R.locals := by rw [hRe]; exact Nat.le_of_ble_eq_true rfl
  have hRc : 0 ≤ R.cells := by rw [hRe]; exact Nat.le_of_ble_eq_true rfl
  have hRs : 0 ≤ R.slots := by rw [hRe]; exact Nat.le_of_ble_eq_true rfl
  have hD := mA_D hD0
  have hta := hin.1
  have hN := mt_N hta
  refine lv_aload_n hx hb dM_count_0 rfl (lv_at hl 0 rfl) ?_
  refine lv_iconst (v := nI 0) hx hb dM_count_1 (by decide +kernel) ?_
  refine pf_M_55 (v := .int (nI 0)) hx hb hA hown hK hP hD hS 0 rfl rfl rfl (Nat.le_of_ble_eq_true rfl) dM_count_2 (fun H locs hP hD hS => ?_)
  have hP : va_P D vwA (mW a kI kL kZ (u.1, u.2.1, va_up u.2.2 0 0)) H := hP
  have hD : va_D (mA a) (mW a kI kL kZ (u.1, u.2.1, va_up u.2.2 0 0)) := hD
  have hinz : m_inv (m_thr u 0) N kd fa fb T so xa xb xc F M rs := hin
  have hNz := mt_N hinz.1
  have hzz : (m_thr u 0).2.2 0 = 0 := rfl
  have hP : va_P D vwA (mW a kI kL kZ (m_thr u 0)) H := hP
  have hD : va_D (mA a) (mW a kI kL kZ (m_thr u 0)) := hD
  refine lv_aload_n hx hb dM_count_5 rfl (lv_at hl 0 rfl) ?_
  refine ks_v (wf := mW a kI kL kZ) (u := (m_thr u 0)) ⟨hx, hb, hml, hown, hA⟩ (m_close l D a kI kL kZ (m_thr u 0) N kd fa fb T so xa xb xc hinz.1 F hinz.2.1 hinz.2.2.1 hinz.2.2.2.1 hinz.2.2.2.2.1 hinz.2.2.2.2.2.1) (kw_M_127 hA rfl rfl ⟨Nat.le_trans (Nat.le_of_ble_eq_true rfl) hRf, Nat.le_trans (Nat.le_of_ble_eq_true rfl) hRl⟩) hK hP hD hS (fun _ h => h) (fun u' => mW_adr u') 0 5 rfl rfl rfl hl.1 (Nat.le_of_ble_eq_true rfl) ⟨by omega, by omega⟩ dM_count_6 rfl (fun u1 H locs hu1 hP hD hS => ?_)
  have hinu1 := cls_inv hinz hu1
  have hNu1 := mt_N hinu1.1
  have hzu1 : u1.2.2 0 = 0 := (hu1.2.1 0 (by decide) (by decide)).trans hzz
  have hc3 := hu1.2.2.1
  have hfl := hu1.2.2.2.2
  refine lv_iconst (v := nI 0) hx hb dM_count_9 (by decide +kernel) ?_
  refine lv_istore_n (lv' := [(2, .int (nI 0)), (0, .ref (a 0)), (1, .int x)]) hx hb dM_count_10 rfl hl (by decide) rfl (fun ls hl => ?_)
  refine lv_iconst (v := nI 0) hx hb dM_count_11 (by decide +kernel) ?_
  refine lv_istore_n (lv' := [(3, .int (nI 0)), (2, .int (nI 0)), (0, .ref (a 0)), (1, .int x)]) hx hb dM_count_12 rfl hl (by decide) rfl (fun ls hl => ?_)
  have lp : ∀ (fu : Nat) (q n : Nat) (ls : Array Slot) (H : Heap) (locs : List Loc), q = tm_cnt (fun _ => false) n → n ≤ N → va_P D vwA (mW a kI kL kZ u1) H → va_D (mA a) (mW a kI kL kZ u1) → va_S (mA a) s.heap H locs → N - n < fu → lv_has ls 4 [(3, .int (nI n)), (2, .int (nI q)), (0, .ref (a 0)), (1, .int x)] → W p l e R s m ([.ref (a 0), .int x] : List Value).toArray below meth c H locs 0 0 Q (F0 m 13 ls []) := by
    intro fu
    induction fu with
    | zero => intros; omega
    | succ fu ih13 =>
      intro q n ls H locs g1 g2 hP hD hS hfu hl
      refine lv_iload_n hx hb dM_count_13 rfl (lv_at hl 0 rfl) ?_
      refine lv_aload_n hx hb dM_count_14 rfl (lv_at hl 2 rfl) ?_
      refine gf_M_7 (v := .int (nI (u1.2.2 1))) hx hb hA hown hK hP 0 rfl rfl dM_count_15 ?_
      refine tq_ge hx hb dM_count_18 (tgt := 98) (by decide) (by omega) (by omega) (fun h18 => ?_) (fun h18 => ?_)
      · refine lv_iconst (v := nI 1) hx hb dM_count_98 (by decide +kernel) ?_
        refine lv_istore_n (lv' := [(3, .int (nI 1)), (2, .int (nI q)), (0, .ref (a 0)), (1, .int x)]) hx hb dM_count_99 rfl hl (by decide) rfl (fun ls hl => ?_)
        have lp2 : ∀ (fu : Nat) (q2 k : Nat) (ls : Array Slot) (H : Heap) (locs : List Loc), q2 = tm_cnt (fun _ => false) N → k ≤ 1 → va_P D vwA (mW a kI kL kZ u1) H → va_D (mA a) (mW a kI kL kZ u1) → va_S (mA a) s.heap H locs → 0 < fu → lv_has ls 4 [(3, .int (nI k)), (2, .int (nI q2)), (0, .ref (a 0)), (1, .int x)] → W p l e R s m ([.ref (a 0), .int x] : List Value).toArray below meth c H locs 0 0 Q (F0 m 100 ls []) := by
          intro fu
          induction fu with
          | zero => intros; omega
          | succ fu ih100 =>
            intro q2 k ls H locs k1 k3 hP hD hS hfu hl
            refine lv_iload_n hx hb dM_count_100 rfl (lv_at hl 0 rfl) ?_
            refine lv_aload_n hx hb dM_count_101 rfl (lv_at hl 2 rfl) ?_
            refine gf_M_77 (v := .int (nI (u1.2.2 2))) hx hb hA hown hK hP 0 rfl rfl dM_count_102 ?_
            refine tq_gt hx hb dM_count_105 (tgt := 136) (by decide) (by omega) (by omega) (fun h105 => ?_) (fun h105 => ?_)
            · refine lv_iload_n hx hb dM_count_136 rfl (lv_at hl 3 rfl) ?_
              refine lv_if_ne hx hb dM_count_137 (tgt := 147) (by decide) (fun h137 => ?_) (fun h137 => ?_)
              · refine lv_iload_n hx hb dM_count_147 rfl (lv_at hl 3 rfl) ?_
                refine lv_iconst (v := nI 2) hx hb dM_count_148 (by decide +kernel) ?_
                refine lv_icmp_ne hx hb dM_count_149 (tgt := 159) (by decide) (fun h149 => ?_) (fun h149 => ?_)
                · refine lv_iload_n hx hb dM_count_159 rfl (lv_at hl 3 rfl) ?_
                  refine lv_iconst (v := nI 4) hx hb dM_count_160 (by decide +kernel) ?_
                  refine lv_icmp_ne hx hb dM_count_161 (tgt := 171) (by decide) (fun h161 => ?_) (fun h161 => ?_)
                  · refine lv_iload_n hx hb dM_count_171 rfl (lv_at hl 3 rfl) ?_
                    refine lv_if_lt hx hb dM_count_172 (tgt := 181) (by decide) (fun h172 => ?_) (fun h172 => ?_)
                    · refine lv_iconst (v := (-1)) hx hb dM_count_181 (by decide +kernel) ?_
                      refine lv_goto hx hb dM_count_182 (tgt := 186) (by decide) ?_
                      subst hQe
                      exact W.iret (v := (-1)) hx hb hr (fun t ht hW => ⟨⟨_, u1, rfl, ⟨rfl, hinu1, hzu1, hc3⟩, tq_hp ht hP⟩, hS.F ht⟩) hS.2.2 dM_count_186
                    · refine lv_iload_n hx hb dM_count_175 rfl (lv_at hl 3 rfl) ?_
                      refine lv_bipush (v := nI 6) hx hb dM_count_176 (by decide +kernel) ?_
                      refine lv_icmp_le hx hb dM_count_178 (tgt := 185) (by decide) (fun h178 => ?_) (fun h178 => ?_)
                      · exact False.elim (hout.elim (fun z => h172 (by rw [Int32.lt_iff_toInt_lt]; exact z)) (fun z => by rw [Int32.le_iff_toInt_le, nI_toInt (by decide)] at h178; omega))
                      · refine lv_iconst (v := (-1)) hx hb dM_count_181 (by decide +kernel) ?_
                        refine lv_goto hx hb dM_count_182 (tgt := 186) (by decide) ?_
                        subst hQe
                        exact W.iret (v := (-1)) hx hb hr (fun t ht hW => ⟨⟨_, u1, rfl, ⟨rfl, hinu1, hzu1, hc3⟩, tq_hp ht hP⟩, hS.F ht⟩) hS.2.2 dM_count_186
                  · exact absurd h161 (fun z => by rw [z, nI_toInt (by decide)] at hout; omega)
                · exact absurd h149 (fun z => by rw [z, nI_toInt (by decide)] at hout; omega)
              · exact absurd h137 (fun z => by rw [z] at hout; exact absurd hout (by decide))
            · refine lv_iload_n hx hb dM_count_108 rfl (lv_at hl 3 rfl) ?_
              refine lv_iconst (v := nI 3) hx hb dM_count_109 (by decide +kernel) ?_
              refine lv_icmp_ne hx hb dM_count_110 (tgt := 136) (by decide) (fun h110 => ?_) (fun h110 => ?_)
              · refine lv_iload_n hx hb dM_count_136 rfl (lv_at hl 3 rfl) ?_
                refine lv_if_ne hx hb dM_count_137 (tgt := 147) (by decide) (fun h137 => ?_) (fun h137 => ?_)
                · refine lv_iload_n hx hb dM_count_147 rfl (lv_at hl 3 rfl) ?_
                  refine lv_iconst (v := nI 2) hx hb dM_count_148 (by decide +kernel) ?_
                  refine lv_icmp_ne hx hb dM_count_149 (tgt := 159) (by decide) (fun h149 => ?_) (fun h149 => ?_)
                  · refine lv_iload_n hx hb dM_count_159 rfl (lv_at hl 3 rfl) ?_
                    refine lv_iconst (v := nI 4) hx hb dM_count_160 (by decide +kernel) ?_
                    refine lv_icmp_ne hx hb dM_count_161 (tgt := 171) (by decide) (fun h161 => ?_) (fun h161 => ?_)
                    · refine lv_iload_n hx hb dM_count_171 rfl (lv_at hl 3 rfl) ?_
                      refine lv_if_lt hx hb dM_count_172 (tgt := 181) (by decide) (fun h172 => ?_) (fun h172 => ?_)
                      · refine lv_iconst (v := (-1)) hx hb dM_count_181 (by decide +kernel) ?_
                        refine lv_goto hx hb dM_count_182 (tgt := 186) (by decide) ?_
                        subst hQe
                        exact W.iret (v := (-1)) hx hb hr (fun t ht hW => ⟨⟨_, u1, rfl, ⟨rfl, hinu1, hzu1, hc3⟩, tq_hp ht hP⟩, hS.F ht⟩) hS.2.2 dM_count_186
                      · refine lv_iload_n hx hb dM_count_175 rfl (lv_at hl 3 rfl) ?_
                        refine lv_bipush (v := nI 6) hx hb dM_count_176 (by decide +kernel) ?_
                        refine lv_icmp_le hx hb dM_count_178 (tgt := 185) (by decide) (fun h178 => ?_) (fun h178 => ?_)
                        · exact False.elim (hout.elim (fun z => h172 (by rw [Int32.lt_iff_toInt_lt]; exact z)) (fun z => by rw [Int32.le_iff_toInt_le, nI_toInt (by decide)] at h178; omega))
                        · refine lv_iconst (v := (-1)) hx hb dM_count_181 (by decide +kernel) ?_
                          refine lv_goto hx hb dM_count_182 (tgt := 186) (by decide) ?_
                          subst hQe
                          exact W.iret (v := (-1)) hx hb hr (fun t ht hW => ⟨⟨_, u1, rfl, ⟨rfl, hinu1, hzu1, hc3⟩, tq_hp ht hP⟩, hS.F ht⟩) hS.2.2 dM_count_186
                    · exact absurd h161 (fun z => by rw [z, nI_toInt (by decide)] at hout; omega)
                  · exact absurd h149 (fun z => by rw [z, nI_toInt (by decide)] at hout; omega)
                · exact absurd h137 (fun z => by rw [z] at hout; exact absurd hout (by decide))
              · exact absurd h110 (fun z => by rw [z, nI_toInt (by decide)] at hout; omega)
        exact lp2 _ q 1 ls _ _ (by rw [g1, show n = N by omega]) (by omega) hP hD hS (Nat.lt_succ_self _) (lv_sub hl [0, 1, 2, 3] rfl)
      · refine lv_iload_n hx hb dM_count_21 rfl (lv_at hl 1 rfl) ?_
        refine lv_iload_n hx hb dM_count_22 rfl (lv_at hl 3 rfl) ?_
        refine lv_iconst (v := nI 1) hx hb dM_count_23 (by decide +kernel) ?_
        refine lv_icmp_ne hx hb dM_count_24 (tgt := 45) (by decide) (fun h24 => ?_) (fun h24 => ?_)
        · refine lv_iload_n hx hb dM_count_45 rfl (lv_at hl 3 rfl) ?_
          refine lv_iconst (v := nI 5) hx hb dM_count_46 (by decide +kernel) ?_
          refine lv_icmp_ne hx hb dM_count_47 (tgt := 70) (by decide) (fun h47 => ?_) (fun h47 => ?_)
          · refine lv_iload_n hx hb dM_count_70 rfl (lv_at hl 3 rfl) ?_
            refine lv_bipush (v := nI 6) hx hb dM_count_71 (by decide +kernel) ?_
            refine lv_icmp_ne hx hb dM_count_73 (tgt := 89) (by decide) (fun h73 => ?_) (fun h73 => ?_)
            · have hstep : q + 0 = tm_cnt (fun _ => false) (n + 1) := by rw [cnt_no (p := (fun _ => false)) (n := n) rfl]; exact g1
              refine lv_iconst (v := nI 0) hx hb dM_count_89 (by decide +kernel) ?_
              refine tq_iadd hx hb dM_count_90 ?_
              refine lv_istore_n (lv' := [(2, .int (nI (q + 0))), (3, .int (nI n)), (0, .ref (a 0)), (1, .int x)]) hx hb dM_count_91 rfl hl (by decide) rfl (fun ls hl => ?_)
              refine lv_iinc (k := 1) (lv' := [(3, .int (nI (n + 1))), (2, .int (nI (q + 0))), (0, .ref (a 0)), (1, .int x)]) hx hb dM_count_92 hl rfl (nI_1 _) (by decide) rfl (fun ls hl => ?_)
              refine lv_goto hx hb dM_count_95 (tgt := 13) (by decide) ?_
              exact ih13 (q + 0) (n + 1) ls H locs (hstep) (by omega) hP hD hS (by omega) (lv_sub hl [0, 1, 2, 3] rfl)
            · exact absurd h73 (fun z => by rw [z, nI_toInt (by decide)] at hout; omega)
          · exact absurd h47 (fun z => by rw [z, nI_toInt (by decide)] at hout; omega)
        · exact absurd h24 (fun z => by rw [z, nI_toInt (by decide)] at hout; omega)
  exact lp _ 0 0 ls _ _ rfl (by omega) hP hD hS (Nat.lt_succ_self _) (lv_sub hl [0, 1, 2, 3] rfl)
