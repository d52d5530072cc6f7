/-! The model: what changes its tables. Written by wip/whole/gen/genM2.py. -/
def m_new (u : sU) (g x y : Nat) : sU := (u.1, va_up (va_up (va_up u.2.1 0 (upd (u.2.1 0) (u.2.2 1) (nI g))) 1 (upd (u.2.1 1) (u.2.2 1) (nI x))) 2 (upd (u.2.1 2) (u.2.2 1) (nI y)), va_up (va_up u.2.2 1 (u.2.2 1 + 1)) 3 0)
def m_tell (u : sU) (k x y z : Int32) : sU := (u.1, va_up (va_up (va_up (va_up (va_up u.2.1 3 (upd (u.2.1 3) (u.2.2 2 + 1) k)) 4 (upd (u.2.1 4) (u.2.2 2 + 1) x)) 5 (upd (u.2.1 5) (u.2.2 2 + 1) y)) 6 (upd (u.2.1 6) (u.2.2 2 + 1) z)) 7 (upd (u.2.1 7) (u.2.2 2 + 1) (nI 1)), va_up (va_up u.2.2 2 (u.2.2 2 + 1)) 3 0)
def m_back (u : sU) (k : Nat) : sU := (u.1, va_up u.2.1 7 (upd (u.2.1 7) k (nI 0)), va_up (va_up u.2.2 0 0) 3 0)
theorem made_no {u : sU} {N : Nat} {kd fa fb : Nat → Nat} {T : Nat} {so xa xb xc : Nat → Nat} {g x y k : Nat} (hta : m_tab u N kd fa fb T so xa xb xc) (hk : k < N) (hg : g = 2 ∨ g = 3) (h : ¬ u.2.1 0 k = nI (g + 1) ∨ ¬ u.2.1 1 k = nI x ∨ ¬ u.2.1 2 k = nI y) : kd k = g → ¬ (fa k = x ∧ fb k = y) := fun e z => by
  rcases h with h | h | h
  · exact h ((mt_k hta hk (by omega) (by omega)).mpr e)
  · rcases hg with rfl | rfl
    · exact h (by rw [(mt_2 hta hk e).1, z.1])
    · exact h (by rw [(mt_3 hta hk e).1, z.1])
  · rcases hg with rfl | rfl
    · exact h (by rw [(mt_2 hta hk e).2.1, z.2])
    · exact h (by rw [(mt_3 hta hk e).2.1, z.2])
theorem made_yes {u : sU} {N : Nat} {kd fa fb : Nat → Nat} {T : Nat} {so xa xb xc : Nat → Nat} {g x y k : Nat} (hta : m_tab u N kd fa fb T so xa xb xc) (hk : k < N) (hg : g = 2 ∨ g = 3) (hx : x < 160) (hy : y < 160) (h1 : u.2.1 0 k = nI (g + 1)) (h2 : u.2.1 1 k = nI x) (h3 : u.2.1 2 k = nI y) : kd k = g ∧ fa k = x ∧ fb k = y := by
  have e := (mt_k hta hk (show 1 ≤ g by omega) (by omega)).mp h1
  have hN := mt_N hta
  refine ⟨e, ?_⟩
  rcases hg with rfl | rfl
  · obtain ⟨a1, a2, a3, a4⟩ := mt_2 hta hk e
    exact ⟨(nI_eq (by omega) (by omega)).mp (a1.symm.trans h2), (nI_eq (by omega) (by omega)).mp (a2.symm.trans h3)⟩
  · obtain ⟨a1, a2, a3, a4⟩ := mt_3 hta hk e
    exact ⟨(nI_eq (by omega) (by omega)).mp (a1.symm.trans h2), (nI_eq (by omega) (by omega)).mp (a2.symm.trans h3)⟩
theorem made_lo {u : sU} {N : Nat} {kd fa fb : Nat → Nat} {T : Nat} {so xa xb xc : Nat → Nat} {g x y : Nat} (hta : m_tab u N kd fa fb T so xa xb xc) (hg : g = 2 ∨ g = 3) : ∀ k, k < 2 → kd k = g → ¬ (fa k = x ∧ fb k = y) := fun k hk e => by
  have h0 := hta.2.2.2.2.2.1
  have h1 := hta.2.2.2.2.2.2.1
  rcases Nat.lt_or_ge k 1 with w | w
  · rw [show k = 0 by omega] at e; omega
  · rw [show k = 1 by omega] at e; omega
theorem made_end {u u' w : sU} {N : Nat} {kd fa fb : Nat → Nat} {g x y : Nat} {r : Int32} (h : ∀ k, k < N → kd k = g → ¬ (fa k = x ∧ fb k = y)) (h2 : (N < 160 ∧ r = nI N ∧ u' = w) ∨ (¬ N < 160 ∧ r = -1 ∧ u' = u)) : q_made u u' w N kd fa fb g x y r := Or.inr ⟨h, h2⟩
set_option maxHeartbeats 4000000 in
set_option maxRecDepth 100000 in
/-- m_made3 -/
theorem m_made3 (l : Launch) (D : va_G) (a : Nat → Nat) (kI kL kZ : ClassId) (u : sU) (N : Nat) (kd fa fb : Nat → Nat) (T : Nat) (so xa xb xc : Nat → Nat) (hta : m_tab u N kd fa fb T so xa xb xc) (x y : Nat) (hx0 : x < 160) (hy0 : y < 160) : Met l yM_made (wM_made :: wA) ({ frames := 0, cells := 0, slots := 0, locals := 0 }) (va_Pc [.ref (a 0), .int (nI 3), .int (nI x), .int (nI y)] (tq_wB D vwA (mW a kI kL kZ u) (sT kI kL kZ))) (va_Qi (fun r (u' : sU) => q_made u u' (m_new u 3 x y) N kd fa fb 2 x y r) (fun u' t => va_P D vwA (mW a kI kL kZ u') t.heap) (mA a)) 0 0 (mA a) := by
  refine Met.ofW (cc := bM_made) (maxL := 5) (ret := (some .int)) (by decide +kernel) rfl ?_
  intro p e s m args below meth c s₁ B1 hml hv
  obtain ⟨rfl, hP, hK, hD0⟩ := hv
  have hx := B1.exec
  have hb := B1.bytes
  have hr := B1.returns
  have hA : ∀ w ∈ wA, w.before ([.ref (a 0), .int (nI 3), .int (nI x), .int (nI y)] : List Value).toArray s = true := fun w h => atoms_spec (ws := wM_made :: wA) B1.pre w (List.mem_cons_of_mem _ h)
  have hown : s.vm.findClass RcM = some m.cls := findClass_of_methodNamed B1.named
  have hlocks := B1.notSynchronized
  have hS : va_S (mA a) s.heap s.heap [] := va_S.rf
  have hl := lv_entry ([.ref (a 0), .int (nI 3), .int (nI x), .int (nI y)]) (n := 5) (Nat.le_of_ble_eq_true rfl)
  rw [lg_entry_eq]
  generalize (lg_sl ([.ref (a 0), .int (nI 3), .int (nI x), .int (nI y)]) ++ List.replicate (5 - (lg_sl ([.ref (a 0), .int (nI 3), .int (nI x), .int (nI y)])).length) Slot.unset).toArray = ls at hl ⊢
  have hl : lv_has ls 5 [(0, .ref (a 0)), (1, .int (nI 3)), (2, .int (nI x)), (3, .int (nI y))] := hl
  refine tq_gen (fun R Q hRe hQe => ?_)
  have hRf : 0 ≤ R.frames := by rw [hRe]; exact Nat.le_of_ble_eq_true rfl
  have hRl : 0 ≤ R.locals := by rw [hRe]; exact Nat.le_of_ble_eq_true rfl
  have hRc : 0 ≤ R.cells := by rw [hRe]; exact Nat.le_of_ble_eq_true rfl
  have hRs : 0 ≤ R.slots := by rw [hRe]; exact Nat.le_of_ble_eq_true rfl
  have hD := mA_D hD0
  have hN := mt_N hta
  refine lv_iconst (v := nI 2) hx hb dM_made_0 (by decide +kernel) ?_
  refine lv_istore (lv' := [(4, .int (nI 2)), (0, .ref (a 0)), (1, .int (nI 3)), (2, .int (nI x)), (3, .int (nI y))]) hx hb dM_made_1 hl (by decide) rfl (fun ls hl => ?_)
  have lp : ∀ (fu : Nat) (n : Nat) (ls : Array Slot) (H : Heap) (locs : List Loc), (∀ b, b < n → kd b = 2 → ¬ (fa b = x ∧ fb b = y)) → n ≤ N → va_P D vwA (mW a kI kL kZ u) H → va_D (mA a) (mW a kI kL kZ u) → va_S (mA a) s.heap H locs → N - n < fu → lv_has ls 5 [(4, .int (nI n)), (0, .ref (a 0)), (1, .int (nI 3)), (2, .int (nI x)), (3, .int (nI y))] → W p l e R s m ([.ref (a 0), .int (nI 3), .int (nI x), .int (nI y)] : List Value).toArray below meth c H locs 0 0 Q (F0 m 3 ls []) := by
    intro fu
    induction fu with
    | zero => intros; omega
    | succ fu ih3 =>
      intro n ls H locs g1 g2 hP hD hS hfu hl
      refine lv_iload hx hb dM_made_3 (lv_at hl 0 rfl) ?_
      refine lv_aload_n hx hb dM_made_5 rfl (lv_at hl 1 rfl) ?_
      refine gf_M_7 (v := .int (nI (u.2.2 1))) hx hb hA hown hK hP 0 rfl rfl dM_made_6 ?_
      refine tq_ge hx hb dM_made_9 (tgt := 59) (by decide) (by omega) (by omega) (fun h9 => ?_) (fun h9 => ?_)
      · refine lv_aload_n hx hb dM_made_59 rfl (lv_at hl 1 rfl) ?_
        refine gf_M_7 (v := .int (nI (u.2.2 1))) hx hb hA hown hK hP 0 rfl rfl dM_made_60 ?_
        refine lv_sipush (v := nI 160) hx hb dM_made_63 (by decide +kernel) ?_
        refine tq_ne hx hb dM_made_66 (tgt := 71) (by decide) (by omega) (by omega) (fun h66 => ?_) (fun h66 => ?_)
        · refine lv_aload_n hx hb dM_made_71 rfl (lv_at hl 1 rfl) ?_
          refine gf_M_13 (v := .ref (a 1)) hx hb hA hown hK hP 0 rfl rfl dM_made_72 ?_
          refine lv_aload_n hx hb dM_made_75 rfl (lv_at hl 1 rfl) ?_
          refine gf_M_7 (v := .int (nI (u.2.2 1))) hx hb hA hown hK hP 0 rfl rfl dM_made_76 ?_
          refine lv_iload_n hx hb dM_made_79 rfl (lv_at hl 2 rfl) ?_
          refine tq_iast hx hb hK hP hD hS 1 0 rfl rfl (by omega) (by omega) dM_made_80 (fun H locs hP hD hS => ?_)
          have hP : va_P D vwA (mW a kI kL kZ (u.1, va_up u.2.1 0 (upd (u.2.1 0) (u.2.2 1) (nI 3)), u.2.2)) H := hP
          have hD : va_D (mA a) (mW a kI kL kZ (u.1, va_up u.2.1 0 (upd (u.2.1 0) (u.2.2 1) (nI 3)), u.2.2)) := hD
          refine lv_aload_n hx hb dM_made_81 rfl (lv_at hl 1 rfl) ?_
          refine gf_M_17 (v := .ref (a 2)) hx hb hA hown hK hP 0 rfl rfl dM_made_82 ?_
          refine lv_aload_n hx hb dM_made_85 rfl (lv_at hl 1 rfl) ?_
          refine gf_M_7 (v := .int (nI (u.2.2 1))) hx hb hA hown hK hP 0 rfl rfl dM_made_86 ?_
          refine lv_iload_n hx hb dM_made_89 rfl (lv_at hl 3 rfl) ?_
          refine tq_iast hx hb hK hP hD hS 2 0 rfl rfl (by omega) (by omega) dM_made_90 (fun H locs hP hD hS => ?_)
          have hP : va_P D vwA (mW a kI kL kZ (u.1, va_up (va_up u.2.1 0 (upd (u.2.1 0) (u.2.2 1) (nI 3))) 1 (upd (u.2.1 1) (u.2.2 1) (nI x)), u.2.2)) H := hP
          have hD : va_D (mA a) (mW a kI kL kZ (u.1, va_up (va_up u.2.1 0 (upd (u.2.1 0) (u.2.2 1) (nI 3))) 1 (upd (u.2.1 1) (u.2.2 1) (nI x)), u.2.2)) := hD
          refine lv_aload_n hx hb dM_made_91 rfl (lv_at hl 1 rfl) ?_
          refine gf_M_20 (v := .ref (a 3)) hx hb hA hown hK hP 0 rfl rfl dM_made_92 ?_
          refine lv_aload_n hx hb dM_made_95 rfl (lv_at hl 1 rfl) ?_
          refine gf_M_7 (v := .int (nI (u.2.2 1))) hx hb hA hown hK hP 0 rfl rfl dM_made_96 ?_
          refine lv_iload_n hx hb dM_made_99 rfl (lv_at hl 4 rfl) ?_
          refine tq_iast hx hb hK hP hD hS 3 0 rfl rfl (by omega) (by omega) dM_made_100 (fun H locs hP hD hS => ?_)
          have hP : va_P D vwA (mW a kI kL kZ (u.1, va_up (va_up (va_up u.2.1 0 (upd (u.2.1 0) (u.2.2 1) (nI 3))) 1 (upd (u.2.1 1) (u.2.2 1) (nI x))) 2 (upd (u.2.1 2) (u.2.2 1) (nI y)), u.2.2)) H := hP
          have hD : va_D (mA a) (mW a kI kL kZ (u.1, va_up (va_up (va_up u.2.1 0 (upd (u.2.1 0) (u.2.2 1) (nI 3))) 1 (upd (u.2.1 1) (u.2.2 1) (nI x))) 2 (upd (u.2.1 2) (u.2.2 1) (nI y)), u.2.2)) := hD
          refine lv_aload_n hx hb dM_made_101 rfl (lv_at hl 1 rfl) ?_
          refine lv_dup hx hb dM_made_102 rfl ?_
          refine gf_M_7 (v := .int (nI (u.2.2 1))) hx hb hA hown hK hP 0 rfl rfl dM_made_103 ?_
          refine lv_iconst (v := nI 1) hx hb dM_made_106 (by decide +kernel) ?_
          refine tq_iadd hx hb dM_made_107 ?_
          refine pf_M_7 (v := .int (nI ((u.2.2 1) + 1))) hx hb hA hown hK hP hD hS 0 rfl rfl rfl (Nat.le_of_ble_eq_true rfl) dM_made_108 (fun H locs hP hD hS => ?_)
          have hP : va_P D vwA (mW a kI kL kZ (u.1, va_up (va_up (va_up u.2.1 0 (upd (u.2.1 0) (u.2.2 1) (nI 3))) 1 (upd (u.2.1 1) (u.2.2 1) (nI x))) 2 (upd (u.2.1 2) (u.2.2 1) (nI y)), va_up u.2.2 1 ((u.2.2 1) + 1))) H := hP
          have hD : va_D (mA a) (mW a kI kL kZ (u.1, va_up (va_up (va_up u.2.1 0 (upd (u.2.1 0) (u.2.2 1) (nI 3))) 1 (upd (u.2.1 1) (u.2.2 1) (nI x))) 2 (upd (u.2.1 2) (u.2.2 1) (nI y)), va_up u.2.2 1 ((u.2.2 1) + 1))) := hD
          refine lv_aload_n hx hb dM_made_111 rfl (lv_at hl 1 rfl) ?_
          refine lv_iconst (v := nI 0) hx hb dM_made_112 (by decide +kernel) ?_
          refine pf_M_58 (v := .int (nI 0)) hx hb hA hown hK hP hD hS 0 rfl rfl rfl (Nat.le_of_ble_eq_true rfl) dM_made_113 (fun H locs hP hD hS => ?_)
          have hP : va_P D vwA (mW a kI kL kZ (u.1, va_up (va_up (va_up u.2.1 0 (upd (u.2.1 0) (u.2.2 1) (nI 3))) 1 (upd (u.2.1 1) (u.2.2 1) (nI x))) 2 (upd (u.2.1 2) (u.2.2 1) (nI y)), va_up (va_up u.2.2 1 ((u.2.2 1) + 1)) 3 0)) H := hP
          have hD : va_D (mA a) (mW a kI kL kZ (u.1, va_up (va_up (va_up u.2.1 0 (upd (u.2.1 0) (u.2.2 1) (nI 3))) 1 (upd (u.2.1 1) (u.2.2 1) (nI x))) 2 (upd (u.2.1 2) (u.2.2 1) (nI y)), va_up (va_up u.2.2 1 ((u.2.2 1) + 1)) 3 0)) := hD
          refine lv_aload_n hx hb dM_made_116 rfl (lv_at hl 1 rfl) ?_
          refine gf_M_7 (v := .int (nI ((u.2.2 1) + 1))) hx hb hA hown hK hP 0 rfl rfl dM_made_117 ?_
          refine lv_iconst (v := nI 1) hx hb dM_made_120 (by decide +kernel) ?_
          refine tq_isub hx hb dM_made_121 (by omega) ?_
          subst hQe
          exact W.iret (v := nI (((u.2.2 1) + 1) - 1)) hx hb hr (fun t ht hW => ⟨⟨_, (u.1, va_up (va_up (va_up u.2.1 0 (upd (u.2.1 0) (u.2.2 1) (nI 3))) 1 (upd (u.2.1 1) (u.2.2 1) (nI x))) 2 (upd (u.2.1 2) (u.2.2 1) (nI y)), va_up (va_up u.2.2 1 ((u.2.2 1) + 1)) 3 0), rfl, made_end (fun k z => g1 k (by omega)) (Or.inl ⟨by omega, by rw [← hN.1]; rfl, rfl⟩), tq_hp ht hP⟩, hS.F ht⟩) hS.2.2 dM_made_122
        · refine lv_iconst (v := (-1)) hx hb dM_made_69 (by decide +kernel) ?_
          subst hQe
          exact W.iret (v := (-1)) hx hb hr (fun t ht hW => ⟨⟨_, u, rfl, made_end (fun k z => g1 k (by omega)) (Or.inr ⟨by omega, rfl, rfl⟩), tq_hp ht hP⟩, hS.F ht⟩) hS.2.2 dM_made_70
      · refine lv_iload_n hx hb dM_made_12 rfl (lv_at hl 2 rfl) ?_
        refine lv_iconst (v := nI 2) hx hb dM_made_13 (by decide +kernel) ?_
        refine tq_eq hx hb dM_made_14 (tgt := 53) (by decide) (by omega) (by omega) (fun h14 => ?_) (fun h14 => ?_)
        · omega
        · refine lv_aload_n hx hb dM_made_17 rfl (lv_at hl 1 rfl) ?_
          refine gf_M_13 (v := .ref (a 1)) hx hb hA hown hK hP 0 rfl rfl dM_made_18 ?_
          refine lv_iload hx hb dM_made_21 (lv_at hl 0 rfl) ?_
          refine tq_iald hx hb hK hP 1 0 rfl rfl (by omega) (by omega) dM_made_23 ?_
          refine lv_iload_n hx hb dM_made_24 rfl (lv_at hl 2 rfl) ?_
          refine lv_icmp_ne hx hb dM_made_25 (tgt := 53) (by decide) (fun h25 => ?_) (fun h25 => ?_)
          · have hno : (fun b => kd b = 2 → ¬ (fa b = x ∧ fb b = y)) n := made_no hta (by omega) (by omega) (Or.inl h25)
            refine lv_iinc (k := 0) (lv' := [(4, .int (nI (n + 1))), (0, .ref (a 0)), (1, .int (nI 3)), (2, .int (nI x)), (3, .int (nI y))]) hx hb dM_made_53 hl rfl (nI_1 _) (by decide) rfl (fun ls hl => ?_)
            refine lv_goto hx hb dM_made_56 (tgt := 3) (by decide) ?_
            exact ih3 (n + 1) ls H locs (lt_s (p := fun b => kd b = 2 → ¬ (fa b = x ∧ fb b = y)) g1 hno) (by omega) hP hD hS (by omega) (lv_sub hl [0, 1, 2, 3, 4] rfl)
          · refine lv_aload_n hx hb dM_made_28 rfl (lv_at hl 1 rfl) ?_
            refine gf_M_17 (v := .ref (a 2)) hx hb hA hown hK hP 0 rfl rfl dM_made_29 ?_
            refine lv_iload hx hb dM_made_32 (lv_at hl 0 rfl) ?_
            refine tq_iald hx hb hK hP 2 0 rfl rfl (by omega) (by omega) dM_made_34 ?_
            refine lv_iload_n hx hb dM_made_35 rfl (lv_at hl 3 rfl) ?_
            refine lv_icmp_ne hx hb dM_made_36 (tgt := 53) (by decide) (fun h36 => ?_) (fun h36 => ?_)
            · have hno : (fun b => kd b = 2 → ¬ (fa b = x ∧ fb b = y)) n := made_no hta (by omega) (by omega) (Or.inr (Or.inl h36))
              refine lv_iinc (k := 0) (lv' := [(4, .int (nI (n + 1))), (0, .ref (a 0)), (1, .int (nI 3)), (2, .int (nI x)), (3, .int (nI y))]) hx hb dM_made_53 hl rfl (nI_1 _) (by decide) rfl (fun ls hl => ?_)
              refine lv_goto hx hb dM_made_56 (tgt := 3) (by decide) ?_
              exact ih3 (n + 1) ls H locs (lt_s (p := fun b => kd b = 2 → ¬ (fa b = x ∧ fb b = y)) g1 hno) (by omega) hP hD hS (by omega) (lv_sub hl [0, 1, 2, 3, 4] rfl)
            · refine lv_aload_n hx hb dM_made_39 rfl (lv_at hl 1 rfl) ?_
              refine gf_M_20 (v := .ref (a 3)) hx hb hA hown hK hP 0 rfl rfl dM_made_40 ?_
              refine lv_iload hx hb dM_made_43 (lv_at hl 0 rfl) ?_
              refine tq_iald hx hb hK hP 3 0 rfl rfl (by omega) (by omega) dM_made_45 ?_
              refine lv_iload_n hx hb dM_made_46 rfl (lv_at hl 4 rfl) ?_
              refine lv_icmp_ne hx hb dM_made_47 (tgt := 53) (by decide) (fun h47 => ?_) (fun h47 => ?_)
              · have hno : (fun b => kd b = 2 → ¬ (fa b = x ∧ fb b = y)) n := made_no hta (by omega) (by omega) (Or.inr (Or.inr h47))
                refine lv_iinc (k := 0) (lv' := [(4, .int (nI (n + 1))), (0, .ref (a 0)), (1, .int (nI 3)), (2, .int (nI x)), (3, .int (nI y))]) hx hb dM_made_53 hl rfl (nI_1 _) (by decide) rfl (fun ls hl => ?_)
                refine lv_goto hx hb dM_made_56 (tgt := 3) (by decide) ?_
                exact ih3 (n + 1) ls H locs (lt_s (p := fun b => kd b = 2 → ¬ (fa b = x ∧ fb b = y)) g1 hno) (by omega) hP hD hS (by omega) (lv_sub hl [0, 1, 2, 3, 4] rfl)
              · refine lv_iload hx hb dM_made_50 (lv_at hl 0 rfl) ?_
                subst hQe
                exact W.iret (v := nI n) hx hb hr (fun t ht hW => ⟨⟨_, u, rfl, by
                    have hq := made_yes hta (show n < N by omega) (by omega) hx0 hy0 h25 h36 h47
                    exact Or.inl ⟨n, by omega, hq.1, hq.2.1, hq.2.2, rfl, rfl⟩, tq_hp ht hP⟩, hS.F ht⟩) hS.2.2 dM_made_52
  exact lp _ 2 ls _ _ (made_lo hta (by omega)) (by omega) hP hD hS (Nat.lt_succ_self _) (lv_sub hl [0, 1, 2, 3, 4] rfl)
set_option maxHeartbeats 4000000 in
set_option maxRecDepth 100000 in
/-- m_made4 -/
theorem m_made4 (l : Launch) (D : va_G) (a : Nat → Nat) (kI kL kZ : ClassId) (u : sU) (N : Nat) (kd fa fb : Nat → Nat) (T : Nat) (so xa xb xc : Nat → Nat) (hta : m_tab u N kd fa fb T so xa xb xc) (x y : Nat) (hx0 : x < 160) (hy0 : y < 160) : Met l yM_made (wM_made :: wA) ({ frames := 0, cells := 0, slots := 0, locals := 0 }) (va_Pc [.ref (a 0), .int (nI 4), .int (nI x), .int (nI y)] (tq_wB D vwA (mW a kI kL kZ u) (sT kI kL kZ))) (va_Qi (fun r (u' : sU) => q_made u u' (m_new u 4 x y) N kd fa fb 3 x y r) (fun u' t => va_P D vwA (mW a kI kL kZ u') t.heap) (mA a)) 0 0 (mA a) := by
  refine Met.ofW (cc := bM_made) (maxL := 5) (ret := (some .int)) (by decide +kernel) rfl ?_
  intro p e s m args below meth c s₁ B1 hml hv
  obtain ⟨rfl, hP, hK, hD0⟩ := hv
  have hx := B1.exec
  have hb := B1.bytes
  have hr := B1.returns
  have hA : ∀ w ∈ wA, w.before ([.ref (a 0), .int (nI 4), .int (nI x), .int (nI y)] : List Value).toArray s = true := fun w h => atoms_spec (ws := wM_made :: wA) B1.pre w (List.mem_cons_of_mem _ h)
  have hown : s.vm.findClass RcM = some m.cls := findClass_of_methodNamed B1.named
  have hlocks := B1.notSynchronized
  have hS : va_S (mA a) s.heap s.heap [] := va_S.rf
  have hl := lv_entry ([.ref (a 0), .int (nI 4), .int (nI x), .int (nI y)]) (n := 5) (Nat.le_of_ble_eq_true rfl)
  rw [lg_entry_eq]
  generalize (lg_sl ([.ref (a 0), .int (nI 4), .int (nI x), .int (nI y)]) ++ List.replicate (5 - (lg_sl ([.ref (a 0), .int (nI 4), .int (nI x), .int (nI y)])).length) Slot.unset).toArray = ls at hl ⊢
  have hl : lv_has ls 5 [(0, .ref (a 0)), (1, .int (nI 4)), (2, .int (nI x)), (3, .int (nI y))] := hl
  refine tq_gen (fun R Q hRe hQe => ?_)
  have hRf : 0 ≤ R.frames := by rw [hRe]; exact Nat.le_of_ble_eq_true rfl
  have hRl : 0 ≤ R.locals := by rw [hRe]; exact Nat.le_of_ble_eq_true rfl
  have hRc : 0 ≤ R.cells := by rw [hRe]; exact Nat.le_of_ble_eq_true rfl
  have hRs : 0 ≤ R.slots := by rw [hRe]; exact Nat.le_of_ble_eq_true rfl
  have hD := mA_D hD0
  have hN := mt_N hta
  refine lv_iconst (v := nI 2) hx hb dM_made_0 (by decide +kernel) ?_
  refine lv_istore (lv' := [(4, .int (nI 2)), (0, .ref (a 0)), (1, .int (nI 4)), (2, .int (nI x)), (3, .int (nI y))]) hx hb dM_made_1 hl (by decide) rfl (fun ls hl => ?_)
  have lp : ∀ (fu : Nat) (n : Nat) (ls : Array Slot) (H : Heap) (locs : List Loc), (∀ b, b < n → kd b = 3 → ¬ (fa b = x ∧ fb b = y)) → n ≤ N → va_P D vwA (mW a kI kL kZ u) H → va_D (mA a) (mW a kI kL kZ u) → va_S (mA a) s.heap H locs → N - n < fu → lv_has ls 5 [(4, .int (nI n)), (0, .ref (a 0)), (1, .int (nI 4)), (2, .int (nI x)), (3, .int (nI y))] → W p l e R s m ([.ref (a 0), .int (nI 4), .int (nI x), .int (nI y)] : List Value).toArray below meth c H locs 0 0 Q (F0 m 3 ls []) := by
    intro fu
    induction fu with
    | zero => intros; omega
    | succ fu ih3 =>
      intro n ls H locs g1 g2 hP hD hS hfu hl
      refine lv_iload hx hb dM_made_3 (lv_at hl 0 rfl) ?_
      refine lv_aload_n hx hb dM_made_5 rfl (lv_at hl 1 rfl) ?_
      refine gf_M_7 (v := .int (nI (u.2.2 1))) hx hb hA hown hK hP 0 rfl rfl dM_made_6 ?_
      refine tq_ge hx hb dM_made_9 (tgt := 59) (by decide) (by omega) (by omega) (fun h9 => ?_) (fun h9 => ?_)
      · refine lv_aload_n hx hb dM_made_59 rfl (lv_at hl 1 rfl) ?_
        refine gf_M_7 (v := .int (nI (u.2.2 1))) hx hb hA hown hK hP 0 rfl rfl dM_made_60 ?_
        refine lv_sipush (v := nI 160) hx hb dM_made_63 (by decide +kernel) ?_
        refine tq_ne hx hb dM_made_66 (tgt := 71) (by decide) (by omega) (by omega) (fun h66 => ?_) (fun h66 => ?_)
        · refine lv_aload_n hx hb dM_made_71 rfl (lv_at hl 1 rfl) ?_
          refine gf_M_13 (v := .ref (a 1)) hx hb hA hown hK hP 0 rfl rfl dM_made_72 ?_
          refine lv_aload_n hx hb dM_made_75 rfl (lv_at hl 1 rfl) ?_
          refine gf_M_7 (v := .int (nI (u.2.2 1))) hx hb hA hown hK hP 0 rfl rfl dM_made_76 ?_
          refine lv_iload_n hx hb dM_made_79 rfl (lv_at hl 2 rfl) ?_
          refine tq_iast hx hb hK hP hD hS 1 0 rfl rfl (by omega) (by omega) dM_made_80 (fun H locs hP hD hS => ?_)
          have hP : va_P D vwA (mW a kI kL kZ (u.1, va_up u.2.1 0 (upd (u.2.1 0) (u.2.2 1) (nI 4)), u.2.2)) H := hP
          have hD : va_D (mA a) (mW a kI kL kZ (u.1, va_up u.2.1 0 (upd (u.2.1 0) (u.2.2 1) (nI 4)), u.2.2)) := hD
          refine lv_aload_n hx hb dM_made_81 rfl (lv_at hl 1 rfl) ?_
          refine gf_M_17 (v := .ref (a 2)) hx hb hA hown hK hP 0 rfl rfl dM_made_82 ?_
          refine lv_aload_n hx hb dM_made_85 rfl (lv_at hl 1 rfl) ?_
          refine gf_M_7 (v := .int (nI (u.2.2 1))) hx hb hA hown hK hP 0 rfl rfl dM_made_86 ?_
          refine lv_iload_n hx hb dM_made_89 rfl (lv_at hl 3 rfl) ?_
          refine tq_iast hx hb hK hP hD hS 2 0 rfl rfl (by omega) (by omega) dM_made_90 (fun H locs hP hD hS => ?_)
          have hP : va_P D vwA (mW a kI kL kZ (u.1, va_up (va_up u.2.1 0 (upd (u.2.1 0) (u.2.2 1) (nI 4))) 1 (upd (u.2.1 1) (u.2.2 1) (nI x)), u.2.2)) H := hP
          have hD : va_D (mA a) (mW a kI kL kZ (u.1, va_up (va_up u.2.1 0 (upd (u.2.1 0) (u.2.2 1) (nI 4))) 1 (upd (u.2.1 1) (u.2.2 1) (nI x)), u.2.2)) := hD
          refine lv_aload_n hx hb dM_made_91 rfl (lv_at hl 1 rfl) ?_
          refine gf_M_20 (v := .ref (a 3)) hx hb hA hown hK hP 0 rfl rfl dM_made_92 ?_
          refine lv_aload_n hx hb dM_made_95 rfl (lv_at hl 1 rfl) ?_
          refine gf_M_7 (v := .int (nI (u.2.2 1))) hx hb hA hown hK hP 0 rfl rfl dM_made_96 ?_
          refine lv_iload_n hx hb dM_made_99 rfl (lv_at hl 4 rfl) ?_
          refine tq_iast hx hb hK hP hD hS 3 0 rfl rfl (by omega) (by omega) dM_made_100 (fun H locs hP hD hS => ?_)
          have hP : va_P D vwA (mW a kI kL kZ (u.1, va_up (va_up (va_up u.2.1 0 (upd (u.2.1 0) (u.2.2 1) (nI 4))) 1 (upd (u.2.1 1) (u.2.2 1) (nI x))) 2 (upd (u.2.1 2) (u.2.2 1) (nI y)), u.2.2)) H := hP
          have hD : va_D (mA a) (mW a kI kL kZ (u.1, va_up (va_up (va_up u.2.1 0 (upd (u.2.1 0) (u.2.2 1) (nI 4))) 1 (upd (u.2.1 1) (u.2.2 1) (nI x))) 2 (upd (u.2.1 2) (u.2.2 1) (nI y)), u.2.2)) := hD
          refine lv_aload_n hx hb dM_made_101 rfl (lv_at hl 1 rfl) ?_
          refine lv_dup hx hb dM_made_102 rfl ?_
          refine gf_M_7 (v := .int (nI (u.2.2 1))) hx hb hA hown hK hP 0 rfl rfl dM_made_103 ?_
          refine lv_iconst (v := nI 1) hx hb dM_made_106 (by decide +kernel) ?_
          refine tq_iadd hx hb dM_made_107 ?_
          refine pf_M_7 (v := .int (nI ((u.2.2 1) + 1))) hx hb hA hown hK hP hD hS 0 rfl rfl rfl (Nat.le_of_ble_eq_true rfl) dM_made_108 (fun H locs hP hD hS => ?_)
          have hP : va_P D vwA (mW a kI kL kZ (u.1, va_up (va_up (va_up u.2.1 0 (upd (u.2.1 0) (u.2.2 1) (nI 4))) 1 (upd (u.2.1 1) (u.2.2 1) (nI x))) 2 (upd (u.2.1 2) (u.2.2 1) (nI y)), va_up u.2.2 1 ((u.2.2 1) + 1))) H := hP
          have hD : va_D (mA a) (mW a kI kL kZ (u.1, va_up (va_up (va_up u.2.1 0 (upd (u.2.1 0) (u.2.2 1) (nI 4))) 1 (upd (u.2.1 1) (u.2.2 1) (nI x))) 2 (upd (u.2.1 2) (u.2.2 1) (nI y)), va_up u.2.2 1 ((u.2.2 1) + 1))) := hD
          refine lv_aload_n hx hb dM_made_111 rfl (lv_at hl 1 rfl) ?_
          refine lv_iconst (v := nI 0) hx hb dM_made_112 (by decide +kernel) ?_
          refine pf_M_58 (v := .int (nI 0)) hx hb hA hown hK hP hD hS 0 rfl rfl rfl (Nat.le_of_ble_eq_true rfl) dM_made_113 (fun H locs hP hD hS => ?_)
          have hP : va_P D vwA (mW a kI kL kZ (u.1, va_up (va_up (va_up u.2.1 0 (upd (u.2.1 0) (u.2.2 1) (nI 4))) 1 (upd (u.2.1 1) (u.2.2 1) (nI x))) 2 (upd (u.2.1 2) (u.2.2 1) (nI y)), va_up (va_up u.2.2 1 ((u.2.2 1) + 1)) 3 0)) H := hP
          have hD : va_D (mA a) (mW a kI kL kZ (u.1, va_up (va_up (va_up u.2.1 0 (upd (u.2.1 0) (u.2.2 1) (nI 4))) 1 (upd (u.2.1 1) (u.2.2 1) (nI x))) 2 (upd (u.2.1 2) (u.2.2 1) (nI y)), va_up (va_up u.2.2 1 ((u.2.2 1) + 1)) 3 0)) := hD
          refine lv_aload_n hx hb dM_made_116 rfl (lv_at hl 1 rfl) ?_
          refine gf_M_7 (v := .int (nI ((u.2.2 1) + 1))) hx hb hA hown hK hP 0 rfl rfl dM_made_117 ?_
          refine lv_iconst (v := nI 1) hx hb dM_made_120 (by decide +kernel) ?_
          refine tq_isub hx hb dM_made_121 (by omega) ?_
          subst hQe
          exact W.iret (v := nI (((u.2.2 1) + 1) - 1)) hx hb hr (fun t ht hW => ⟨⟨_, (u.1, va_up (va_up (va_up u.2.1 0 (upd (u.2.1 0) (u.2.2 1) (nI 4))) 1 (upd (u.2.1 1) (u.2.2 1) (nI x))) 2 (upd (u.2.1 2) (u.2.2 1) (nI y)), va_up (va_up u.2.2 1 ((u.2.2 1) + 1)) 3 0), rfl, made_end (fun k z => g1 k (by omega)) (Or.inl ⟨by omega, by rw [← hN.1]; rfl, rfl⟩), tq_hp ht hP⟩, hS.F ht⟩) hS.2.2 dM_made_122
        · refine lv_iconst (v := (-1)) hx hb dM_made_69 (by decide +kernel) ?_
          subst hQe
          exact W.iret (v := (-1)) hx hb hr (fun t ht hW => ⟨⟨_, u, rfl, made_end (fun k z => g1 k (by omega)) (Or.inr ⟨by omega, rfl, rfl⟩), tq_hp ht hP⟩, hS.F ht⟩) hS.2.2 dM_made_70
      · refine lv_iload_n hx hb dM_made_12 rfl (lv_at hl 2 rfl) ?_
        refine lv_iconst (v := nI 2) hx hb dM_made_13 (by decide +kernel) ?_
        refine tq_eq hx hb dM_made_14 (tgt := 53) (by decide) (by omega) (by omega) (fun h14 => ?_) (fun h14 => ?_)
        · omega
        · refine lv_aload_n hx hb dM_made_17 rfl (lv_at hl 1 rfl) ?_
          refine gf_M_13 (v := .ref (a 1)) hx hb hA hown hK hP 0 rfl rfl dM_made_18 ?_
          refine lv_iload hx hb dM_made_21 (lv_at hl 0 rfl) ?_
          refine tq_iald hx hb hK hP 1 0 rfl rfl (by omega) (by omega) dM_made_23 ?_
          refine lv_iload_n hx hb dM_made_24 rfl (lv_at hl 2 rfl) ?_
          refine lv_icmp_ne hx hb dM_made_25 (tgt := 53) (by decide) (fun h25 => ?_) (fun h25 => ?_)
          · have hno : (fun b => kd b = 3 → ¬ (fa b = x ∧ fb b = y)) n := made_no hta (by omega) (by omega) (Or.inl h25)
            refine lv_iinc (k := 0) (lv' := [(4, .int (nI (n + 1))), (0, .ref (a 0)), (1, .int (nI 4)), (2, .int (nI x)), (3, .int (nI y))]) hx hb dM_made_53 hl rfl (nI_1 _) (by decide) rfl (fun ls hl => ?_)
            refine lv_goto hx hb dM_made_56 (tgt := 3) (by decide) ?_
            exact ih3 (n + 1) ls H locs (lt_s (p := fun b => kd b = 3 → ¬ (fa b = x ∧ fb b = y)) g1 hno) (by omega) hP hD hS (by omega) (lv_sub hl [0, 1, 2, 3, 4] rfl)
          · refine lv_aload_n hx hb dM_made_28 rfl (lv_at hl 1 rfl) ?_
            refine gf_M_17 (v := .ref (a 2)) hx hb hA hown hK hP 0 rfl rfl dM_made_29 ?_
            refine lv_iload hx hb dM_made_32 (lv_at hl 0 rfl) ?_
            refine tq_iald hx hb hK hP 2 0 rfl rfl (by omega) (by omega) dM_made_34 ?_
            refine lv_iload_n hx hb dM_made_35 rfl (lv_at hl 3 rfl) ?_
            refine lv_icmp_ne hx hb dM_made_36 (tgt := 53) (by decide) (fun h36 => ?_) (fun h36 => ?_)
            · have hno : (fun b => kd b = 3 → ¬ (fa b = x ∧ fb b = y)) n := made_no hta (by omega) (by omega) (Or.inr (Or.inl h36))
              refine lv_iinc (k := 0) (lv' := [(4, .int (nI (n + 1))), (0, .ref (a 0)), (1, .int (nI 4)), (2, .int (nI x)), (3, .int (nI y))]) hx hb dM_made_53 hl rfl (nI_1 _) (by decide) rfl (fun ls hl => ?_)
              refine lv_goto hx hb dM_made_56 (tgt := 3) (by decide) ?_
              exact ih3 (n + 1) ls H locs (lt_s (p := fun b => kd b = 3 → ¬ (fa b = x ∧ fb b = y)) g1 hno) (by omega) hP hD hS (by omega) (lv_sub hl [0, 1, 2, 3, 4] rfl)
            · refine lv_aload_n hx hb dM_made_39 rfl (lv_at hl 1 rfl) ?_
              refine gf_M_20 (v := .ref (a 3)) hx hb hA hown hK hP 0 rfl rfl dM_made_40 ?_
              refine lv_iload hx hb dM_made_43 (lv_at hl 0 rfl) ?_
              refine tq_iald hx hb hK hP 3 0 rfl rfl (by omega) (by omega) dM_made_45 ?_
              refine lv_iload_n hx hb dM_made_46 rfl (lv_at hl 4 rfl) ?_
              refine lv_icmp_ne hx hb dM_made_47 (tgt := 53) (by decide) (fun h47 => ?_) (fun h47 => ?_)
              · have hno : (fun b => kd b = 3 → ¬ (fa b = x ∧ fb b = y)) n := made_no hta (by omega) (by omega) (Or.inr (Or.inr h47))
                refine lv_iinc (k := 0) (lv' := [(4, .int (nI (n + 1))), (0, .ref (a 0)), (1, .int (nI 4)), (2, .int (nI x)), (3, .int (nI y))]) hx hb dM_made_53 hl rfl (nI_1 _) (by decide) rfl (fun ls hl => ?_)
                refine lv_goto hx hb dM_made_56 (tgt := 3) (by decide) ?_
                exact ih3 (n + 1) ls H locs (lt_s (p := fun b => kd b = 3 → ¬ (fa b = x ∧ fb b = y)) g1 hno) (by omega) hP hD hS (by omega) (lv_sub hl [0, 1, 2, 3, 4] rfl)
              · refine lv_iload hx hb dM_made_50 (lv_at hl 0 rfl) ?_
                subst hQe
                exact W.iret (v := nI n) hx hb hr (fun t ht hW => ⟨⟨_, u, rfl, by
                    have hq := made_yes hta (show n < N by omega) (by omega) hx0 hy0 h25 h36 h47
                    exact Or.inl ⟨n, by omega, hq.1, hq.2.1, hq.2.2, rfl, rfl⟩, tq_hp ht hP⟩, hS.F ht⟩) hS.2.2 dM_made_52
  exact lp _ 2 ls _ _ (made_lo hta (by omega)) (by omega) hP hD hS (Nat.lt_succ_self _) (lv_sub hl [0, 1, 2, 3, 4] rfl)
set_option maxHeartbeats 4000000 in
set_option maxRecDepth 100000 in
/-- m_made2 -/
theorem m_made2 (l : Launch) (D : va_G) (a : Nat → Nat) (kI kL kZ : ClassId) (u : sU) (N : Nat) (kd fa fb : Nat → Nat) (T : Nat) (so xa xb xc : Nat → Nat) (hta : m_tab u N kd fa fb T so xa xb xc) (x y : Nat) : Met l yM_made (wM_made :: wA) ({ frames := 0, cells := 0, slots := 0, locals := 0 }) (va_Pc [.ref (a 0), .int (nI 2), .int (nI x), .int (nI y)] (tq_wB D vwA (mW a kI kL kZ u) (sT kI kL kZ))) (va_Qi (fun r (u' : sU) => (N < 160 ∧ r = nI N ∧ u' = m_new u 2 x y) ∨ (¬ N < 160 ∧ r = -1 ∧ u' = u)) (fun u' t => va_P D vwA (mW a kI kL kZ u') t.heap) (mA a)) 0 0 (mA a) := by
  refine Met.ofW (cc := bM_made) (maxL := 5) (ret := (some .int)) (by decide +kernel) rfl ?_
  intro p e s m args below meth c s₁ B1 hml hv
  obtain ⟨rfl, hP, hK, hD0⟩ := hv
  have hx := B1.exec
  have hb := B1.bytes
  have hr := B1.returns
  have hA : ∀ w ∈ wA, w.before ([.ref (a 0), .int (nI 2), .int (nI x), .int (nI y)] : List Value).toArray s = true := fun w h => atoms_spec (ws := wM_made :: wA) B1.pre w (List.mem_cons_of_mem _ h)
  have hown : s.vm.findClass RcM = some m.cls := findClass_of_methodNamed B1.named
  have hlocks := B1.notSynchronized
  have hS : va_S (mA a) s.heap s.heap [] := va_S.rf
  have hl := lv_entry ([.ref (a 0), .int (nI 2), .int (nI x), .int (nI y)]) (n := 5) (Nat.le_of_ble_eq_true rfl)
  rw [lg_entry_eq]
  generalize (lg_sl ([.ref (a 0), .int (nI 2), .int (nI x), .int (nI y)]) ++ List.replicate (5 - (lg_sl ([.ref (a 0), .int (nI 2), .int (nI x), .int (nI y)])).length) Slot.unset).toArray = ls at hl ⊢
  have hl : lv_has ls 5 [(0, .ref (a 0)), (1, .int (nI 2)), (2, .int (nI x)), (3, .int (nI y))] := hl
  refine tq_gen (fun R Q hRe hQe => ?_)
  have hRf : 0 ≤ R.frames := by rw [hRe]; exact Nat.le_of_ble_eq_true rfl
  have hRl : 0 ≤ R.locals := by rw [hRe]; exact Nat.le_of_ble_eq_true rfl
  have hRc : 0 ≤ R.cells := by rw [hRe]; exact Nat.le_of_ble_eq_true rfl
  have hRs : 0 ≤ R.slots := by rw [hRe]; exact Nat.le_of_ble_eq_true rfl
  have hD := mA_D hD0
  have hN := mt_N hta
  refine lv_iconst (v := nI 2) hx hb dM_made_0 (by decide +kernel) ?_
  refine lv_istore (lv' := [(4, .int (nI 2)), (0, .ref (a 0)), (1, .int (nI 2)), (2, .int (nI x)), (3, .int (nI y))]) hx hb dM_made_1 hl (by decide) rfl (fun ls hl => ?_)
  have lp : ∀ (fu : Nat) (n : Nat) (ls : Array Slot) (H : Heap) (locs : List Loc), n ≤ N → va_P D vwA (mW a kI kL kZ u) H → va_D (mA a) (mW a kI kL kZ u) → va_S (mA a) s.heap H locs → N - n < fu → lv_has ls 5 [(4, .int (nI n)), (0, .ref (a 0)), (1, .int (nI 2)), (2, .int (nI x)), (3, .int (nI y))] → W p l e R s m ([.ref (a 0), .int (nI 2), .int (nI x), .int (nI y)] : List Value).toArray below meth c H locs 0 0 Q (F0 m 3 ls []) := by
    intro fu
    induction fu with
    | zero => intros; omega
    | succ fu ih3 =>
      intro n ls H locs g2 hP hD hS hfu hl
      refine lv_iload hx hb dM_made_3 (lv_at hl 0 rfl) ?_
      refine lv_aload_n hx hb dM_made_5 rfl (lv_at hl 1 rfl) ?_
      refine gf_M_7 (v := .int (nI (u.2.2 1))) hx hb hA hown hK hP 0 rfl rfl dM_made_6 ?_
      refine tq_ge hx hb dM_made_9 (tgt := 59) (by decide) (by omega) (by omega) (fun h9 => ?_) (fun h9 => ?_)
      · refine lv_aload_n hx hb dM_made_59 rfl (lv_at hl 1 rfl) ?_
        refine gf_M_7 (v := .int (nI (u.2.2 1))) hx hb hA hown hK hP 0 rfl rfl dM_made_60 ?_
        refine lv_sipush (v := nI 160) hx hb dM_made_63 (by decide +kernel) ?_
        refine tq_ne hx hb dM_made_66 (tgt := 71) (by decide) (by omega) (by omega) (fun h66 => ?_) (fun h66 => ?_)
        · refine lv_aload_n hx hb dM_made_71 rfl (lv_at hl 1 rfl) ?_
          refine gf_M_13 (v := .ref (a 1)) hx hb hA hown hK hP 0 rfl rfl dM_made_72 ?_
          refine lv_aload_n hx hb dM_made_75 rfl (lv_at hl 1 rfl) ?_
          refine gf_M_7 (v := .int (nI (u.2.2 1))) hx hb hA hown hK hP 0 rfl rfl dM_made_76 ?_
          refine lv_iload_n hx hb dM_made_79 rfl (lv_at hl 2 rfl) ?_
          refine tq_iast hx hb hK hP hD hS 1 0 rfl rfl (by omega) (by omega) dM_made_80 (fun H locs hP hD hS => ?_)
          have hP : va_P D vwA (mW a kI kL kZ (u.1, va_up u.2.1 0 (upd (u.2.1 0) (u.2.2 1) (nI 2)), u.2.2)) H := hP
          have hD : va_D (mA a) (mW a kI kL kZ (u.1, va_up u.2.1 0 (upd (u.2.1 0) (u.2.2 1) (nI 2)), u.2.2)) := hD
          refine lv_aload_n hx hb dM_made_81 rfl (lv_at hl 1 rfl) ?_
          refine gf_M_17 (v := .ref (a 2)) hx hb hA hown hK hP 0 rfl rfl dM_made_82 ?_
          refine lv_aload_n hx hb dM_made_85 rfl (lv_at hl 1 rfl) ?_
          refine gf_M_7 (v := .int (nI (u.2.2 1))) hx hb hA hown hK hP 0 rfl rfl dM_made_86 ?_
          refine lv_iload_n hx hb dM_made_89 rfl (lv_at hl 3 rfl) ?_
          refine tq_iast hx hb hK hP hD hS 2 0 rfl rfl (by omega) (by omega) dM_made_90 (fun H locs hP hD hS => ?_)
          have hP : va_P D vwA (mW a kI kL kZ (u.1, va_up (va_up u.2.1 0 (upd (u.2.1 0) (u.2.2 1) (nI 2))) 1 (upd (u.2.1 1) (u.2.2 1) (nI x)), u.2.2)) H := hP
          have hD : va_D (mA a) (mW a kI kL kZ (u.1, va_up (va_up u.2.1 0 (upd (u.2.1 0) (u.2.2 1) (nI 2))) 1 (upd (u.2.1 1) (u.2.2 1) (nI x)), u.2.2)) := hD
          refine lv_aload_n hx hb dM_made_91 rfl (lv_at hl 1 rfl) ?_
          refine gf_M_20 (v := .ref (a 3)) hx hb hA hown hK hP 0 rfl rfl dM_made_92 ?_
          refine lv_aload_n hx hb dM_made_95 rfl (lv_at hl 1 rfl) ?_
          refine gf_M_7 (v := .int (nI (u.2.2 1))) hx hb hA hown hK hP 0 rfl rfl dM_made_96 ?_
          refine lv_iload_n hx hb dM_made_99 rfl (lv_at hl 4 rfl) ?_
          refine tq_iast hx hb hK hP hD hS 3 0 rfl rfl (by omega) (by omega) dM_made_100 (fun H locs hP hD hS => ?_)
          have hP : va_P D vwA (mW a kI kL kZ (u.1, va_up (va_up (va_up u.2.1 0 (upd (u.2.1 0) (u.2.2 1) (nI 2))) 1 (upd (u.2.1 1) (u.2.2 1) (nI x))) 2 (upd (u.2.1 2) (u.2.2 1) (nI y)), u.2.2)) H := hP
          have hD : va_D (mA a) (mW a kI kL kZ (u.1, va_up (va_up (va_up u.2.1 0 (upd (u.2.1 0) (u.2.2 1) (nI 2))) 1 (upd (u.2.1 1) (u.2.2 1) (nI x))) 2 (upd (u.2.1 2) (u.2.2 1) (nI y)), u.2.2)) := hD
          refine lv_aload_n hx hb dM_made_101 rfl (lv_at hl 1 rfl) ?_
          refine lv_dup hx hb dM_made_102 rfl ?_
          refine gf_M_7 (v := .int (nI (u.2.2 1))) hx hb hA hown hK hP 0 rfl rfl dM_made_103 ?_
          refine lv_iconst (v := nI 1) hx hb dM_made_106 (by decide +kernel) ?_
          refine tq_iadd hx hb dM_made_107 ?_
          refine pf_M_7 (v := .int (nI ((u.2.2 1) + 1))) hx hb hA hown hK hP hD hS 0 rfl rfl rfl (Nat.le_of_ble_eq_true rfl) dM_made_108 (fun H locs hP hD hS => ?_)
          have hP : va_P D vwA (mW a kI kL kZ (u.1, va_up (va_up (va_up u.2.1 0 (upd (u.2.1 0) (u.2.2 1) (nI 2))) 1 (upd (u.2.1 1) (u.2.2 1) (nI x))) 2 (upd (u.2.1 2) (u.2.2 1) (nI y)), va_up u.2.2 1 ((u.2.2 1) + 1))) H := hP
          have hD : va_D (mA a) (mW a kI kL kZ (u.1, va_up (va_up (va_up u.2.1 0 (upd (u.2.1 0) (u.2.2 1) (nI 2))) 1 (upd (u.2.1 1) (u.2.2 1) (nI x))) 2 (upd (u.2.1 2) (u.2.2 1) (nI y)), va_up u.2.2 1 ((u.2.2 1) + 1))) := hD
          refine lv_aload_n hx hb dM_made_111 rfl (lv_at hl 1 rfl) ?_
          refine lv_iconst (v := nI 0) hx hb dM_made_112 (by decide +kernel) ?_
          refine pf_M_58 (v := .int (nI 0)) hx hb hA hown hK hP hD hS 0 rfl rfl rfl (Nat.le_of_ble_eq_true rfl) dM_made_113 (fun H locs hP hD hS => ?_)
          have hP : va_P D vwA (mW a kI kL kZ (u.1, va_up (va_up (va_up u.2.1 0 (upd (u.2.1 0) (u.2.2 1) (nI 2))) 1 (upd (u.2.1 1) (u.2.2 1) (nI x))) 2 (upd (u.2.1 2) (u.2.2 1) (nI y)), va_up (va_up u.2.2 1 ((u.2.2 1) + 1)) 3 0)) H := hP
          have hD : va_D (mA a) (mW a kI kL kZ (u.1, va_up (va_up (va_up u.2.1 0 (upd (u.2.1 0) (u.2.2 1) (nI 2))) 1 (upd (u.2.1 1) (u.2.2 1) (nI x))) 2 (upd (u.2.1 2) (u.2.2 1) (nI y)), va_up (va_up u.2.2 1 ((u.2.2 1) + 1)) 3 0)) := hD
          refine lv_aload_n hx hb dM_made_116 rfl (lv_at hl 1 rfl) ?_
          refine gf_M_7 (v := .int (nI ((u.2.2 1) + 1))) hx hb hA hown hK hP 0 rfl rfl dM_made_117 ?_
          refine lv_iconst (v := nI 1) hx hb dM_made_120 (by decide +kernel) ?_
          refine tq_isub hx hb dM_made_121 (by omega) ?_
          subst hQe
          exact W.iret (v := nI (((u.2.2 1) + 1) - 1)) hx hb hr (fun t ht hW => ⟨⟨_, (u.1, va_up (va_up (va_up u.2.1 0 (upd (u.2.1 0) (u.2.2 1) (nI 2))) 1 (upd (u.2.1 1) (u.2.2 1) (nI x))) 2 (upd (u.2.1 2) (u.2.2 1) (nI y)), va_up (va_up u.2.2 1 ((u.2.2 1) + 1)) 3 0), rfl, Or.inl ⟨by omega, by rw [← hN.1]; rfl, rfl⟩, tq_hp ht hP⟩, hS.F ht⟩) hS.2.2 dM_made_122
        · refine lv_iconst (v := (-1)) hx hb dM_made_69 (by decide +kernel) ?_
          subst hQe
          exact W.iret (v := (-1)) hx hb hr (fun t ht hW => ⟨⟨_, u, rfl, Or.inr ⟨by omega, rfl, rfl⟩, tq_hp ht hP⟩, hS.F ht⟩) hS.2.2 dM_made_70
      · refine lv_iload_n hx hb dM_made_12 rfl (lv_at hl 2 rfl) ?_
        refine lv_iconst (v := nI 2) hx hb dM_made_13 (by decide +kernel) ?_
        refine tq_eq hx hb dM_made_14 (tgt := 53) (by decide) (by omega) (by omega) (fun h14 => ?_) (fun h14 => ?_)
        · refine lv_iinc (k := 0) (lv' := [(4, .int (nI (n + 1))), (0, .ref (a 0)), (1, .int (nI 2)), (2, .int (nI x)), (3, .int (nI y))]) hx hb dM_made_53 hl rfl (nI_1 _) (by decide) rfl (fun ls hl => ?_)
          refine lv_goto hx hb dM_made_56 (tgt := 3) (by decide) ?_
          exact ih3 (n + 1) ls H locs (by omega) hP hD hS (by omega) (lv_sub hl [0, 1, 2, 3, 4] rfl)
        · omega
  exact lp _ 2 ls _ _ (by omega) hP hD hS (Nat.lt_succ_self _) (lv_sub hl [0, 1, 2, 3, 4] rfl)
set_option maxHeartbeats 4000000 in
set_option maxRecDepth 100000 in
/-- m_axiom -/
theorem m_axiom (l : Launch) (D : va_G) (a : Nat → Nat) (kI kL kZ : ClassId) (u : sU) (k x y z : Int32) (hT : u.2.2 2 ≤ 100) : Met l yM_axiom (wM_axiom :: wA) ({ frames := 0, cells := 0, slots := 0, locals := 0 }) (va_Pc [.ref (a 0), .int k, .int x, .int y, .int z] (tq_wB D vwA (mW a kI kL kZ u) (sT kI kL kZ))) (va_Qi (fun r (u' : sU) => (u.2.2 2 < 100 ∧ r = nI (u.2.2 2 + 1) ∧ u' = m_tell u k x y z) ∨ (¬ u.2.2 2 < 100 ∧ r = -1 ∧ u' = u)) (fun u' t => va_P D vwA (mW a kI kL kZ u') t.heap) (mA a)) 0 0 (mA a) := by
  refine Met.ofW (cc := bM_axiom) (maxL := 5) (ret := (some .int)) (by decide +kernel) rfl ?_
  intro p e s m args below meth c s₁ B1 hml hv
  obtain ⟨rfl, hP, hK, hD0⟩ := hv
  have hx := B1.exec
  have hb := B1.bytes
  have hr := B1.returns
  have hA : ∀ w ∈ wA, w.before ([.ref (a 0), .int k, .int x, .int y, .int z] : List Value).toArray s = true := fun w h => atoms_spec (ws := wM_axiom :: wA) B1.pre w (List.mem_cons_of_mem _ h)
  have hown : s.vm.findClass RcM = some m.cls := findClass_of_methodNamed B1.named
  have hlocks := B1.notSynchronized
  have hS : va_S (mA a) s.heap s.heap [] := va_S.rf
  have hl := lv_entry ([.ref (a 0), .int k, .int x, .int y, .int z]) (n := 5) (Nat.le_of_ble_eq_true rfl)
  rw [lg_entry_eq]
  generalize (lg_sl ([.ref (a 0), .int k, .int x, .int y, .int z]) ++ List.replicate (5 - (lg_sl ([.ref (a 0), .int k, .int x, .int y, .int z])).length) Slot.unset).toArray = ls at hl ⊢
  have hl : lv_has ls 5 [(0, .ref (a 0)), (1, .int k), (2, .int x), (3, .int y), (4, .int z)] := hl
  refine tq_gen (fun R Q hRe hQe => ?_)
  have hRf : 0 ≤ R.frames := by rw [hRe]; exact Nat.le_of_ble_eq_true rfl
  have hRl : 0 ≤ R.locals := by rw [hRe]; exact Nat.le_of_ble_eq_true rfl
  have hRc : 0 ≤ R.cells := by rw [hRe]; exact Nat.le_of_ble_eq_true rfl
  have hRs : 0 ≤ R.slots := by rw [hRe]; exact Nat.le_of_ble_eq_true rfl
  have hD := mA_D hD0
  refine lv_aload_n hx hb dM_axiom_0 rfl (lv_at hl 0 rfl) ?_
  refine gf_M_77 (v := .int (nI (u.2.2 2))) hx hb hA hown hK hP 0 rfl rfl dM_axiom_1 ?_
  refine lv_bipush (v := nI 100) hx hb dM_axiom_4 (by decide +kernel) ?_
  refine tq_ne hx hb dM_axiom_6 (tgt := 11) (by decide) (by omega) (by omega) (fun h6 => ?_) (fun h6 => ?_)
  · refine lv_aload_n hx hb dM_axiom_11 rfl (lv_at hl 0 rfl) ?_
    refine lv_dup hx hb dM_axiom_12 rfl ?_
    refine gf_M_77 (v := .int (nI (u.2.2 2))) hx hb hA hown hK hP 0 rfl rfl dM_axiom_13 ?_
    refine lv_iconst (v := nI 1) hx hb dM_axiom_16 (by decide +kernel) ?_
    refine tq_iadd hx hb dM_axiom_17 ?_
    refine pf_M_77 (v := .int (nI ((u.2.2 2) + 1))) hx hb hA hown hK hP hD hS 0 rfl rfl rfl (Nat.le_of_ble_eq_true rfl) dM_axiom_18 (fun H locs hP hD hS => ?_)
    have hP : va_P D vwA (mW a kI kL kZ (u.1, u.2.1, va_up u.2.2 2 ((u.2.2 2) + 1))) H := hP
    have hD : va_D (mA a) (mW a kI kL kZ (u.1, u.2.1, va_up u.2.2 2 ((u.2.2 2) + 1))) := hD
    refine lv_aload_n hx hb dM_axiom_21 rfl (lv_at hl 0 rfl) ?_
    refine gf_M_23 (v := .ref (a 4)) hx hb hA hown hK hP 0 rfl rfl dM_axiom_22 ?_
    refine lv_aload_n hx hb dM_axiom_25 rfl (lv_at hl 0 rfl) ?_
    refine gf_M_77 (v := .int (nI ((u.2.2 2) + 1))) hx hb hA hown hK hP 0 rfl rfl dM_axiom_26 ?_
    refine lv_iload_n hx hb dM_axiom_29 rfl (lv_at hl 1 rfl) ?_
    refine tq_iast hx hb hK hP hD hS 4 0 rfl rfl (by omega) (by omega) dM_axiom_30 (fun H locs hP hD hS => ?_)
    have hP : va_P D vwA (mW a kI kL kZ (u.1, va_up u.2.1 3 (upd (u.2.1 3) ((u.2.2 2) + 1) k), va_up u.2.2 2 ((u.2.2 2) + 1))) H := hP
    have hD : va_D (mA a) (mW a kI kL kZ (u.1, va_up u.2.1 3 (upd (u.2.1 3) ((u.2.2 2) + 1) k), va_up u.2.2 2 ((u.2.2 2) + 1))) := hD
    refine lv_aload_n hx hb dM_axiom_31 rfl (lv_at hl 0 rfl) ?_
    refine gf_M_26 (v := .ref (a 5)) hx hb hA hown hK hP 0 rfl rfl dM_axiom_32 ?_
    refine lv_aload_n hx hb dM_axiom_35 rfl (lv_at hl 0 rfl) ?_
    refine gf_M_77 (v := .int (nI ((u.2.2 2) + 1))) hx hb hA hown hK hP 0 rfl rfl dM_axiom_36 ?_
    refine lv_iload_n hx hb dM_axiom_39 rfl (lv_at hl 2 rfl) ?_
    refine tq_iast hx hb hK hP hD hS 5 0 rfl rfl (by omega) (by omega) dM_axiom_40 (fun H locs hP hD hS => ?_)
    have hP : va_P D vwA (mW a kI kL kZ (u.1, va_up (va_up u.2.1 3 (upd (u.2.1 3) ((u.2.2 2) + 1) k)) 4 (upd (u.2.1 4) ((u.2.2 2) + 1) x), va_up u.2.2 2 ((u.2.2 2) + 1))) H := hP
    have hD : va_D (mA a) (mW a kI kL kZ (u.1, va_up (va_up u.2.1 3 (upd (u.2.1 3) ((u.2.2 2) + 1) k)) 4 (upd (u.2.1 4) ((u.2.2 2) + 1) x), va_up u.2.2 2 ((u.2.2 2) + 1))) := hD
    refine lv_aload_n hx hb dM_axiom_41 rfl (lv_at hl 0 rfl) ?_
    refine gf_M_29 (v := .ref (a 6)) hx hb hA hown hK hP 0 rfl rfl dM_axiom_42 ?_
    refine lv_aload_n hx hb dM_axiom_45 rfl (lv_at hl 0 rfl) ?_
    refine gf_M_77 (v := .int (nI ((u.2.2 2) + 1))) hx hb hA hown hK hP 0 rfl rfl dM_axiom_46 ?_
    refine lv_iload_n hx hb dM_axiom_49 rfl (lv_at hl 3 rfl) ?_
    refine tq_iast hx hb hK hP hD hS 6 0 rfl rfl (by omega) (by omega) dM_axiom_50 (fun H locs hP hD hS => ?_)
    have hP : va_P D vwA (mW a kI kL kZ (u.1, va_up (va_up (va_up u.2.1 3 (upd (u.2.1 3) ((u.2.2 2) + 1) k)) 4 (upd (u.2.1 4) ((u.2.2 2) + 1) x)) 5 (upd (u.2.1 5) ((u.2.2 2) + 1) y), va_up u.2.2 2 ((u.2.2 2) + 1))) H := hP
    have hD : va_D (mA a) (mW a kI kL kZ (u.1, va_up (va_up (va_up u.2.1 3 (upd (u.2.1 3) ((u.2.2 2) + 1) k)) 4 (upd (u.2.1 4) ((u.2.2 2) + 1) x)) 5 (upd (u.2.1 5) ((u.2.2 2) + 1) y), va_up u.2.2 2 ((u.2.2 2) + 1))) := hD
    refine lv_aload_n hx hb dM_axiom_51 rfl (lv_at hl 0 rfl) ?_
    refine gf_M_32 (v := .ref (a 7)) hx hb hA hown hK hP 0 rfl rfl dM_axiom_52 ?_
    refine lv_aload_n hx hb dM_axiom_55 rfl (lv_at hl 0 rfl) ?_
    refine gf_M_77 (v := .int (nI ((u.2.2 2) + 1))) hx hb hA hown hK hP 0 rfl rfl dM_axiom_56 ?_
    refine lv_iload hx hb dM_axiom_59 (lv_at hl 4 rfl) ?_
    refine tq_iast hx hb hK hP hD hS 7 0 rfl rfl (by omega) (by omega) dM_axiom_61 (fun H locs hP hD hS => ?_)
    have hP : va_P D vwA (mW a kI kL kZ (u.1, va_up (va_up (va_up (va_up u.2.1 3 (upd (u.2.1 3) ((u.2.2 2) + 1) k)) 4 (upd (u.2.1 4) ((u.2.2 2) + 1) x)) 5 (upd (u.2.1 5) ((u.2.2 2) + 1) y)) 6 (upd (u.2.1 6) ((u.2.2 2) + 1) z), va_up u.2.2 2 ((u.2.2 2) + 1))) H := hP
    have hD : va_D (mA a) (mW a kI kL kZ (u.1, va_up (va_up (va_up (va_up u.2.1 3 (upd (u.2.1 3) ((u.2.2 2) + 1) k)) 4 (upd (u.2.1 4) ((u.2.2 2) + 1) x)) 5 (upd (u.2.1 5) ((u.2.2 2) + 1) y)) 6 (upd (u.2.1 6) ((u.2.2 2) + 1) z), va_up u.2.2 2 ((u.2.2 2) + 1))) := hD
    refine lv_aload_n hx hb dM_axiom_62 rfl (lv_at hl 0 rfl) ?_
    refine gf_M_35 (v := .ref (a 8)) hx hb hA hown hK hP 0 rfl rfl dM_axiom_63 ?_
    refine lv_aload_n hx hb dM_axiom_66 rfl (lv_at hl 0 rfl) ?_
    refine gf_M_77 (v := .int (nI ((u.2.2 2) + 1))) hx hb hA hown hK hP 0 rfl rfl dM_axiom_67 ?_
    refine lv_iconst (v := nI 1) hx hb dM_axiom_70 (by decide +kernel) ?_
    refine tq_zast hx hb hK hP hD hS 8 2 rfl rfl (by omega) (by omega) (by first | rfl | decide | exact tq_nzv _) dM_axiom_71 (fun H locs hP hD hS => ?_)
    have hP : va_P D vwA (mW a kI kL kZ (u.1, va_up (va_up (va_up (va_up (va_up u.2.1 3 (upd (u.2.1 3) ((u.2.2 2) + 1) k)) 4 (upd (u.2.1 4) ((u.2.2 2) + 1) x)) 5 (upd (u.2.1 5) ((u.2.2 2) + 1) y)) 6 (upd (u.2.1 6) ((u.2.2 2) + 1) z)) 7 (upd (u.2.1 7) ((u.2.2 2) + 1) (nI 1)), va_up u.2.2 2 ((u.2.2 2) + 1))) H := hP
    have hD : va_D (mA a) (mW a kI kL kZ (u.1, va_up (va_up (va_up (va_up (va_up u.2.1 3 (upd (u.2.1 3) ((u.2.2 2) + 1) k)) 4 (upd (u.2.1 4) ((u.2.2 2) + 1) x)) 5 (upd (u.2.1 5) ((u.2.2 2) + 1) y)) 6 (upd (u.2.1 6) ((u.2.2 2) + 1) z)) 7 (upd (u.2.1 7) ((u.2.2 2) + 1) (nI 1)), va_up u.2.2 2 ((u.2.2 2) + 1))) := hD
    refine lv_aload_n hx hb dM_axiom_72 rfl (lv_at hl 0 rfl) ?_
    refine lv_iconst (v := nI 0) hx hb dM_axiom_73 (by decide +kernel) ?_
    refine pf_M_58 (v := .int (nI 0)) hx hb hA hown hK hP hD hS 0 rfl rfl rfl (Nat.le_of_ble_eq_true rfl) dM_axiom_74 (fun H locs hP hD hS => ?_)
    have hP : va_P D vwA (mW a kI kL kZ (u.1, va_up (va_up (va_up (va_up (va_up u.2.1 3 (upd (u.2.1 3) ((u.2.2 2) + 1) k)) 4 (upd (u.2.1 4) ((u.2.2 2) + 1) x)) 5 (upd (u.2.1 5) ((u.2.2 2) + 1) y)) 6 (upd (u.2.1 6) ((u.2.2 2) + 1) z)) 7 (upd (u.2.1 7) ((u.2.2 2) + 1) (nI 1)), va_up (va_up u.2.2 2 ((u.2.2 2) + 1)) 3 0)) H := hP
    have hD : va_D (mA a) (mW a kI kL kZ (u.1, va_up (va_up (va_up (va_up (va_up u.2.1 3 (upd (u.2.1 3) ((u.2.2 2) + 1) k)) 4 (upd (u.2.1 4) ((u.2.2 2) + 1) x)) 5 (upd (u.2.1 5) ((u.2.2 2) + 1) y)) 6 (upd (u.2.1 6) ((u.2.2 2) + 1) z)) 7 (upd (u.2.1 7) ((u.2.2 2) + 1) (nI 1)), va_up (va_up u.2.2 2 ((u.2.2 2) + 1)) 3 0)) := hD
    refine lv_aload_n hx hb dM_axiom_77 rfl (lv_at hl 0 rfl) ?_
    refine gf_M_77 (v := .int (nI ((u.2.2 2) + 1))) hx hb hA hown hK hP 0 rfl rfl dM_axiom_78 ?_
    subst hQe
    exact W.iret (v := nI ((u.2.2 2) + 1)) hx hb hr (fun t ht hW => ⟨⟨_, (u.1, va_up (va_up (va_up (va_up (va_up u.2.1 3 (upd (u.2.1 3) ((u.2.2 2) + 1) k)) 4 (upd (u.2.1 4) ((u.2.2 2) + 1) x)) 5 (upd (u.2.1 5) ((u.2.2 2) + 1) y)) 6 (upd (u.2.1 6) ((u.2.2 2) + 1) z)) 7 (upd (u.2.1 7) ((u.2.2 2) + 1) (nI 1)), va_up (va_up u.2.2 2 ((u.2.2 2) + 1)) 3 0), rfl, Or.inl ⟨by omega, rfl, rfl⟩, tq_hp ht hP⟩, hS.F ht⟩) hS.2.2 dM_axiom_81
  · refine lv_iconst (v := (-1)) hx hb dM_axiom_9 (by decide +kernel) ?_
    subst hQe
    exact W.iret (v := (-1)) hx hb hr (fun t ht hW => ⟨⟨_, u, rfl, Or.inr ⟨by omega, rfl, rfl⟩, tq_hp ht hP⟩, hS.F ht⟩) hS.2.2 dM_axiom_10
set_option maxHeartbeats 4000000 in
set_option maxRecDepth 100000 in
/-- m_name -/
theorem m_name (l : Launch) (D : va_G) (a : Nat → Nat) (kI kL kZ : ClassId) (u : sU) (N : Nat) (kd fa fb : Nat → Nat) (T : Nat) (so xa xb xc : Nat → Nat) (hta : m_tab u N kd fa fb T so xa xb xc) : Met l yM_name (wM_name :: wA) ({ frames := 1, cells := 0, slots := 0, locals := 24 }) (va_Pc [.ref (a 0)] (tq_wB D vwA (mW a kI kL kZ u) (sT kI kL kZ))) (va_Qi (fun r (u' : sU) => (N < 160 ∧ r = nI N ∧ u' = m_new (m_thr u 0) 2 0 0) ∨ (¬ N < 160 ∧ r = -1 ∧ u' = m_thr u 0)) (fun u' t => va_P D vwA (mW a kI kL kZ u') t.heap) (mA a)) 0 0 (mA a) := by
  refine Met.ofW (cc := bM_name) (maxL := 1) (ret := (some .int)) (by decide +kernel) rfl ?_
  intro p e s m args below meth c s₁ B1 hml hv
  obtain ⟨rfl, hP, hK, hD0⟩ := hv
  have hx := B1.exec
  have hb := B1.bytes
  have hr := B1.returns
  have hA : ∀ w ∈ wA, w.before ([.ref (a 0)] : List Value).toArray s = true := fun w h => atoms_spec (ws := wM_name :: wA) B1.pre w (List.mem_cons_of_mem _ h)
  have hown : s.vm.findClass RcM = some m.cls := findClass_of_methodNamed B1.named
  have hlocks := B1.notSynchronized
  have hS : va_S (mA a) s.heap s.heap [] := va_S.rf
  have hl := lv_entry ([.ref (a 0)]) (n := 1) (Nat.le_of_ble_eq_true rfl)
  rw [lg_entry_eq]
  generalize (lg_sl ([.ref (a 0)]) ++ List.replicate (1 - (lg_sl ([.ref (a 0)])).length) Slot.unset).toArray = ls at hl ⊢
  have hl : lv_has ls 1 [(0, .ref (a 0))] := hl
  refine tq_gen (fun R Q hRe hQe => ?_)
  have hRf : 1 ≤ R.frames := by rw [hRe]; exact Nat.le_of_ble_eq_true rfl
  have hRl : 24 ≤ R.locals := by rw [hRe]; exact Nat.le_of_ble_eq_true rfl
  have hRc : 0 ≤ R.cells := by rw [hRe]; exact Nat.le_of_ble_eq_true rfl
  have hRs : 0 ≤ R.slots := by rw [hRe]; exact Nat.le_of_ble_eq_true rfl
  have hD := mA_D hD0
  have hN := mt_N hta
  refine lv_aload_n hx hb dM_name_0 rfl (lv_at hl 0 rfl) ?_
  refine lv_iconst (v := nI 0) hx hb dM_name_1 (by decide +kernel) ?_
  refine pf_M_55 (v := .int (nI 0)) hx hb hA hown hK hP hD hS 0 rfl rfl rfl (Nat.le_of_ble_eq_true rfl) dM_name_2 (fun H locs hP hD hS => ?_)
  have hP : va_P D vwA (mW a kI kL kZ (u.1, u.2.1, va_up u.2.2 0 0)) H := hP
  have hD : va_D (mA a) (mW a kI kL kZ (u.1, u.2.1, va_up u.2.2 0 0)) := hD
  have htt : m_tab (m_thr u 0) N kd fa fb T so xa xb xc := hta
  have hP : va_P D vwA (mW a kI kL kZ (m_thr u 0)) H := hP
  have hD : va_D (mA a) (mW a kI kL kZ (m_thr u 0)) := hD
  refine lv_aload_n hx hb dM_name_5 rfl (lv_at hl 0 rfl) ?_
  refine lv_iconst (v := nI 2) hx hb dM_name_6 (by decide +kernel) ?_
  refine lv_iconst (v := nI 0) hx hb dM_name_7 (by decide +kernel) ?_
  refine lv_iconst (v := nI 0) hx hb dM_name_8 (by decide +kernel) ?_
  refine ks_i (wf := mW a kI kL kZ) (u := (m_thr u 0)) ⟨hx, hb, hml, hown, hA⟩ (m_made2 l D a kI kL kZ (m_thr u 0) N kd fa fb T so xa xb xc htt 0 0) (kw_M_62 hA rfl rfl ⟨Nat.le_trans (Nat.le_of_ble_eq_true rfl) hRf, Nat.le_trans (Nat.le_of_ble_eq_true rfl) hRl⟩) hK hP hD hS (fun _ h => h) (fun u' => mW_adr u') 0 5 rfl rfl rfl hl.1 (Nat.le_of_ble_eq_true rfl) ⟨by omega, by omega⟩ dM_name_9 rfl (fun r1 u1 H locs hu1 hP hD hS => ?_)
  subst hQe
  exact W.iret (v := r1) hx hb hr (fun t ht hW => ⟨⟨_, u1, rfl, hu1, tq_hp ht hP⟩, hS.F ht⟩) hS.2.2 dM_name_12
set_option maxHeartbeats 4000000 in
set_option maxRecDepth 100000 in
/-- m_both -/
theorem m_both (l : Launch) (D : va_G) (a : Nat → Nat) (kI kL kZ : ClassId) (u : sU) (N : Nat) (kd fa fb : Nat → Nat) (T : Nat) (so xa xb xc : Nat → Nat) (hta : m_tab u N kd fa fb T so xa xb xc) (d d2 : Nat) (hd : d < N) (hd2 : d2 < N) : Met l yM_both (wM_both :: wA) ({ frames := 1, cells := 0, slots := 0, locals := 24 }) (va_Pc [.ref (a 0), .int (nI d), .int (nI d2)] (tq_wB D vwA (mW a kI kL kZ u) (sT kI kL kZ))) (va_Qi (fun r (u' : sU) => q_made (m_thr u 0) u' (m_new (m_thr u 0) 3 d d2) N kd fa fb 2 d d2 r) (fun u' t => va_P D vwA (mW a kI kL kZ u') t.heap) (mA a)) 0 0 (mA a) := by
  refine Met.ofW (cc := bM_both) (maxL := 3) (ret := (some .int)) (by decide +kernel) rfl ?_
  intro p e s m args below meth c s₁ B1 hml hv
  obtain ⟨rfl, hP, hK, hD0⟩ := hv
  have hx := B1.exec
  have hb := B1.bytes
  have hr := B1.returns
  have hA : ∀ w ∈ wA, w.before ([.ref (a 0), .int (nI d), .int (nI d2)] : List Value).toArray s = true := fun w h => atoms_spec (ws := wM_both :: wA) B1.pre w (List.mem_cons_of_mem _ h)
  have hown : s.vm.findClass RcM = some m.cls := findClass_of_methodNamed B1.named
  have hlocks := B1.notSynchronized
  have hS : va_S (mA a) s.heap s.heap [] := va_S.rf
  have hl := lv_entry ([.ref (a 0), .int (nI d), .int (nI d2)]) (n := 3) (Nat.le_of_ble_eq_true rfl)
  rw [lg_entry_eq]
  generalize (lg_sl ([.ref (a 0), .int (nI d), .int (nI d2)]) ++ List.replicate (3 - (lg_sl ([.ref (a 0), .int (nI d), .int (nI d2)])).length) Slot.unset).toArray = ls at hl ⊢
  have hl : lv_has ls 3 [(0, .ref (a 0)), (1, .int (nI d)), (2, .int (nI d2))] := hl
  refine tq_gen (fun R Q hRe hQe => ?_)
  have hRf : 1 ≤ R.frames := by rw [hRe]; exact Nat.le_of_ble_eq_true rfl
  have hRl : 24 ≤ R.locals := by rw [hRe]; exact Nat.le_of_ble_eq_true rfl
  have hRc : 0 ≤ R.cells := by rw [hRe]; exact Nat.le_of_ble_eq_true rfl
  have hRs : 0 ≤ R.slots := by rw [hRe]; exact Nat.le_of_ble_eq_true rfl
  have hD := mA_D hD0
  have hN := mt_N hta
  have t1 : m_th (u.2.2 1) (nI d) = true := th_t (by omega)
  have t2 : m_th (u.2.2 1) (nI d2) = true := th_t (by omega)
  refine lv_aload_n hx hb dM_both_0 rfl (lv_at hl 0 rfl) ?_
  refine lv_aload_n hx hb dM_both_1 rfl (lv_at hl 0 rfl) ?_
  refine lv_iload_n hx hb dM_both_2 rfl (lv_at hl 1 rfl) ?_
  refine ks_rv ⟨hx, hb, hml, hown, hA⟩ (m_isThere l D a kI kL kZ u (nI d) (by omega)) (kw_M_66 hA rfl rfl ⟨Nat.le_trans (Nat.le_of_ble_eq_true rfl) hRf, Nat.le_trans (Nat.le_of_ble_eq_true rfl) hRl⟩) hK hP hS 0 5 rfl rfl rfl hl.1 (Nat.le_of_ble_eq_true rfl) ⟨by omega, by omega⟩ dM_both_3 rfl (fun H locs hP hS => ?_)
  refine tq_i (y := bI (m_th (u.2.2 1) (nI d))) rfl ?_
  refine tq_bf hx hb dM_both_6 (tgt := 17) (by decide) (fun h6 => ?_) (fun h6 => ?_)
  · exact absurd h6 (by rw [t1]; decide)
  · refine lv_aload_n hx hb dM_both_9 rfl (lv_at hl 0 rfl) ?_
    refine lv_iload_n hx hb dM_both_10 rfl (lv_at hl 2 rfl) ?_
    refine ks_rv ⟨hx, hb, hml, hown, hA⟩ (m_isThere l D a kI kL kZ u (nI d2) (by omega)) (kw_M_66 hA rfl rfl ⟨Nat.le_trans (Nat.le_of_ble_eq_true rfl) hRf, Nat.le_trans (Nat.le_of_ble_eq_true rfl) hRl⟩) hK hP hS 0 5 rfl rfl rfl hl.1 (Nat.le_of_ble_eq_true rfl) ⟨by omega, by omega⟩ dM_both_11 rfl (fun H locs hP hS => ?_)
    refine tq_i (y := bI (m_th (u.2.2 1) (nI d2))) rfl ?_
    refine tq_bt hx hb dM_both_14 (tgt := 21) (by decide) (fun h14 => ?_) (fun h14 => ?_)
    · refine lv_iconst (v := nI 0) hx hb dM_both_21 (by decide +kernel) ?_
      refine ks_i (wf := mW a kI kL kZ) (u := u) ⟨hx, hb, hml, hown, hA⟩ (m_fails0 l D a kI kL kZ u ) (kw_M_70 hA rfl rfl ⟨Nat.le_trans (Nat.le_of_ble_eq_true rfl) hRf, Nat.le_trans (Nat.le_of_ble_eq_true rfl) hRl⟩) hK hP hD hS (fun _ h => h) (fun u' => mW_adr u') 0 5 rfl rfl rfl hl.1 (Nat.le_of_ble_eq_true rfl) ⟨by omega, by omega⟩ dM_both_22 rfl (fun r1 u1 H locs hu1 hP hD hS => ?_)
      refine tq_i hu1.1 ?_
      have htau1 : m_tab u1 N kd fa fb T so xa xb xc := by rw [hu1.2]; exact hta
      have hNu1 := mt_N htau1
      refine tq_zeq hx hb dM_both_25 (tgt := 32) (by decide) (by omega) (fun h25 => ?_) (fun h25 => ?_)
      · refine lv_aload_n hx hb dM_both_32 rfl (lv_at hl 0 rfl) ?_
        refine lv_iconst (v := nI 3) hx hb dM_both_33 (by decide +kernel) ?_
        refine lv_iload_n hx hb dM_both_34 rfl (lv_at hl 1 rfl) ?_
        refine lv_iload_n hx hb dM_both_35 rfl (lv_at hl 2 rfl) ?_
        refine ks_i (wf := mW a kI kL kZ) (u := u1) ⟨hx, hb, hml, hown, hA⟩ (m_made3 l D a kI kL kZ u1 N kd fa fb T so xa xb xc htau1 d d2 (by omega) (by omega)) (kw_M_62 hA rfl rfl ⟨Nat.le_trans (Nat.le_of_ble_eq_true rfl) hRf, Nat.le_trans (Nat.le_of_ble_eq_true rfl) hRl⟩) hK hP hD hS (fun _ h => h) (fun u' => mW_adr u') 0 5 rfl rfl rfl hl.1 (Nat.le_of_ble_eq_true rfl) ⟨by omega, by omega⟩ dM_both_36 rfl (fun r2 u2 H locs hu2 hP hD hS => ?_)
        subst hQe
        exact W.iret (v := r2) hx hb hr (fun t ht hW => ⟨⟨_, u2, rfl, by rw [← hu1.2]; exact hu2, tq_hp ht hP⟩, hS.F ht⟩) hS.2.2 dM_both_39
      · omega
    · exact absurd h14 (by rw [t2]; decide)
set_option maxHeartbeats 4000000 in
set_option maxRecDepth 100000 in
/-- m_some -/
theorem m_some (l : Launch) (D : va_G) (a : Nat → Nat) (kI kL kZ : ClassId) (u : sU) (N : Nat) (kd fa fb : Nat → Nat) (T : Nat) (so xa xb xc : Nat → Nat) (hta : m_tab u N kd fa fb T so xa xb xc) (i d : Nat) (hi : i < 6) (hd : d < N) : Met l yM_some (wM_some :: wA) ({ frames := 1, cells := 0, slots := 0, locals := 24 }) (va_Pc [.ref (a 0), .int (nI i), .int (nI d)] (tq_wB D vwA (mW a kI kL kZ u) (sT kI kL kZ))) (va_Qi (fun r (u' : sU) => q_made (m_thr u 0) u' (m_new (m_thr u 0) 4 i d) N kd fa fb 3 i d r) (fun u' t => va_P D vwA (mW a kI kL kZ u') t.heap) (mA a)) 0 0 (mA a) := by
  refine Met.ofW (cc := bM_some) (maxL := 3) (ret := (some .int)) (by decide +kernel) rfl ?_
  intro p e s m args below meth c s₁ B1 hml hv
  obtain ⟨rfl, hP, hK, hD0⟩ := hv
  have hx := B1.exec
  have hb := B1.bytes
  have hr := B1.returns
  have hA : ∀ w ∈ wA, w.before ([.ref (a 0), .int (nI i), .int (nI d)] : List Value).toArray s = true := fun w h => atoms_spec (ws := wM_some :: wA) B1.pre w (List.mem_cons_of_mem _ h)
  have hown : s.vm.findClass RcM = some m.cls := findClass_of_methodNamed B1.named
  have hlocks := B1.notSynchronized
  have hS : va_S (mA a) s.heap s.heap [] := va_S.rf
  have hl := lv_entry ([.ref (a 0), .int (nI i), .int (nI d)]) (n := 3) (Nat.le_of_ble_eq_true rfl)
  rw [lg_entry_eq]
  generalize (lg_sl ([.ref (a 0), .int (nI i), .int (nI d)]) ++ List.replicate (3 - (lg_sl ([.ref (a 0), .int (nI i), .int (nI d)])).length) Slot.unset).toArray = ls at hl ⊢
  have hl : lv_has ls 3 [(0, .ref (a 0)), (1, .int (nI i)), (2, .int (nI d))] := hl
  refine tq_gen (fun R Q hRe hQe => ?_)
  have hRf : 1 ≤ R.frames := by rw [hRe]; exact Nat.le_of_ble_eq_true rfl
  have hRl : 24 ≤ R.locals := by rw [hRe]; exact Nat.le_of_ble_eq_true rfl
  have hRc : 0 ≤ R.cells := by rw [hRe]; exact Nat.le_of_ble_eq_true rfl
  have hRs : 0 ≤ R.slots := by rw [hRe]; exact Nat.le_of_ble_eq_true rfl
  have hD := mA_D hD0
  have hN := mt_N hta
  have t1 : m_th 6 (nI i) = true := th_t (by omega)
  have t2 : m_th (u.2.2 1) (nI d) = true := th_t (by omega)
  refine lv_aload_n hx hb dM_some_0 rfl (lv_at hl 0 rfl) ?_
  refine lv_iload_n hx hb dM_some_1 rfl (lv_at hl 1 rfl) ?_
  refine ks_s ⟨hx, hb, hml, hown, hA⟩ (m_isRole l (nI i)) (kw_M_74 hA rfl rfl ⟨Nat.le_trans (Nat.le_of_ble_eq_true rfl) hRf, Nat.le_trans (Nat.le_of_ble_eq_true rfl) hRl⟩) hP hS rfl hl.1 (Nat.le_of_ble_eq_true rfl) ⟨by omega, by omega⟩ dM_some_2 rfl (fun H locs hP hS => ?_)
  refine tq_bf hx hb dM_some_5 (tgt := 16) (by decide) (fun h5 => ?_) (fun h5 => ?_)
  · exact absurd h5 (by rw [t1]; decide)
  · refine lv_aload_n hx hb dM_some_8 rfl (lv_at hl 0 rfl) ?_
    refine lv_iload_n hx hb dM_some_9 rfl (lv_at hl 2 rfl) ?_
    refine ks_rv ⟨hx, hb, hml, hown, hA⟩ (m_isThere l D a kI kL kZ u (nI d) (by omega)) (kw_M_66 hA rfl rfl ⟨Nat.le_trans (Nat.le_of_ble_eq_true rfl) hRf, Nat.le_trans (Nat.le_of_ble_eq_true rfl) hRl⟩) hK hP hS 0 5 rfl rfl rfl hl.1 (Nat.le_of_ble_eq_true rfl) ⟨by omega, by omega⟩ dM_some_10 rfl (fun H locs hP hS => ?_)
    refine tq_i (y := bI (m_th (u.2.2 1) (nI d))) rfl ?_
    refine tq_bt hx hb dM_some_13 (tgt := 20) (by decide) (fun h13 => ?_) (fun h13 => ?_)
    · refine lv_iconst (v := nI 0) hx hb dM_some_20 (by decide +kernel) ?_
      refine ks_i (wf := mW a kI kL kZ) (u := u) ⟨hx, hb, hml, hown, hA⟩ (m_fails0 l D a kI kL kZ u ) (kw_M_70 hA rfl rfl ⟨Nat.le_trans (Nat.le_of_ble_eq_true rfl) hRf, Nat.le_trans (Nat.le_of_ble_eq_true rfl) hRl⟩) hK hP hD hS (fun _ h => h) (fun u' => mW_adr u') 0 5 rfl rfl rfl hl.1 (Nat.le_of_ble_eq_true rfl) ⟨by omega, by omega⟩ dM_some_21 rfl (fun r1 u1 H locs hu1 hP hD hS => ?_)
      refine tq_i hu1.1 ?_
      have htau1 : m_tab u1 N kd fa fb T so xa xb xc := by rw [hu1.2]; exact hta
      have hNu1 := mt_N htau1
      refine tq_zeq hx hb dM_some_24 (tgt := 31) (by decide) (by omega) (fun h24 => ?_) (fun h24 => ?_)
      · refine lv_aload_n hx hb dM_some_31 rfl (lv_at hl 0 rfl) ?_
        refine lv_iconst (v := nI 4) hx hb dM_some_32 (by decide +kernel) ?_
        refine lv_iload_n hx hb dM_some_33 rfl (lv_at hl 1 rfl) ?_
        refine lv_iload_n hx hb dM_some_34 rfl (lv_at hl 2 rfl) ?_
        refine ks_i (wf := mW a kI kL kZ) (u := u1) ⟨hx, hb, hml, hown, hA⟩ (m_made4 l D a kI kL kZ u1 N kd fa fb T so xa xb xc htau1 i d (by omega) (by omega)) (kw_M_62 hA rfl rfl ⟨Nat.le_trans (Nat.le_of_ble_eq_true rfl) hRf, Nat.le_trans (Nat.le_of_ble_eq_true rfl) hRl⟩) hK hP hD hS (fun _ h => h) (fun u' => mW_adr u') 0 5 rfl rfl rfl hl.1 (Nat.le_of_ble_eq_true rfl) ⟨by omega, by omega⟩ dM_some_35 rfl (fun r2 u2 H locs hu2 hP hD hS => ?_)
        subst hQe
        exact W.iret (v := r2) hx hb hr (fun t ht hW => ⟨⟨_, u2, rfl, by rw [← hu1.2]; exact hu2, tq_hp ht hP⟩, hS.F ht⟩) hS.2.2 dM_some_38
      · omega
    · exact absurd h13 (by rw [t2]; decide)
set_option maxHeartbeats 4000000 in
set_option maxRecDepth 100000 in
/-- m_below -/
theorem m_below (l : Launch) (D : va_G) (a : Nat → Nat) (kI kL kZ : ClassId) (u : sU) (N : Nat) (kd fa fb : Nat → Nat) (T : Nat) (so xa xb xc : Nat → Nat) (hta : m_tab u N kd fa fb T so xa xb xc) (d d2 : Nat) (hd : d < N) (hd2 : d2 < N) : Met l yM_below (wM_below :: wA) ({ frames := 1, cells := 0, slots := 0, locals := 24 }) (va_Pc [.ref (a 0), .int (nI d), .int (nI d2)] (tq_wB D vwA (mW a kI kL kZ u) (sT kI kL kZ))) (va_Qi (fun r (u' : sU) => (T < 100 ∧ r = nI (T + 1) ∧ u' = m_tell (m_thr u 0) (nI 0) (nI d) (nI d2) (nI 0)) ∨ (¬ T < 100 ∧ r = -1 ∧ u' = m_thr u 0)) (fun u' t => va_P D vwA (mW a kI kL kZ u') t.heap) (mA a)) 0 0 (mA a) := by
  refine Met.ofW (cc := bM_below) (maxL := 3) (ret := (some .int)) (by decide +kernel) rfl ?_
  intro p e s m args below meth c s₁ B1 hml hv
  obtain ⟨rfl, hP, hK, hD0⟩ := hv
  have hx := B1.exec
  have hb := B1.bytes
  have hr := B1.returns
  have hA : ∀ w ∈ wA, w.before ([.ref (a 0), .int (nI d), .int (nI d2)] : List Value).toArray s = true := fun w h => atoms_spec (ws := wM_below :: wA) B1.pre w (List.mem_cons_of_mem _ h)
  have hown : s.vm.findClass RcM = some m.cls := findClass_of_methodNamed B1.named
  have hlocks := B1.notSynchronized
  have hS : va_S (mA a) s.heap s.heap [] := va_S.rf
  have hl := lv_entry ([.ref (a 0), .int (nI d), .int (nI d2)]) (n := 3) (Nat.le_of_ble_eq_true rfl)
  rw [lg_entry_eq]
  generalize (lg_sl ([.ref (a 0), .int (nI d), .int (nI d2)]) ++ List.replicate (3 - (lg_sl ([.ref (a 0), .int (nI d), .int (nI d2)])).length) Slot.unset).toArray = ls at hl ⊢
  have hl : lv_has ls 3 [(0, .ref (a 0)), (1, .int (nI d)), (2, .int (nI d2))] := hl
  refine tq_gen (fun R Q hRe hQe => ?_)
  have hRf : 1 ≤ R.frames := by rw [hRe]; exact Nat.le_of_ble_eq_true rfl
  have hRl : 24 ≤ R.locals := by rw [hRe]; exact Nat.le_of_ble_eq_true rfl
  have hRc : 0 ≤ R.cells := by rw [hRe]; exact Nat.le_of_ble_eq_true rfl
  have hRs : 0 ≤ R.slots := by rw [hRe]; exact Nat.le_of_ble_eq_true rfl
  have hD := mA_D hD0
  have hN := mt_N hta
  have t1 : m_th (u.2.2 1) (nI d) = true := th_t (by omega)
  have t2 : m_th (u.2.2 1) (nI d2) = true := th_t (by omega)
  refine lv_aload_n hx hb dM_below_0 rfl (lv_at hl 0 rfl) ?_
  refine lv_aload_n hx hb dM_below_1 rfl (lv_at hl 0 rfl) ?_
  refine lv_iload_n hx hb dM_below_2 rfl (lv_at hl 1 rfl) ?_
  refine ks_rv ⟨hx, hb, hml, hown, hA⟩ (m_isThere l D a kI kL kZ u (nI d) (by omega)) (kw_M_66 hA rfl rfl ⟨Nat.le_trans (Nat.le_of_ble_eq_true rfl) hRf, Nat.le_trans (Nat.le_of_ble_eq_true rfl) hRl⟩) hK hP hS 0 5 rfl rfl rfl hl.1 (Nat.le_of_ble_eq_true rfl) ⟨by omega, by omega⟩ dM_below_3 rfl (fun H locs hP hS => ?_)
  refine tq_i (y := bI (m_th (u.2.2 1) (nI d))) rfl ?_
  refine tq_bf hx hb dM_below_6 (tgt := 17) (by decide) (fun h6 => ?_) (fun h6 => ?_)
  · exact absurd h6 (by rw [t1]; decide)
  · refine lv_aload_n hx hb dM_below_9 rfl (lv_at hl 0 rfl) ?_
    refine lv_iload_n hx hb dM_below_10 rfl (lv_at hl 2 rfl) ?_
    refine ks_rv ⟨hx, hb, hml, hown, hA⟩ (m_isThere l D a kI kL kZ u (nI d2) (by omega)) (kw_M_66 hA rfl rfl ⟨Nat.le_trans (Nat.le_of_ble_eq_true rfl) hRf, Nat.le_trans (Nat.le_of_ble_eq_true rfl) hRl⟩) hK hP hS 0 5 rfl rfl rfl hl.1 (Nat.le_of_ble_eq_true rfl) ⟨by omega, by omega⟩ dM_below_11 rfl (fun H locs hP hS => ?_)
    refine tq_i (y := bI (m_th (u.2.2 1) (nI d2))) rfl ?_
    refine tq_bt hx hb dM_below_14 (tgt := 21) (by decide) (fun h14 => ?_) (fun h14 => ?_)
    · refine lv_iconst (v := nI 0) hx hb dM_below_21 (by decide +kernel) ?_
      refine ks_i (wf := mW a kI kL kZ) (u := u) ⟨hx, hb, hml, hown, hA⟩ (m_fails0 l D a kI kL kZ u ) (kw_M_70 hA rfl rfl ⟨Nat.le_trans (Nat.le_of_ble_eq_true rfl) hRf, Nat.le_trans (Nat.le_of_ble_eq_true rfl) hRl⟩) hK hP hD hS (fun _ h => h) (fun u' => mW_adr u') 0 5 rfl rfl rfl hl.1 (Nat.le_of_ble_eq_true rfl) ⟨by omega, by omega⟩ dM_below_22 rfl (fun r1 u1 H locs hu1 hP hD hS => ?_)
      refine tq_i hu1.1 ?_
      have htau1 : m_tab u1 N kd fa fb T so xa xb xc := by rw [hu1.2]; exact hta
      have hNu1 := mt_N htau1
      refine tq_zeq hx hb dM_below_25 (tgt := 32) (by decide) (by omega) (fun h25 => ?_) (fun h25 => ?_)
      · refine lv_aload_n hx hb dM_below_32 rfl (lv_at hl 0 rfl) ?_
        refine lv_iconst (v := nI 0) hx hb dM_below_33 (by decide +kernel) ?_
        refine lv_iload_n hx hb dM_below_34 rfl (lv_at hl 1 rfl) ?_
        refine lv_iload_n hx hb dM_below_35 rfl (lv_at hl 2 rfl) ?_
        refine lv_iconst (v := nI 0) hx hb dM_below_36 (by decide +kernel) ?_
        refine ks_i (wf := mW a kI kL kZ) (u := u1) ⟨hx, hb, hml, hown, hA⟩ (m_axiom l D a kI kL kZ u1 (nI 0) (nI d) (nI d2) (nI 0) (by omega)) (kw_M_80 hA rfl rfl ⟨Nat.le_trans (Nat.le_of_ble_eq_true rfl) hRf, Nat.le_trans (Nat.le_of_ble_eq_true rfl) hRl⟩) hK hP hD hS (fun _ h => h) (fun u' => mW_adr u') 0 5 rfl rfl rfl hl.1 (Nat.le_of_ble_eq_true rfl) ⟨by omega, by omega⟩ dM_below_37 rfl (fun r2 u2 H locs hu2 hP hD hS => ?_)
        subst hQe
        exact W.iret (v := r2) hx hb hr (fun t ht hW => ⟨⟨_, u2, rfl, by rw [hNu1.2.2.2.1, hu1.2] at hu2; exact hu2, tq_hp ht hP⟩, hS.F ht⟩) hS.2.2 dM_below_40
      · omega
    · exact absurd h14 (by rw [t2]; decide)
set_option maxHeartbeats 4000000 in
set_option maxRecDepth 100000 in
/-- m_equal -/
theorem m_equal (l : Launch) (D : va_G) (a : Nat → Nat) (kI kL kZ : ClassId) (u : sU) (N : Nat) (kd fa fb : Nat → Nat) (T : Nat) (so xa xb xc : Nat → Nat) (hta : m_tab u N kd fa fb T so xa xb xc) (d d2 : Nat) (hd : d < N) (hd2 : d2 < N) : Met l yM_equal (wM_equal :: wA) ({ frames := 1, cells := 0, slots := 0, locals := 24 }) (va_Pc [.ref (a 0), .int (nI d), .int (nI d2)] (tq_wB D vwA (mW a kI kL kZ u) (sT kI kL kZ))) (va_Qi (fun r (u' : sU) => (T < 100 ∧ r = nI (T + 1) ∧ u' = m_tell (m_thr u 0) (nI 1) (nI d) (nI d2) (nI 0)) ∨ (¬ T < 100 ∧ r = -1 ∧ u' = m_thr u 0)) (fun u' t => va_P D vwA (mW a kI kL kZ u') t.heap) (mA a)) 0 0 (mA a) := by
  refine Met.ofW (cc := bM_equal) (maxL := 3) (ret := (some .int)) (by decide +kernel) rfl ?_
  intro p e s m args below meth c s₁ B1 hml hv
  obtain ⟨rfl, hP, hK, hD0⟩ := hv
  have hx := B1.exec
  have hb := B1.bytes
  have hr := B1.returns
  have hA : ∀ w ∈ wA, w.before ([.ref (a 0), .int (nI d), .int (nI d2)] : List Value).toArray s = true := fun w h => atoms_spec (ws := wM_equal :: wA) B1.pre w (List.mem_cons_of_mem _ h)
  have hown : s.vm.findClass RcM = some m.cls := findClass_of_methodNamed B1.named
  have hlocks := B1.notSynchronized
  have hS : va_S (mA a) s.heap s.heap [] := va_S.rf
  have hl := lv_entry ([.ref (a 0), .int (nI d), .int (nI d2)]) (n := 3) (Nat.le_of_ble_eq_true rfl)
  rw [lg_entry_eq]
  generalize (lg_sl ([.ref (a 0), .int (nI d), .int (nI d2)]) ++ List.replicate (3 - (lg_sl ([.ref (a 0), .int (nI d), .int (nI d2)])).length) Slot.unset).toArray = ls at hl ⊢
  have hl : lv_has ls 3 [(0, .ref (a 0)), (1, .int (nI d)), (2, .int (nI d2))] := hl
  refine tq_gen (fun R Q hRe hQe => ?_)
  have hRf : 1 ≤ R.frames := by rw [hRe]; exact Nat.le_of_ble_eq_true rfl
  have hRl : 24 ≤ R.locals := by rw [hRe]; exact Nat.le_of_ble_eq_true rfl
  have hRc : 0 ≤ R.cells := by rw [hRe]; exact Nat.le_of_ble_eq_true rfl
  have hRs : 0 ≤ R.slots := by rw [hRe]; exact Nat.le_of_ble_eq_true rfl
  have hD := mA_D hD0
  have hN := mt_N hta
  have t1 : m_th (u.2.2 1) (nI d) = true := th_t (by omega)
  have t2 : m_th (u.2.2 1) (nI d2) = true := th_t (by omega)
  refine lv_aload_n hx hb dM_equal_0 rfl (lv_at hl 0 rfl) ?_
  refine lv_aload_n hx hb dM_equal_1 rfl (lv_at hl 0 rfl) ?_
  refine lv_iload_n hx hb dM_equal_2 rfl (lv_at hl 1 rfl) ?_
  refine ks_rv ⟨hx, hb, hml, hown, hA⟩ (m_isThere l D a kI kL kZ u (nI d) (by omega)) (kw_M_66 hA rfl rfl ⟨Nat.le_trans (Nat.le_of_ble_eq_true rfl) hRf, Nat.le_trans (Nat.le_of_ble_eq_true rfl) hRl⟩) hK hP hS 0 5 rfl rfl rfl hl.1 (Nat.le_of_ble_eq_true rfl) ⟨by omega, by omega⟩ dM_equal_3 rfl (fun H locs hP hS => ?_)
  refine tq_i (y := bI (m_th (u.2.2 1) (nI d))) rfl ?_
  refine tq_bf hx hb dM_equal_6 (tgt := 17) (by decide) (fun h6 => ?_) (fun h6 => ?_)
  · exact absurd h6 (by rw [t1]; decide)
  · refine lv_aload_n hx hb dM_equal_9 rfl (lv_at hl 0 rfl) ?_
    refine lv_iload_n hx hb dM_equal_10 rfl (lv_at hl 2 rfl) ?_
    refine ks_rv ⟨hx, hb, hml, hown, hA⟩ (m_isThere l D a kI kL kZ u (nI d2) (by omega)) (kw_M_66 hA rfl rfl ⟨Nat.le_trans (Nat.le_of_ble_eq_true rfl) hRf, Nat.le_trans (Nat.le_of_ble_eq_true rfl) hRl⟩) hK hP hS 0 5 rfl rfl rfl hl.1 (Nat.le_of_ble_eq_true rfl) ⟨by omega, by omega⟩ dM_equal_11 rfl (fun H locs hP hS => ?_)
    refine tq_i (y := bI (m_th (u.2.2 1) (nI d2))) rfl ?_
    refine tq_bt hx hb dM_equal_14 (tgt := 21) (by decide) (fun h14 => ?_) (fun h14 => ?_)
    · refine lv_iconst (v := nI 0) hx hb dM_equal_21 (by decide +kernel) ?_
      refine ks_i (wf := mW a kI kL kZ) (u := u) ⟨hx, hb, hml, hown, hA⟩ (m_fails0 l D a kI kL kZ u ) (kw_M_70 hA rfl rfl ⟨Nat.le_trans (Nat.le_of_ble_eq_true rfl) hRf, Nat.le_trans (Nat.le_of_ble_eq_true rfl) hRl⟩) hK hP hD hS (fun _ h => h) (fun u' => mW_adr u') 0 5 rfl rfl rfl hl.1 (Nat.le_of_ble_eq_true rfl) ⟨by omega, by omega⟩ dM_equal_22 rfl (fun r1 u1 H locs hu1 hP hD hS => ?_)
      refine tq_i hu1.1 ?_
      have htau1 : m_tab u1 N kd fa fb T so xa xb xc := by rw [hu1.2]; exact hta
      have hNu1 := mt_N htau1
      refine tq_zeq hx hb dM_equal_25 (tgt := 32) (by decide) (by omega) (fun h25 => ?_) (fun h25 => ?_)
      · refine lv_aload_n hx hb dM_equal_32 rfl (lv_at hl 0 rfl) ?_
        refine lv_iconst (v := nI 1) hx hb dM_equal_33 (by decide +kernel) ?_
        refine lv_iload_n hx hb dM_equal_34 rfl (lv_at hl 1 rfl) ?_
        refine lv_iload_n hx hb dM_equal_35 rfl (lv_at hl 2 rfl) ?_
        refine lv_iconst (v := nI 0) hx hb dM_equal_36 (by decide +kernel) ?_
        refine ks_i (wf := mW a kI kL kZ) (u := u1) ⟨hx, hb, hml, hown, hA⟩ (m_axiom l D a kI kL kZ u1 (nI 1) (nI d) (nI d2) (nI 0) (by omega)) (kw_M_80 hA rfl rfl ⟨Nat.le_trans (Nat.le_of_ble_eq_true rfl) hRf, Nat.le_trans (Nat.le_of_ble_eq_true rfl) hRl⟩) hK hP hD hS (fun _ h => h) (fun u' => mW_adr u') 0 5 rfl rfl rfl hl.1 (Nat.le_of_ble_eq_true rfl) ⟨by omega, by omega⟩ dM_equal_37 rfl (fun r2 u2 H locs hu2 hP hD hS => ?_)
        subst hQe
        exact W.iret (v := r2) hx hb hr (fun t ht hW => ⟨⟨_, u2, rfl, by rw [hNu1.2.2.2.1, hu1.2] at hu2; exact hu2, tq_hp ht hP⟩, hS.F ht⟩) hS.2.2 dM_equal_40
      · omega
    · exact absurd h14 (by rw [t2]; decide)
set_option maxHeartbeats 4000000 in
set_option maxRecDepth 100000 in
/-- m_roleBelow -/
theorem m_roleBelow (l : Launch) (D : va_G) (a : Nat → Nat) (kI kL kZ : ClassId) (u : sU) (N : Nat) (kd fa fb : Nat → Nat) (T : Nat) (so xa xb xc : Nat → Nat) (hta : m_tab u N kd fa fb T so xa xb xc) (d d2 : Nat) (hd : d < 6) (hd2 : d2 < 6) : Met l yM_roleBelow (wM_roleBelow :: wA) ({ frames := 1, cells := 0, slots := 0, locals := 24 }) (va_Pc [.ref (a 0), .int (nI d), .int (nI d2)] (tq_wB D vwA (mW a kI kL kZ u) (sT kI kL kZ))) (va_Qi (fun r (u' : sU) => (T < 100 ∧ r = nI (T + 1) ∧ u' = m_tell (m_thr u 0) (nI 2) (nI d) (nI d2) (nI 0)) ∨ (¬ T < 100 ∧ r = -1 ∧ u' = m_thr u 0)) (fun u' t => va_P D vwA (mW a kI kL kZ u') t.heap) (mA a)) 0 0 (mA a) := by
  refine Met.ofW (cc := bM_roleBelow) (maxL := 3) (ret := (some .int)) (by decide +kernel) rfl ?_
  intro p e s m args below meth c s₁ B1 hml hv
  obtain ⟨rfl, hP, hK, hD0⟩ := hv
  have hx := B1.exec
  have hb := B1.bytes
  have hr := B1.returns
  have hA : ∀ w ∈ wA, w.before ([.ref (a 0), .int (nI d), .int (nI d2)] : List Value).toArray s = true := fun w h => atoms_spec (ws := wM_roleBelow :: wA) B1.pre w (List.mem_cons_of_mem _ h)
  have hown : s.vm.findClass RcM = some m.cls := findClass_of_methodNamed B1.named
  have hlocks := B1.notSynchronized
  have hS : va_S (mA a) s.heap s.heap [] := va_S.rf
  have hl := lv_entry ([.ref (a 0), .int (nI d), .int (nI d2)]) (n := 3) (Nat.le_of_ble_eq_true rfl)
  rw [lg_entry_eq]
  generalize (lg_sl ([.ref (a 0), .int (nI d), .int (nI d2)]) ++ List.replicate (3 - (lg_sl ([.ref (a 0), .int (nI d), .int (nI d2)])).length) Slot.unset).toArray = ls at hl ⊢
  have hl : lv_has ls 3 [(0, .ref (a 0)), (1, .int (nI d)), (2, .int (nI d2))] := hl
  refine tq_gen (fun R Q hRe hQe => ?_)
  have hRf : 1 ≤ R.frames := by rw [hRe]; exact Nat.le_of_ble_eq_true rfl
  have hRl : 24 ≤ R.locals := by rw [hRe]; exact Nat.le_of_ble_eq_true rfl
  have hRc : 0 ≤ R.cells := by rw [hRe]; exact Nat.le_of_ble_eq_true rfl
  have hRs : 0 ≤ R.slots := by rw [hRe]; exact Nat.le_of_ble_eq_true rfl
  have hD := mA_D hD0
  have hN := mt_N hta
  have t1 : m_th 6 (nI d) = true := th_t (by omega)
  have t2 : m_th 6 (nI d2) = true := th_t (by omega)
  refine lv_aload_n hx hb dM_roleBelow_0 rfl (lv_at hl 0 rfl) ?_
  refine lv_iload_n hx hb dM_roleBelow_1 rfl (lv_at hl 1 rfl) ?_
  refine ks_s ⟨hx, hb, hml, hown, hA⟩ (m_isRole l (nI d)) (kw_M_74 hA rfl rfl ⟨Nat.le_trans (Nat.le_of_ble_eq_true rfl) hRf, Nat.le_trans (Nat.le_of_ble_eq_true rfl) hRl⟩) hP hS rfl hl.1 (Nat.le_of_ble_eq_true rfl) ⟨by omega, by omega⟩ dM_roleBelow_2 rfl (fun H locs hP hS => ?_)
  refine tq_bf hx hb dM_roleBelow_5 (tgt := 15) (by decide) (fun h5 => ?_) (fun h5 => ?_)
  · exact absurd h5 (by rw [t1]; decide)
  · refine lv_iload_n hx hb dM_roleBelow_8 rfl (lv_at hl 2 rfl) ?_
    refine ks_s ⟨hx, hb, hml, hown, hA⟩ (m_isRole l (nI d2)) (kw_M_74 hA rfl rfl ⟨Nat.le_trans (Nat.le_of_ble_eq_true rfl) hRf, Nat.le_trans (Nat.le_of_ble_eq_true rfl) hRl⟩) hP hS rfl hl.1 (Nat.le_of_ble_eq_true rfl) ⟨by omega, by omega⟩ dM_roleBelow_9 rfl (fun H locs hP hS => ?_)
    refine tq_bt hx hb dM_roleBelow_12 (tgt := 19) (by decide) (fun h12 => ?_) (fun h12 => ?_)
    · refine lv_iconst (v := nI 0) hx hb dM_roleBelow_19 (by decide +kernel) ?_
      refine ks_i (wf := mW a kI kL kZ) (u := u) ⟨hx, hb, hml, hown, hA⟩ (m_fails0 l D a kI kL kZ u ) (kw_M_70 hA rfl rfl ⟨Nat.le_trans (Nat.le_of_ble_eq_true rfl) hRf, Nat.le_trans (Nat.le_of_ble_eq_true rfl) hRl⟩) hK hP hD hS (fun _ h => h) (fun u' => mW_adr u') 0 5 rfl rfl rfl hl.1 (Nat.le_of_ble_eq_true rfl) ⟨by omega, by omega⟩ dM_roleBelow_20 rfl (fun r1 u1 H locs hu1 hP hD hS => ?_)
      refine tq_i hu1.1 ?_
      have htau1 : m_tab u1 N kd fa fb T so xa xb xc := by rw [hu1.2]; exact hta
      have hNu1 := mt_N htau1
      refine tq_zeq hx hb dM_roleBelow_23 (tgt := 30) (by decide) (by omega) (fun h23 => ?_) (fun h23 => ?_)
      · refine lv_aload_n hx hb dM_roleBelow_30 rfl (lv_at hl 0 rfl) ?_
        refine lv_iconst (v := nI 2) hx hb dM_roleBelow_31 (by decide +kernel) ?_
        refine lv_iload_n hx hb dM_roleBelow_32 rfl (lv_at hl 1 rfl) ?_
        refine lv_iload_n hx hb dM_roleBelow_33 rfl (lv_at hl 2 rfl) ?_
        refine lv_iconst (v := nI 0) hx hb dM_roleBelow_34 (by decide +kernel) ?_
        refine ks_i (wf := mW a kI kL kZ) (u := u1) ⟨hx, hb, hml, hown, hA⟩ (m_axiom l D a kI kL kZ u1 (nI 2) (nI d) (nI d2) (nI 0) (by omega)) (kw_M_80 hA rfl rfl ⟨Nat.le_trans (Nat.le_of_ble_eq_true rfl) hRf, Nat.le_trans (Nat.le_of_ble_eq_true rfl) hRl⟩) hK hP hD hS (fun _ h => h) (fun u' => mW_adr u') 0 5 rfl rfl rfl hl.1 (Nat.le_of_ble_eq_true rfl) ⟨by omega, by omega⟩ dM_roleBelow_35 rfl (fun r2 u2 H locs hu2 hP hD hS => ?_)
        subst hQe
        exact W.iret (v := r2) hx hb hr (fun t ht hW => ⟨⟨_, u2, rfl, by rw [hNu1.2.2.2.1, hu1.2] at hu2; exact hu2, tq_hp ht hP⟩, hS.F ht⟩) hS.2.2 dM_roleBelow_38
      · omega
    · exact absurd h12 (by rw [t2]; decide)
set_option maxHeartbeats 4000000 in
set_option maxRecDepth 100000 in
/-- m_chain -/
theorem m_chain (l : Launch) (D : va_G) (a : Nat → Nat) (kI kL kZ : ClassId) (u : sU) (N : Nat) (kd fa fb : Nat → Nat) (T : Nat) (so xa xb xc : Nat → Nat) (hta : m_tab u N kd fa fb T so xa xb xc) (d d2 d3 : Nat) (hd : d < 6) (hd2 : d2 < 6) (hd3 : d3 < 6) : Met l yM_chain (wM_chain :: wA) ({ frames := 1, cells := 0, slots := 0, locals := 24 }) (va_Pc [.ref (a 0), .int (nI d), .int (nI d2), .int (nI d3)] (tq_wB D vwA (mW a kI kL kZ u) (sT kI kL kZ))) (va_Qi (fun r (u' : sU) => (T < 100 ∧ r = nI (T + 1) ∧ u' = m_tell (m_thr u 0) (nI 3) (nI d) (nI d2) (nI d3)) ∨ (¬ T < 100 ∧ r = -1 ∧ u' = m_thr u 0)) (fun u' t => va_P D vwA (mW a kI kL kZ u') t.heap) (mA a)) 0 0 (mA a) := by
  refine Met.ofW (cc := bM_chain) (maxL := 4) (ret := (some .int)) (by decide +kernel) rfl ?_
  intro p e s m args below meth c s₁ B1 hml hv
  obtain ⟨rfl, hP, hK, hD0⟩ := hv
  have hx := B1.exec
  have hb := B1.bytes
  have hr := B1.returns
  have hA : ∀ w ∈ wA, w.before ([.ref (a 0), .int (nI d), .int (nI d2), .int (nI d3)] : List Value).toArray s = true := fun w h => atoms_spec (ws := wM_chain :: wA) B1.pre w (List.mem_cons_of_mem _ h)
  have hown : s.vm.findClass RcM = some m.cls := findClass_of_methodNamed B1.named
  have hlocks := B1.notSynchronized
  have hS : va_S (mA a) s.heap s.heap [] := va_S.rf
  have hl := lv_entry ([.ref (a 0), .int (nI d), .int (nI d2), .int (nI d3)]) (n := 4) (Nat.le_of_ble_eq_true rfl)
  rw [lg_entry_eq]
  generalize (lg_sl ([.ref (a 0), .int (nI d), .int (nI d2), .int (nI d3)]) ++ List.replicate (4 - (lg_sl ([.ref (a 0), .int (nI d), .int (nI d2), .int (nI d3)])).length) Slot.unset).toArray = ls at hl ⊢
  have hl : lv_has ls 4 [(0, .ref (a 0)), (1, .int (nI d)), (2, .int (nI d2)), (3, .int (nI d3))] := hl
  refine tq_gen (fun R Q hRe hQe => ?_)
  have hRf : 1 ≤ R.frames := by rw [hRe]; exact Nat.le_of_ble_eq_true rfl
  have hRl : 24 ≤ R.locals := by rw [hRe]; exact Nat.le_of_ble_eq_true rfl
  have hRc : 0 ≤ R.cells := by rw [hRe]; exact Nat.le_of_ble_eq_true rfl
  have hRs : 0 ≤ R.slots := by rw [hRe]; exact Nat.le_of_ble_eq_true rfl
  have hD := mA_D hD0
  have hN := mt_N hta
  have t1 : m_th 6 (nI d) = true := th_t (by omega)
  have t2 : m_th 6 (nI d2) = true := th_t (by omega)
  have t3 : m_th 6 (nI d3) = true := th_t (by omega)
  refine lv_aload_n hx hb dM_chain_0 rfl (lv_at hl 0 rfl) ?_
  refine lv_iload_n hx hb dM_chain_1 rfl (lv_at hl 1 rfl) ?_
  refine ks_s ⟨hx, hb, hml, hown, hA⟩ (m_isRole l (nI d)) (kw_M_74 hA rfl rfl ⟨Nat.le_trans (Nat.le_of_ble_eq_true rfl) hRf, Nat.le_trans (Nat.le_of_ble_eq_true rfl) hRl⟩) hP hS rfl hl.1 (Nat.le_of_ble_eq_true rfl) ⟨by omega, by omega⟩ dM_chain_2 rfl (fun H locs hP hS => ?_)
  refine tq_bf hx hb dM_chain_5 (tgt := 22) (by decide) (fun h5 => ?_) (fun h5 => ?_)
  · exact absurd h5 (by rw [t1]; decide)
  · refine lv_iload_n hx hb dM_chain_8 rfl (lv_at hl 2 rfl) ?_
    refine ks_s ⟨hx, hb, hml, hown, hA⟩ (m_isRole l (nI d2)) (kw_M_74 hA rfl rfl ⟨Nat.le_trans (Nat.le_of_ble_eq_true rfl) hRf, Nat.le_trans (Nat.le_of_ble_eq_true rfl) hRl⟩) hP hS rfl hl.1 (Nat.le_of_ble_eq_true rfl) ⟨by omega, by omega⟩ dM_chain_9 rfl (fun H locs hP hS => ?_)
    refine tq_bf hx hb dM_chain_12 (tgt := 22) (by decide) (fun h12 => ?_) (fun h12 => ?_)
    · exact absurd h12 (by rw [t2]; decide)
    · refine lv_iload_n hx hb dM_chain_15 rfl (lv_at hl 3 rfl) ?_
      refine ks_s ⟨hx, hb, hml, hown, hA⟩ (m_isRole l (nI d3)) (kw_M_74 hA rfl rfl ⟨Nat.le_trans (Nat.le_of_ble_eq_true rfl) hRf, Nat.le_trans (Nat.le_of_ble_eq_true rfl) hRl⟩) hP hS rfl hl.1 (Nat.le_of_ble_eq_true rfl) ⟨by omega, by omega⟩ dM_chain_16 rfl (fun H locs hP hS => ?_)
      refine tq_bt hx hb dM_chain_19 (tgt := 26) (by decide) (fun h19 => ?_) (fun h19 => ?_)
      · refine lv_iconst (v := nI 0) hx hb dM_chain_26 (by decide +kernel) ?_
        refine ks_i (wf := mW a kI kL kZ) (u := u) ⟨hx, hb, hml, hown, hA⟩ (m_fails0 l D a kI kL kZ u ) (kw_M_70 hA rfl rfl ⟨Nat.le_trans (Nat.le_of_ble_eq_true rfl) hRf, Nat.le_trans (Nat.le_of_ble_eq_true rfl) hRl⟩) hK hP hD hS (fun _ h => h) (fun u' => mW_adr u') 0 5 rfl rfl rfl hl.1 (Nat.le_of_ble_eq_true rfl) ⟨by omega, by omega⟩ dM_chain_27 rfl (fun r1 u1 H locs hu1 hP hD hS => ?_)
        refine tq_i hu1.1 ?_
        have htau1 : m_tab u1 N kd fa fb T so xa xb xc := by rw [hu1.2]; exact hta
        have hNu1 := mt_N htau1
        refine tq_zeq hx hb dM_chain_30 (tgt := 37) (by decide) (by omega) (fun h30 => ?_) (fun h30 => ?_)
        · refine lv_aload_n hx hb dM_chain_37 rfl (lv_at hl 0 rfl) ?_
          refine lv_iconst (v := nI 3) hx hb dM_chain_38 (by decide +kernel) ?_
          refine lv_iload_n hx hb dM_chain_39 rfl (lv_at hl 1 rfl) ?_
          refine lv_iload_n hx hb dM_chain_40 rfl (lv_at hl 2 rfl) ?_
          refine lv_iload_n hx hb dM_chain_41 rfl (lv_at hl 3 rfl) ?_
          refine ks_i (wf := mW a kI kL kZ) (u := u1) ⟨hx, hb, hml, hown, hA⟩ (m_axiom l D a kI kL kZ u1 (nI 3) (nI d) (nI d2) (nI d3) (by omega)) (kw_M_80 hA rfl rfl ⟨Nat.le_trans (Nat.le_of_ble_eq_true rfl) hRf, Nat.le_trans (Nat.le_of_ble_eq_true rfl) hRl⟩) hK hP hD hS (fun _ h => h) (fun u' => mW_adr u') 0 5 rfl rfl rfl hl.1 (Nat.le_of_ble_eq_true rfl) ⟨by omega, by omega⟩ dM_chain_42 rfl (fun r2 u2 H locs hu2 hP hD hS => ?_)
          subst hQe
          exact W.iret (v := r2) hx hb hr (fun t ht hW => ⟨⟨_, u2, rfl, by rw [hNu1.2.2.2.1, hu1.2] at hu2; exact hu2, tq_hp ht hP⟩, hS.F ht⟩) hS.2.2 dM_chain_45
        · omega
      · exact absurd h19 (by rw [t3]; decide)
set_option maxHeartbeats 4000000 in
set_option maxRecDepth 100000 in
/-- n_both -/
theorem n_both (l : Launch) (D : va_G) (a : Nat → Nat) (kI kL kZ : ClassId) (u : sU) (N : Nat) (kd fa fb : Nat → Nat) (T : Nat) (so xa xb xc : Nat → Nat) (hta : m_tab u N kd fa fb T so xa xb xc) (x : Int32) (y : Int32) (hbad : (∀ k, k < N → ¬ x = nI k) ∨ (∀ k, k < N → ¬ y = nI k)) : Met l yM_both (wM_both :: wA) ({ frames := 1, cells := 0, slots := 0, locals := 24 }) (va_Pc [.ref (a 0), .int x, .int y] (tq_wB D vwA (mW a kI kL kZ u) (sT kI kL kZ))) (va_Qi (fun r (u' : sU) => u' = m_thr u 1) (fun u' t => va_P D vwA (mW a kI kL kZ u') t.heap) (mA a)) 0 0 (mA a) := by
  refine Met.ofW (cc := bM_both) (maxL := 3) (ret := (some .int)) (by decide +kernel) rfl ?_
  intro p e s m args below meth c s₁ B1 hml hv
  obtain ⟨rfl, hP, hK, hD0⟩ := hv
  have hx := B1.exec
  have hb := B1.bytes
  have hr := B1.returns
  have hA : ∀ w ∈ wA, w.before ([.ref (a 0), .int x, .int y] : List Value).toArray s = true := fun w h => atoms_spec (ws := wM_both :: wA) B1.pre w (List.mem_cons_of_mem _ h)
  have hown : s.vm.findClass RcM = some m.cls := findClass_of_methodNamed B1.named
  have hlocks := B1.notSynchronized
  have hS : va_S (mA a) s.heap s.heap [] := va_S.rf
  have hl := lv_entry ([.ref (a 0), .int x, .int y]) (n := 3) (Nat.le_of_ble_eq_true rfl)
  rw [lg_entry_eq]
  generalize (lg_sl ([.ref (a 0), .int x, .int y]) ++ List.replicate (3 - (lg_sl ([.ref (a 0), .int x, .int y])).length) Slot.unset).toArray = ls at hl ⊢
  have hl : lv_has ls 3 [(0, .ref (a 0)), (1, .int x), (2, .int y)] := hl
  refine tq_gen (fun R Q hRe hQe => ?_)
  have hRf : 1 ≤ R.frames := by rw [hRe]; exact Nat.le_of_ble_eq_true rfl
  have hRl : 24 ≤ R.locals := by rw [hRe]; exact Nat.le_of_ble_eq_true rfl
  have hRc : 0 ≤ R.cells := by rw [hRe]; exact Nat.le_of_ble_eq_true rfl
  have hRs : 0 ≤ R.slots := by rw [hRe]; exact Nat.le_of_ble_eq_true rfl
  have hD := mA_D hD0
  have hN := mt_N hta
  have hz : m_th (u.2.2 1) x = false ∨ m_th (u.2.2 1) y = false := by
    rw [hN.1]
    exact hbad.imp th_f th_f
  refine lv_aload_n hx hb dM_both_0 rfl (lv_at hl 0 rfl) ?_
  refine lv_aload_n hx hb dM_both_1 rfl (lv_at hl 0 rfl) ?_
  refine lv_iload_n hx hb dM_both_2 rfl (lv_at hl 1 rfl) ?_
  refine ks_rv ⟨hx, hb, hml, hown, hA⟩ (m_isThere l D a kI kL kZ u x (by omega)) (kw_M_66 hA rfl rfl ⟨Nat.le_trans (Nat.le_of_ble_eq_true rfl) hRf, Nat.le_trans (Nat.le_of_ble_eq_true rfl) hRl⟩) hK hP hS 0 5 rfl rfl rfl hl.1 (Nat.le_of_ble_eq_true rfl) ⟨by omega, by omega⟩ dM_both_3 rfl (fun H locs hP hS => ?_)
  refine tq_i (y := bI (m_th (u.2.2 1) x)) rfl ?_
  refine tq_bf hx hb dM_both_6 (tgt := 17) (by decide) (fun h6 => ?_) (fun h6 => ?_)
  · refine lv_iconst (v := nI 1) hx hb dM_both_17 (by decide +kernel) ?_
    refine lv_goto hx hb dM_both_18 (tgt := 22) (by decide) ?_
    refine ks_i (wf := mW a kI kL kZ) (u := u) ⟨hx, hb, hml, hown, hA⟩ (m_fails1 l D a kI kL kZ u ) (kw_M_70 hA rfl rfl ⟨Nat.le_trans (Nat.le_of_ble_eq_true rfl) hRf, Nat.le_trans (Nat.le_of_ble_eq_true rfl) hRl⟩) hK hP hD hS (fun _ h => h) (fun u' => mW_adr u') 0 5 rfl rfl rfl hl.1 (Nat.le_of_ble_eq_true rfl) ⟨by omega, by omega⟩ dM_both_22 rfl (fun r1 u1 H locs hu1 hP hD hS => ?_)
    refine tq_i hu1.1 ?_
    have htau1 : m_tab u1 N kd fa fb T so xa xb xc := by rw [hu1.2]; exact hta
    have hNu1 := mt_N htau1
    refine tq_zeq hx hb dM_both_25 (tgt := 32) (by decide) (by omega) (fun h25 => ?_) (fun h25 => ?_)
    · omega
    · refine lv_iconst (v := nI 0) hx hb dM_both_28 (by decide +kernel) ?_
      refine lv_goto hx hb dM_both_29 (tgt := 39) (by decide) ?_
      subst hQe
      exact W.iret (v := nI 0) hx hb hr (fun t ht hW => ⟨⟨_, u1, rfl, hu1.2, tq_hp ht hP⟩, hS.F ht⟩) hS.2.2 dM_both_39
  · refine lv_aload_n hx hb dM_both_9 rfl (lv_at hl 0 rfl) ?_
    refine lv_iload_n hx hb dM_both_10 rfl (lv_at hl 2 rfl) ?_
    refine ks_rv ⟨hx, hb, hml, hown, hA⟩ (m_isThere l D a kI kL kZ u y (by omega)) (kw_M_66 hA rfl rfl ⟨Nat.le_trans (Nat.le_of_ble_eq_true rfl) hRf, Nat.le_trans (Nat.le_of_ble_eq_true rfl) hRl⟩) hK hP hS 0 5 rfl rfl rfl hl.1 (Nat.le_of_ble_eq_true rfl) ⟨by omega, by omega⟩ dM_both_11 rfl (fun H locs hP hS => ?_)
    refine tq_i (y := bI (m_th (u.2.2 1) y)) rfl ?_
    refine tq_bt hx hb dM_both_14 (tgt := 21) (by decide) (fun h14 => ?_) (fun h14 => ?_)
    · rw [h6, h14] at hz
      exact absurd hz (by decide)
    · refine lv_iconst (v := nI 1) hx hb dM_both_17 (by decide +kernel) ?_
      refine lv_goto hx hb dM_both_18 (tgt := 22) (by decide) ?_
      refine ks_i (wf := mW a kI kL kZ) (u := u) ⟨hx, hb, hml, hown, hA⟩ (m_fails1 l D a kI kL kZ u ) (kw_M_70 hA rfl rfl ⟨Nat.le_trans (Nat.le_of_ble_eq_true rfl) hRf, Nat.le_trans (Nat.le_of_ble_eq_true rfl) hRl⟩) hK hP hD hS (fun _ h => h) (fun u' => mW_adr u') 0 5 rfl rfl rfl hl.1 (Nat.le_of_ble_eq_true rfl) ⟨by omega, by omega⟩ dM_both_22 rfl (fun r2 u2 H locs hu2 hP hD hS => ?_)
      refine tq_i hu2.1 ?_
      have htau2 : m_tab u2 N kd fa fb T so xa xb xc := by rw [hu2.2]; exact hta
      have hNu2 := mt_N htau2
      refine tq_zeq hx hb dM_both_25 (tgt := 32) (by decide) (by omega) (fun h25 => ?_) (fun h25 => ?_)
      · omega
      · refine lv_iconst (v := nI 0) hx hb dM_both_28 (by decide +kernel) ?_
        refine lv_goto hx hb dM_both_29 (tgt := 39) (by decide) ?_
        subst hQe
        exact W.iret (v := nI 0) hx hb hr (fun t ht hW => ⟨⟨_, u2, rfl, hu2.2, tq_hp ht hP⟩, hS.F ht⟩) hS.2.2 dM_both_39
set_option maxHeartbeats 4000000 in
set_option maxRecDepth 100000 in
/-- n_some -/
theorem n_some (l : Launch) (D : va_G) (a : Nat → Nat) (kI kL kZ : ClassId) (u : sU) (N : Nat) (kd fa fb : Nat → Nat) (T : Nat) (so xa xb xc : Nat → Nat) (hta : m_tab u N kd fa fb T so xa xb xc) (x : Int32) (y : Int32) (hbad : (∀ k, k < 6 → ¬ x = nI k) ∨ (∀ k, k < N → ¬ y = nI k)) : Met l yM_some (wM_some :: wA) ({ frames := 1, cells := 0, slots := 0, locals := 24 }) (va_Pc [.ref (a 0), .int x, .int y] (tq_wB D vwA (mW a kI kL kZ u) (sT kI kL kZ))) (va_Qi (fun r (u' : sU) => u' = m_thr u 1) (fun u' t => va_P D vwA (mW a kI kL kZ u') t.heap) (mA a)) 0 0 (mA a) := by
  refine Met.ofW (cc := bM_some) (maxL := 3) (ret := (some .int)) (by decide +kernel) rfl ?_
  intro p e s m args below meth c s₁ B1 hml hv
  obtain ⟨rfl, hP, hK, hD0⟩ := hv
  have hx := B1.exec
  have hb := B1.bytes
  have hr := B1.returns
  have hA : ∀ w ∈ wA, w.before ([.ref (a 0), .int x, .int y] : List Value).toArray s = true := fun w h => atoms_spec (ws := wM_some :: wA) B1.pre w (List.mem_cons_of_mem _ h)
  have hown : s.vm.findClass RcM = some m.cls := findClass_of_methodNamed B1.named
  have hlocks := B1.notSynchronized
  have hS : va_S (mA a) s.heap s.heap [] := va_S.rf
  have hl := lv_entry ([.ref (a 0), .int x, .int y]) (n := 3) (Nat.le_of_ble_eq_true rfl)
  rw [lg_entry_eq]
  generalize (lg_sl ([.ref (a 0), .int x, .int y]) ++ List.replicate (3 - (lg_sl ([.ref (a 0), .int x, .int y])).length) Slot.unset).toArray = ls at hl ⊢
  have hl : lv_has ls 3 [(0, .ref (a 0)), (1, .int x), (2, .int y)] := hl
  refine tq_gen (fun R Q hRe hQe => ?_)
  have hRf : 1 ≤ R.frames := by rw [hRe]; exact Nat.le_of_ble_eq_true rfl
  have hRl : 24 ≤ R.locals := by rw [hRe]; exact Nat.le_of_ble_eq_true rfl
  have hRc : 0 ≤ R.cells := by rw [hRe]; exact Nat.le_of_ble_eq_true rfl
  have hRs : 0 ≤ R.slots := by rw [hRe]; exact Nat.le_of_ble_eq_true rfl
  have hD := mA_D hD0
  have hN := mt_N hta
  have hz : m_th 6 x = false ∨ m_th (u.2.2 1) y = false := by
    rw [hN.1]
    exact hbad.imp th_f th_f
  refine lv_aload_n hx hb dM_some_0 rfl (lv_at hl 0 rfl) ?_
  refine lv_iload_n hx hb dM_some_1 rfl (lv_at hl 1 rfl) ?_
  refine ks_s ⟨hx, hb, hml, hown, hA⟩ (m_isRole l x) (kw_M_74 hA rfl rfl ⟨Nat.le_trans (Nat.le_of_ble_eq_true rfl) hRf, Nat.le_trans (Nat.le_of_ble_eq_true rfl) hRl⟩) hP hS rfl hl.1 (Nat.le_of_ble_eq_true rfl) ⟨by omega, by omega⟩ dM_some_2 rfl (fun H locs hP hS => ?_)
  refine tq_bf hx hb dM_some_5 (tgt := 16) (by decide) (fun h5 => ?_) (fun h5 => ?_)
  · refine lv_iconst (v := nI 1) hx hb dM_some_16 (by decide +kernel) ?_
    refine lv_goto hx hb dM_some_17 (tgt := 21) (by decide) ?_
    refine ks_i (wf := mW a kI kL kZ) (u := u) ⟨hx, hb, hml, hown, hA⟩ (m_fails1 l D a kI kL kZ u ) (kw_M_70 hA rfl rfl ⟨Nat.le_trans (Nat.le_of_ble_eq_true rfl) hRf, Nat.le_trans (Nat.le_of_ble_eq_true rfl) hRl⟩) hK hP hD hS (fun _ h => h) (fun u' => mW_adr u') 0 5 rfl rfl rfl hl.1 (Nat.le_of_ble_eq_true rfl) ⟨by omega, by omega⟩ dM_some_21 rfl (fun r1 u1 H locs hu1 hP hD hS => ?_)
    refine tq_i hu1.1 ?_
    have htau1 : m_tab u1 N kd fa fb T so xa xb xc := by rw [hu1.2]; exact hta
    have hNu1 := mt_N htau1
    refine tq_zeq hx hb dM_some_24 (tgt := 31) (by decide) (by omega) (fun h24 => ?_) (fun h24 => ?_)
    · omega
    · refine lv_iconst (v := nI 0) hx hb dM_some_27 (by decide +kernel) ?_
      refine lv_goto hx hb dM_some_28 (tgt := 38) (by decide) ?_
      subst hQe
      exact W.iret (v := nI 0) hx hb hr (fun t ht hW => ⟨⟨_, u1, rfl, hu1.2, tq_hp ht hP⟩, hS.F ht⟩) hS.2.2 dM_some_38
  · refine lv_aload_n hx hb dM_some_8 rfl (lv_at hl 0 rfl) ?_
    refine lv_iload_n hx hb dM_some_9 rfl (lv_at hl 2 rfl) ?_
    refine ks_rv ⟨hx, hb, hml, hown, hA⟩ (m_isThere l D a kI kL kZ u y (by omega)) (kw_M_66 hA rfl rfl ⟨Nat.le_trans (Nat.le_of_ble_eq_true rfl) hRf, Nat.le_trans (Nat.le_of_ble_eq_true rfl) hRl⟩) hK hP hS 0 5 rfl rfl rfl hl.1 (Nat.le_of_ble_eq_true rfl) ⟨by omega, by omega⟩ dM_some_10 rfl (fun H locs hP hS => ?_)
    refine tq_i (y := bI (m_th (u.2.2 1) y)) rfl ?_
    refine tq_bt hx hb dM_some_13 (tgt := 20) (by decide) (fun h13 => ?_) (fun h13 => ?_)
    · rw [h5, h13] at hz
      exact absurd hz (by decide)
    · refine lv_iconst (v := nI 1) hx hb dM_some_16 (by decide +kernel) ?_
      refine lv_goto hx hb dM_some_17 (tgt := 21) (by decide) ?_
      refine ks_i (wf := mW a kI kL kZ) (u := u) ⟨hx, hb, hml, hown, hA⟩ (m_fails1 l D a kI kL kZ u ) (kw_M_70 hA rfl rfl ⟨Nat.le_trans (Nat.le_of_ble_eq_true rfl) hRf, Nat.le_trans (Nat.le_of_ble_eq_true rfl) hRl⟩) hK hP hD hS (fun _ h => h) (fun u' => mW_adr u') 0 5 rfl rfl rfl hl.1 (Nat.le_of_ble_eq_true rfl) ⟨by omega, by omega⟩ dM_some_21 rfl (fun r2 u2 H locs hu2 hP hD hS => ?_)
      refine tq_i hu2.1 ?_
      have htau2 : m_tab u2 N kd fa fb T so xa xb xc := by rw [hu2.2]; exact hta
      have hNu2 := mt_N htau2
      refine tq_zeq hx hb dM_some_24 (tgt := 31) (by decide) (by omega) (fun h24 => ?_) (fun h24 => ?_)
      · omega
      · refine lv_iconst (v := nI 0) hx hb dM_some_27 (by decide +kernel) ?_
        refine lv_goto hx hb dM_some_28 (tgt := 38) (by decide) ?_
        subst hQe
        exact W.iret (v := nI 0) hx hb hr (fun t ht hW => ⟨⟨_, u2, rfl, hu2.2, tq_hp ht hP⟩, hS.F ht⟩) hS.2.2 dM_some_38
set_option maxHeartbeats 4000000 in
set_option maxRecDepth 100000 in
/-- n_below -/
theorem n_below (l : Launch) (D : va_G) (a : Nat → Nat) (kI kL kZ : ClassId) (u : sU) (N : Nat) (kd fa fb : Nat → Nat) (T : Nat) (so xa xb xc : Nat → Nat) (hta : m_tab u N kd fa fb T so xa xb xc) (x : Int32) (y : Int32) (hbad : (∀ k, k < N → ¬ x = nI k) ∨ (∀ k, k < N → ¬ y = nI k)) : Met l yM_below (wM_below :: wA) ({ frames := 1, cells := 0, slots := 0, locals := 24 }) (va_Pc [.ref (a 0), .int x, .int y] (tq_wB D vwA (mW a kI kL kZ u) (sT kI kL kZ))) (va_Qi (fun r (u' : sU) => u' = m_thr u 1) (fun u' t => va_P D vwA (mW a kI kL kZ u') t.heap) (mA a)) 0 0 (mA a) := by
  refine Met.ofW (cc := bM_below) (maxL := 3) (ret := (some .int)) (by decide +kernel) rfl ?_
  intro p e s m args below meth c s₁ B1 hml hv
  obtain ⟨rfl, hP, hK, hD0⟩ := hv
  have hx := B1.exec
  have hb := B1.bytes
  have hr := B1.returns
  have hA : ∀ w ∈ wA, w.before ([.ref (a 0), .int x, .int y] : List Value).toArray s = true := fun w h => atoms_spec (ws := wM_below :: wA) B1.pre w (List.mem_cons_of_mem _ h)
  have hown : s.vm.findClass RcM = some m.cls := findClass_of_methodNamed B1.named
  have hlocks := B1.notSynchronized
  have hS : va_S (mA a) s.heap s.heap [] := va_S.rf
  have hl := lv_entry ([.ref (a 0), .int x, .int y]) (n := 3) (Nat.le_of_ble_eq_true rfl)
  rw [lg_entry_eq]
  generalize (lg_sl ([.ref (a 0), .int x, .int y]) ++ List.replicate (3 - (lg_sl ([.ref (a 0), .int x, .int y])).length) Slot.unset).toArray = ls at hl ⊢
  have hl : lv_has ls 3 [(0, .ref (a 0)), (1, .int x), (2, .int y)] := hl
  refine tq_gen (fun R Q hRe hQe => ?_)
  have hRf : 1 ≤ R.frames := by rw [hRe]; exact Nat.le_of_ble_eq_true rfl
  have hRl : 24 ≤ R.locals := by rw [hRe]; exact Nat.le_of_ble_eq_true rfl
  have hRc : 0 ≤ R.cells := by rw [hRe]; exact Nat.le_of_ble_eq_true rfl
  have hRs : 0 ≤ R.slots := by rw [hRe]; exact Nat.le_of_ble_eq_true rfl
  have hD := mA_D hD0
  have hN := mt_N hta
  have hz : m_th (u.2.2 1) x = false ∨ m_th (u.2.2 1) y = false := by
    rw [hN.1]
    exact hbad.imp th_f th_f
  refine lv_aload_n hx hb dM_below_0 rfl (lv_at hl 0 rfl) ?_
  refine lv_aload_n hx hb dM_below_1 rfl (lv_at hl 0 rfl) ?_
  refine lv_iload_n hx hb dM_below_2 rfl (lv_at hl 1 rfl) ?_
  refine ks_rv ⟨hx, hb, hml, hown, hA⟩ (m_isThere l D a kI kL kZ u x (by omega)) (kw_M_66 hA rfl rfl ⟨Nat.le_trans (Nat.le_of_ble_eq_true rfl) hRf, Nat.le_trans (Nat.le_of_ble_eq_true rfl) hRl⟩) hK hP hS 0 5 rfl rfl rfl hl.1 (Nat.le_of_ble_eq_true rfl) ⟨by omega, by omega⟩ dM_below_3 rfl (fun H locs hP hS => ?_)
  refine tq_i (y := bI (m_th (u.2.2 1) x)) rfl ?_
  refine tq_bf hx hb dM_below_6 (tgt := 17) (by decide) (fun h6 => ?_) (fun h6 => ?_)
  · refine lv_iconst (v := nI 1) hx hb dM_below_17 (by decide +kernel) ?_
    refine lv_goto hx hb dM_below_18 (tgt := 22) (by decide) ?_
    refine ks_i (wf := mW a kI kL kZ) (u := u) ⟨hx, hb, hml, hown, hA⟩ (m_fails1 l D a kI kL kZ u ) (kw_M_70 hA rfl rfl ⟨Nat.le_trans (Nat.le_of_ble_eq_true rfl) hRf, Nat.le_trans (Nat.le_of_ble_eq_true rfl) hRl⟩) hK hP hD hS (fun _ h => h) (fun u' => mW_adr u') 0 5 rfl rfl rfl hl.1 (Nat.le_of_ble_eq_true rfl) ⟨by omega, by omega⟩ dM_below_22 rfl (fun r1 u1 H locs hu1 hP hD hS => ?_)
    refine tq_i hu1.1 ?_
    have htau1 : m_tab u1 N kd fa fb T so xa xb xc := by rw [hu1.2]; exact hta
    have hNu1 := mt_N htau1
    refine tq_zeq hx hb dM_below_25 (tgt := 32) (by decide) (by omega) (fun h25 => ?_) (fun h25 => ?_)
    · omega
    · refine lv_iconst (v := nI 0) hx hb dM_below_28 (by decide +kernel) ?_
      refine lv_goto hx hb dM_below_29 (tgt := 40) (by decide) ?_
      subst hQe
      exact W.iret (v := nI 0) hx hb hr (fun t ht hW => ⟨⟨_, u1, rfl, hu1.2, tq_hp ht hP⟩, hS.F ht⟩) hS.2.2 dM_below_40
  · refine lv_aload_n hx hb dM_below_9 rfl (lv_at hl 0 rfl) ?_
    refine lv_iload_n hx hb dM_below_10 rfl (lv_at hl 2 rfl) ?_
    refine ks_rv ⟨hx, hb, hml, hown, hA⟩ (m_isThere l D a kI kL kZ u y (by omega)) (kw_M_66 hA rfl rfl ⟨Nat.le_trans (Nat.le_of_ble_eq_true rfl) hRf, Nat.le_trans (Nat.le_of_ble_eq_true rfl) hRl⟩) hK hP hS 0 5 rfl rfl rfl hl.1 (Nat.le_of_ble_eq_true rfl) ⟨by omega, by omega⟩ dM_below_11 rfl (fun H locs hP hS => ?_)
    refine tq_i (y := bI (m_th (u.2.2 1) y)) rfl ?_
    refine tq_bt hx hb dM_below_14 (tgt := 21) (by decide) (fun h14 => ?_) (fun h14 => ?_)
    · rw [h6, h14] at hz
      exact absurd hz (by decide)
    · refine lv_iconst (v := nI 1) hx hb dM_below_17 (by decide +kernel) ?_
      refine lv_goto hx hb dM_below_18 (tgt := 22) (by decide) ?_
      refine ks_i (wf := mW a kI kL kZ) (u := u) ⟨hx, hb, hml, hown, hA⟩ (m_fails1 l D a kI kL kZ u ) (kw_M_70 hA rfl rfl ⟨Nat.le_trans (Nat.le_of_ble_eq_true rfl) hRf, Nat.le_trans (Nat.le_of_ble_eq_true rfl) hRl⟩) hK hP hD hS (fun _ h => h) (fun u' => mW_adr u') 0 5 rfl rfl rfl hl.1 (Nat.le_of_ble_eq_true rfl) ⟨by omega, by omega⟩ dM_below_22 rfl (fun r2 u2 H locs hu2 hP hD hS => ?_)
      refine tq_i hu2.1 ?_
      have htau2 : m_tab u2 N kd fa fb T so xa xb xc := by rw [hu2.2]; exact hta
      have hNu2 := mt_N htau2
      refine tq_zeq hx hb dM_below_25 (tgt := 32) (by decide) (by omega) (fun h25 => ?_) (fun h25 => ?_)
      · omega
      · refine lv_iconst (v := nI 0) hx hb dM_below_28 (by decide +kernel) ?_
        refine lv_goto hx hb dM_below_29 (tgt := 40) (by decide) ?_
        subst hQe
        exact W.iret (v := nI 0) hx hb hr (fun t ht hW => ⟨⟨_, u2, rfl, hu2.2, tq_hp ht hP⟩, hS.F ht⟩) hS.2.2 dM_below_40
set_option maxHeartbeats 4000000 in
set_option maxRecDepth 100000 in
/-- n_equal -/
theorem n_equal (l : Launch) (D : va_G) (a : Nat → Nat) (kI kL kZ : ClassId) (u : sU) (N : Nat) (kd fa fb : Nat → Nat) (T : Nat) (so xa xb xc : Nat → Nat) (hta : m_tab u N kd fa fb T so xa xb xc) (x : Int32) (y : Int32) (hbad : (∀ k, k < N → ¬ x = nI k) ∨ (∀ k, k < N → ¬ y = nI k)) : Met l yM_equal (wM_equal :: wA) ({ frames := 1, cells := 0, slots := 0, locals := 24 }) (va_Pc [.ref (a 0), .int x, .int y] (tq_wB D vwA (mW a kI kL kZ u) (sT kI kL kZ))) (va_Qi (fun r (u' : sU) => u' = m_thr u 1) (fun u' t => va_P D vwA (mW a kI kL kZ u') t.heap) (mA a)) 0 0 (mA a) := by
  refine Met.ofW (cc := bM_equal) (maxL := 3) (ret := (some .int)) (by decide +kernel) rfl ?_
  intro p e s m args below meth c s₁ B1 hml hv
  obtain ⟨rfl, hP, hK, hD0⟩ := hv
  have hx := B1.exec
  have hb := B1.bytes
  have hr := B1.returns
  have hA : ∀ w ∈ wA, w.before ([.ref (a 0), .int x, .int y] : List Value).toArray s = true := fun w h => atoms_spec (ws := wM_equal :: wA) B1.pre w (List.mem_cons_of_mem _ h)
  have hown : s.vm.findClass RcM = some m.cls := findClass_of_methodNamed B1.named
  have hlocks := B1.notSynchronized
  have hS : va_S (mA a) s.heap s.heap [] := va_S.rf
  have hl := lv_entry ([.ref (a 0), .int x, .int y]) (n := 3) (Nat.le_of_ble_eq_true rfl)
  rw [lg_entry_eq]
  generalize (lg_sl ([.ref (a 0), .int x, .int y]) ++ List.replicate (3 - (lg_sl ([.ref (a 0), .int x, .int y])).length) Slot.unset).toArray = ls at hl ⊢
  have hl : lv_has ls 3 [(0, .ref (a 0)), (1, .int x), (2, .int y)] := hl
  refine tq_gen (fun R Q hRe hQe => ?_)
  have hRf : 1 ≤ R.frames := by rw [hRe]; exact Nat.le_of_ble_eq_true rfl
  have hRl : 24 ≤ R.locals := by rw [hRe]; exact Nat.le_of_ble_eq_true rfl
  have hRc : 0 ≤ R.cells := by rw [hRe]; exact Nat.le_of_ble_eq_true rfl
  have hRs : 0 ≤ R.slots := by rw [hRe]; exact Nat.le_of_ble_eq_true rfl
  have hD := mA_D hD0
  have hN := mt_N hta
  have hz : m_th (u.2.2 1) x = false ∨ m_th (u.2.2 1) y = false := by
    rw [hN.1]
    exact hbad.imp th_f th_f
  refine lv_aload_n hx hb dM_equal_0 rfl (lv_at hl 0 rfl) ?_
  refine lv_aload_n hx hb dM_equal_1 rfl (lv_at hl 0 rfl) ?_
  refine lv_iload_n hx hb dM_equal_2 rfl (lv_at hl 1 rfl) ?_
  refine ks_rv ⟨hx, hb, hml, hown, hA⟩ (m_isThere l D a kI kL kZ u x (by omega)) (kw_M_66 hA rfl rfl ⟨Nat.le_trans (Nat.le_of_ble_eq_true rfl) hRf, Nat.le_trans (Nat.le_of_ble_eq_true rfl) hRl⟩) hK hP hS 0 5 rfl rfl rfl hl.1 (Nat.le_of_ble_eq_true rfl) ⟨by omega, by omega⟩ dM_equal_3 rfl (fun H locs hP hS => ?_)
  refine tq_i (y := bI (m_th (u.2.2 1) x)) rfl ?_
  refine tq_bf hx hb dM_equal_6 (tgt := 17) (by decide) (fun h6 => ?_) (fun h6 => ?_)
  · refine lv_iconst (v := nI 1) hx hb dM_equal_17 (by decide +kernel) ?_
    refine lv_goto hx hb dM_equal_18 (tgt := 22) (by decide) ?_
    refine ks_i (wf := mW a kI kL kZ) (u := u) ⟨hx, hb, hml, hown, hA⟩ (m_fails1 l D a kI kL kZ u ) (kw_M_70 hA rfl rfl ⟨Nat.le_trans (Nat.le_of_ble_eq_true rfl) hRf, Nat.le_trans (Nat.le_of_ble_eq_true rfl) hRl⟩) hK hP hD hS (fun _ h => h) (fun u' => mW_adr u') 0 5 rfl rfl rfl hl.1 (Nat.le_of_ble_eq_true rfl) ⟨by omega, by omega⟩ dM_equal_22 rfl (fun r1 u1 H locs hu1 hP hD hS => ?_)
    refine tq_i hu1.1 ?_
    have htau1 : m_tab u1 N kd fa fb T so xa xb xc := by rw [hu1.2]; exact hta
    have hNu1 := mt_N htau1
    refine tq_zeq hx hb dM_equal_25 (tgt := 32) (by decide) (by omega) (fun h25 => ?_) (fun h25 => ?_)
    · omega
    · refine lv_iconst (v := nI 0) hx hb dM_equal_28 (by decide +kernel) ?_
      refine lv_goto hx hb dM_equal_29 (tgt := 40) (by decide) ?_
      subst hQe
      exact W.iret (v := nI 0) hx hb hr (fun t ht hW => ⟨⟨_, u1, rfl, hu1.2, tq_hp ht hP⟩, hS.F ht⟩) hS.2.2 dM_equal_40
  · refine lv_aload_n hx hb dM_equal_9 rfl (lv_at hl 0 rfl) ?_
    refine lv_iload_n hx hb dM_equal_10 rfl (lv_at hl 2 rfl) ?_
    refine ks_rv ⟨hx, hb, hml, hown, hA⟩ (m_isThere l D a kI kL kZ u y (by omega)) (kw_M_66 hA rfl rfl ⟨Nat.le_trans (Nat.le_of_ble_eq_true rfl) hRf, Nat.le_trans (Nat.le_of_ble_eq_true rfl) hRl⟩) hK hP hS 0 5 rfl rfl rfl hl.1 (Nat.le_of_ble_eq_true rfl) ⟨by omega, by omega⟩ dM_equal_11 rfl (fun H locs hP hS => ?_)
    refine tq_i (y := bI (m_th (u.2.2 1) y)) rfl ?_
    refine tq_bt hx hb dM_equal_14 (tgt := 21) (by decide) (fun h14 => ?_) (fun h14 => ?_)
    · rw [h6, h14] at hz
      exact absurd hz (by decide)
    · refine lv_iconst (v := nI 1) hx hb dM_equal_17 (by decide +kernel) ?_
      refine lv_goto hx hb dM_equal_18 (tgt := 22) (by decide) ?_
      refine ks_i (wf := mW a kI kL kZ) (u := u) ⟨hx, hb, hml, hown, hA⟩ (m_fails1 l D a kI kL kZ u ) (kw_M_70 hA rfl rfl ⟨Nat.le_trans (Nat.le_of_ble_eq_true rfl) hRf, Nat.le_trans (Nat.le_of_ble_eq_true rfl) hRl⟩) hK hP hD hS (fun _ h => h) (fun u' => mW_adr u') 0 5 rfl rfl rfl hl.1 (Nat.le_of_ble_eq_true rfl) ⟨by omega, by omega⟩ dM_equal_22 rfl (fun r2 u2 H locs hu2 hP hD hS => ?_)
      refine tq_i hu2.1 ?_
      have htau2 : m_tab u2 N kd fa fb T so xa xb xc := by rw [hu2.2]; exact hta
      have hNu2 := mt_N htau2
      refine tq_zeq hx hb dM_equal_25 (tgt := 32) (by decide) (by omega) (fun h25 => ?_) (fun h25 => ?_)
      · omega
      · refine lv_iconst (v := nI 0) hx hb dM_equal_28 (by decide +kernel) ?_
        refine lv_goto hx hb dM_equal_29 (tgt := 40) (by decide) ?_
        subst hQe
        exact W.iret (v := nI 0) hx hb hr (fun t ht hW => ⟨⟨_, u2, rfl, hu2.2, tq_hp ht hP⟩, hS.F ht⟩) hS.2.2 dM_equal_40
set_option maxHeartbeats 4000000 in
set_option maxRecDepth 100000 in
/-- n_roleBelow -/
theorem n_roleBelow (l : Launch) (D : va_G) (a : Nat → Nat) (kI kL kZ : ClassId) (u : sU) (N : Nat) (kd fa fb : Nat → Nat) (T : Nat) (so xa xb xc : Nat → Nat) (hta : m_tab u N kd fa fb T so xa xb xc) (x : Int32) (y : Int32) (hbad : (∀ k, k < 6 → ¬ x = nI k) ∨ (∀ k, k < 6 → ¬ y = nI k)) : Met l yM_roleBelow (wM_roleBelow :: wA) ({ frames := 1, cells := 0, slots := 0, locals := 24 }) (va_Pc [.ref (a 0), .int x, .int y] (tq_wB D vwA (mW a kI kL kZ u) (sT kI kL kZ))) (va_Qi (fun r (u' : sU) => u' = m_thr u 1) (fun u' t => va_P D vwA (mW a kI kL kZ u') t.heap) (mA a)) 0 0 (mA a) := by
  refine Met.ofW (cc := bM_roleBelow) (maxL := 3) (ret := (some .int)) (by decide +kernel) rfl ?_
  intro p e s m args below meth c s₁ B1 hml hv
  obtain ⟨rfl, hP, hK, hD0⟩ := hv
  have hx := B1.exec
  have hb := B1.bytes
  have hr := B1.returns
  have hA : ∀ w ∈ wA, w.before ([.ref (a 0), .int x, .int y] : List Value).toArray s = true := fun w h => atoms_spec (ws := wM_roleBelow :: wA) B1.pre w (List.mem_cons_of_mem _ h)
  have hown : s.vm.findClass RcM = some m.cls := findClass_of_methodNamed B1.named
  have hlocks := B1.notSynchronized
  have hS : va_S (mA a) s.heap s.heap [] := va_S.rf
  have hl := lv_entry ([.ref (a 0), .int x, .int y]) (n := 3) (Nat.le_of_ble_eq_true rfl)
  rw [lg_entry_eq]
  generalize (lg_sl ([.ref (a 0), .int x, .int y]) ++ List.replicate (3 - (lg_sl ([.ref (a 0), .int x, .int y])).length) Slot.unset).toArray = ls at hl ⊢
  have hl : lv_has ls 3 [(0, .ref (a 0)), (1, .int x), (2, .int y)] := hl
  refine tq_gen (fun R Q hRe hQe => ?_)
  have hRf : 1 ≤ R.frames := by rw [hRe]; exact Nat.le_of_ble_eq_true rfl
  have hRl : 24 ≤ R.locals := by rw [hRe]; exact Nat.le_of_ble_eq_true rfl
  have hRc : 0 ≤ R.cells := by rw [hRe]; exact Nat.le_of_ble_eq_true rfl
  have hRs : 0 ≤ R.slots := by rw [hRe]; exact Nat.le_of_ble_eq_true rfl
  have hD := mA_D hD0
  have hN := mt_N hta
  have hz : m_th 6 x = false ∨ m_th 6 y = false := by
    exact hbad.imp th_f th_f
  refine lv_aload_n hx hb dM_roleBelow_0 rfl (lv_at hl 0 rfl) ?_
  refine lv_iload_n hx hb dM_roleBelow_1 rfl (lv_at hl 1 rfl) ?_
  refine ks_s ⟨hx, hb, hml, hown, hA⟩ (m_isRole l x) (kw_M_74 hA rfl rfl ⟨Nat.le_trans (Nat.le_of_ble_eq_true rfl) hRf, Nat.le_trans (Nat.le_of_ble_eq_true rfl) hRl⟩) hP hS rfl hl.1 (Nat.le_of_ble_eq_true rfl) ⟨by omega, by omega⟩ dM_roleBelow_2 rfl (fun H locs hP hS => ?_)
  refine tq_bf hx hb dM_roleBelow_5 (tgt := 15) (by decide) (fun h5 => ?_) (fun h5 => ?_)
  · refine lv_iconst (v := nI 1) hx hb dM_roleBelow_15 (by decide +kernel) ?_
    refine lv_goto hx hb dM_roleBelow_16 (tgt := 20) (by decide) ?_
    refine ks_i (wf := mW a kI kL kZ) (u := u) ⟨hx, hb, hml, hown, hA⟩ (m_fails1 l D a kI kL kZ u ) (kw_M_70 hA rfl rfl ⟨Nat.le_trans (Nat.le_of_ble_eq_true rfl) hRf, Nat.le_trans (Nat.le_of_ble_eq_true rfl) hRl⟩) hK hP hD hS (fun _ h => h) (fun u' => mW_adr u') 0 5 rfl rfl rfl hl.1 (Nat.le_of_ble_eq_true rfl) ⟨by omega, by omega⟩ dM_roleBelow_20 rfl (fun r1 u1 H locs hu1 hP hD hS => ?_)
    refine tq_i hu1.1 ?_
    have htau1 : m_tab u1 N kd fa fb T so xa xb xc := by rw [hu1.2]; exact hta
    have hNu1 := mt_N htau1
    refine tq_zeq hx hb dM_roleBelow_23 (tgt := 30) (by decide) (by omega) (fun h23 => ?_) (fun h23 => ?_)
    · omega
    · refine lv_iconst (v := nI 0) hx hb dM_roleBelow_26 (by decide +kernel) ?_
      refine lv_goto hx hb dM_roleBelow_27 (tgt := 38) (by decide) ?_
      subst hQe
      exact W.iret (v := nI 0) hx hb hr (fun t ht hW => ⟨⟨_, u1, rfl, hu1.2, tq_hp ht hP⟩, hS.F ht⟩) hS.2.2 dM_roleBelow_38
  · refine lv_iload_n hx hb dM_roleBelow_8 rfl (lv_at hl 2 rfl) ?_
    refine ks_s ⟨hx, hb, hml, hown, hA⟩ (m_isRole l y) (kw_M_74 hA rfl rfl ⟨Nat.le_trans (Nat.le_of_ble_eq_true rfl) hRf, Nat.le_trans (Nat.le_of_ble_eq_true rfl) hRl⟩) hP hS rfl hl.1 (Nat.le_of_ble_eq_true rfl) ⟨by omega, by omega⟩ dM_roleBelow_9 rfl (fun H locs hP hS => ?_)
    refine tq_bt hx hb dM_roleBelow_12 (tgt := 19) (by decide) (fun h12 => ?_) (fun h12 => ?_)
    · rw [h5, h12] at hz
      exact absurd hz (by decide)
    · refine lv_iconst (v := nI 1) hx hb dM_roleBelow_15 (by decide +kernel) ?_
      refine lv_goto hx hb dM_roleBelow_16 (tgt := 20) (by decide) ?_
      refine ks_i (wf := mW a kI kL kZ) (u := u) ⟨hx, hb, hml, hown, hA⟩ (m_fails1 l D a kI kL kZ u ) (kw_M_70 hA rfl rfl ⟨Nat.le_trans (Nat.le_of_ble_eq_true rfl) hRf, Nat.le_trans (Nat.le_of_ble_eq_true rfl) hRl⟩) hK hP hD hS (fun _ h => h) (fun u' => mW_adr u') 0 5 rfl rfl rfl hl.1 (Nat.le_of_ble_eq_true rfl) ⟨by omega, by omega⟩ dM_roleBelow_20 rfl (fun r2 u2 H locs hu2 hP hD hS => ?_)
      refine tq_i hu2.1 ?_
      have htau2 : m_tab u2 N kd fa fb T so xa xb xc := by rw [hu2.2]; exact hta
      have hNu2 := mt_N htau2
      refine tq_zeq hx hb dM_roleBelow_23 (tgt := 30) (by decide) (by omega) (fun h23 => ?_) (fun h23 => ?_)
      · omega
      · refine lv_iconst (v := nI 0) hx hb dM_roleBelow_26 (by decide +kernel) ?_
        refine lv_goto hx hb dM_roleBelow_27 (tgt := 38) (by decide) ?_
        subst hQe
        exact W.iret (v := nI 0) hx hb hr (fun t ht hW => ⟨⟨_, u2, rfl, hu2.2, tq_hp ht hP⟩, hS.F ht⟩) hS.2.2 dM_roleBelow_38
set_option maxHeartbeats 4000000 in
set_option maxRecDepth 100000 in
/-- n_chain -/
theorem n_chain (l : Launch) (D : va_G) (a : Nat → Nat) (kI kL kZ : ClassId) (u : sU) (N : Nat) (kd fa fb : Nat → Nat) (T : Nat) (so xa xb xc : Nat → Nat) (hta : m_tab u N kd fa fb T so xa xb xc) (x : Int32) (y : Int32) (z : Int32) (hbad : (∀ k, k < 6 → ¬ x = nI k) ∨ (∀ k, k < 6 → ¬ y = nI k) ∨ (∀ k, k < 6 → ¬ z = nI k)) : Met l yM_chain (wM_chain :: wA) ({ frames := 1, cells := 0, slots := 0, locals := 24 }) (va_Pc [.ref (a 0), .int x, .int y, .int z] (tq_wB D vwA (mW a kI kL kZ u) (sT kI kL kZ))) (va_Qi (fun r (u' : sU) => u' = m_thr u 1) (fun u' t => va_P D vwA (mW a kI kL kZ u') t.heap) (mA a)) 0 0 (mA a) := by
  refine Met.ofW (cc := bM_chain) (maxL := 4) (ret := (some .int)) (by decide +kernel) rfl ?_
  intro p e s m args below meth c s₁ B1 hml hv
  obtain ⟨rfl, hP, hK, hD0⟩ := hv
  have hx := B1.exec
  have hb := B1.bytes
  have hr := B1.returns
  have hA : ∀ w ∈ wA, w.before ([.ref (a 0), .int x, .int y, .int z] : List Value).toArray s = true := fun w h => atoms_spec (ws := wM_chain :: wA) B1.pre w (List.mem_cons_of_mem _ h)
  have hown : s.vm.findClass RcM = some m.cls := findClass_of_methodNamed B1.named
  have hlocks := B1.notSynchronized
  have hS : va_S (mA a) s.heap s.heap [] := va_S.rf
  have hl := lv_entry ([.ref (a 0), .int x, .int y, .int z]) (n := 4) (Nat.le_of_ble_eq_true rfl)
  rw [lg_entry_eq]
  generalize (lg_sl ([.ref (a 0), .int x, .int y, .int z]) ++ List.replicate (4 - (lg_sl ([.ref (a 0), .int x, .int y, .int z])).length) Slot.unset).toArray = ls at hl ⊢
  have hl : lv_has ls 4 [(0, .ref (a 0)), (1, .int x), (2, .int y), (3, .int z)] := hl
  refine tq_gen (fun R Q hRe hQe => ?_)
  have hRf : 1 ≤ R.frames := by rw [hRe]; exact Nat.le_of_ble_eq_true rfl
  have hRl : 24 ≤ R.locals := by rw [hRe]; exact Nat.le_of_ble_eq_true rfl
  have hRc : 0 ≤ R.cells := by rw [hRe]; exact Nat.le_of_ble_eq_true rfl
  have hRs : 0 ≤ R.slots := by rw [hRe]; exact Nat.le_of_ble_eq_true rfl
  have hD := mA_D hD0
  have hN := mt_N hta
  have hz : m_th 6 x = false ∨ m_th 6 y = false ∨ m_th 6 z = false := by
    exact hbad.imp th_f (fun z => z.imp th_f th_f)
  refine lv_aload_n hx hb dM_chain_0 rfl (lv_at hl 0 rfl) ?_
  refine lv_iload_n hx hb dM_chain_1 rfl (lv_at hl 1 rfl) ?_
  refine ks_s ⟨hx, hb, hml, hown, hA⟩ (m_isRole l x) (kw_M_74 hA rfl rfl ⟨Nat.le_trans (Nat.le_of_ble_eq_true rfl) hRf, Nat.le_trans (Nat.le_of_ble_eq_true rfl) hRl⟩) hP hS rfl hl.1 (Nat.le_of_ble_eq_true rfl) ⟨by omega, by omega⟩ dM_chain_2 rfl (fun H locs hP hS => ?_)
  refine tq_bf hx hb dM_chain_5 (tgt := 22) (by decide) (fun h5 => ?_) (fun h5 => ?_)
  · refine lv_iconst (v := nI 1) hx hb dM_chain_22 (by decide +kernel) ?_
    refine lv_goto hx hb dM_chain_23 (tgt := 27) (by decide) ?_
    refine ks_i (wf := mW a kI kL kZ) (u := u) ⟨hx, hb, hml, hown, hA⟩ (m_fails1 l D a kI kL kZ u ) (kw_M_70 hA rfl rfl ⟨Nat.le_trans (Nat.le_of_ble_eq_true rfl) hRf, Nat.le_trans (Nat.le_of_ble_eq_true rfl) hRl⟩) hK hP hD hS (fun _ h => h) (fun u' => mW_adr u') 0 5 rfl rfl rfl hl.1 (Nat.le_of_ble_eq_true rfl) ⟨by omega, by omega⟩ dM_chain_27 rfl (fun r1 u1 H locs hu1 hP hD hS => ?_)
    refine tq_i hu1.1 ?_
    have htau1 : m_tab u1 N kd fa fb T so xa xb xc := by rw [hu1.2]; exact hta
    have hNu1 := mt_N htau1
    refine tq_zeq hx hb dM_chain_30 (tgt := 37) (by decide) (by omega) (fun h30 => ?_) (fun h30 => ?_)
    · omega
    · refine lv_iconst (v := nI 0) hx hb dM_chain_33 (by decide +kernel) ?_
      refine lv_goto hx hb dM_chain_34 (tgt := 45) (by decide) ?_
      subst hQe
      exact W.iret (v := nI 0) hx hb hr (fun t ht hW => ⟨⟨_, u1, rfl, hu1.2, tq_hp ht hP⟩, hS.F ht⟩) hS.2.2 dM_chain_45
  · refine lv_iload_n hx hb dM_chain_8 rfl (lv_at hl 2 rfl) ?_
    refine ks_s ⟨hx, hb, hml, hown, hA⟩ (m_isRole l y) (kw_M_74 hA rfl rfl ⟨Nat.le_trans (Nat.le_of_ble_eq_true rfl) hRf, Nat.le_trans (Nat.le_of_ble_eq_true rfl) hRl⟩) hP hS rfl hl.1 (Nat.le_of_ble_eq_true rfl) ⟨by omega, by omega⟩ dM_chain_9 rfl (fun H locs hP hS => ?_)
    refine tq_bf hx hb dM_chain_12 (tgt := 22) (by decide) (fun h12 => ?_) (fun h12 => ?_)
    · refine lv_iconst (v := nI 1) hx hb dM_chain_22 (by decide +kernel) ?_
      refine lv_goto hx hb dM_chain_23 (tgt := 27) (by decide) ?_
      refine ks_i (wf := mW a kI kL kZ) (u := u) ⟨hx, hb, hml, hown, hA⟩ (m_fails1 l D a kI kL kZ u ) (kw_M_70 hA rfl rfl ⟨Nat.le_trans (Nat.le_of_ble_eq_true rfl) hRf, Nat.le_trans (Nat.le_of_ble_eq_true rfl) hRl⟩) hK hP hD hS (fun _ h => h) (fun u' => mW_adr u') 0 5 rfl rfl rfl hl.1 (Nat.le_of_ble_eq_true rfl) ⟨by omega, by omega⟩ dM_chain_27 rfl (fun r2 u2 H locs hu2 hP hD hS => ?_)
      refine tq_i hu2.1 ?_
      have htau2 : m_tab u2 N kd fa fb T so xa xb xc := by rw [hu2.2]; exact hta
      have hNu2 := mt_N htau2
      refine tq_zeq hx hb dM_chain_30 (tgt := 37) (by decide) (by omega) (fun h30 => ?_) (fun h30 => ?_)
      · omega
      · refine lv_iconst (v := nI 0) hx hb dM_chain_33 (by decide +kernel) ?_
        refine lv_goto hx hb dM_chain_34 (tgt := 45) (by decide) ?_
        subst hQe
        exact W.iret (v := nI 0) hx hb hr (fun t ht hW => ⟨⟨_, u2, rfl, hu2.2, tq_hp ht hP⟩, hS.F ht⟩) hS.2.2 dM_chain_45
    · refine lv_iload_n hx hb dM_chain_15 rfl (lv_at hl 3 rfl) ?_
      refine ks_s ⟨hx, hb, hml, hown, hA⟩ (m_isRole l z) (kw_M_74 hA rfl rfl ⟨Nat.le_trans (Nat.le_of_ble_eq_true rfl) hRf, Nat.le_trans (Nat.le_of_ble_eq_true rfl) hRl⟩) hP hS rfl hl.1 (Nat.le_of_ble_eq_true rfl) ⟨by omega, by omega⟩ dM_chain_16 rfl (fun H locs hP hS => ?_)
      refine tq_bt hx hb dM_chain_19 (tgt := 26) (by decide) (fun h19 => ?_) (fun h19 => ?_)
      · rw [h5, h12, h19] at hz
        exact absurd hz (by decide)
      · refine lv_iconst (v := nI 1) hx hb dM_chain_22 (by decide +kernel) ?_
        refine lv_goto hx hb dM_chain_23 (tgt := 27) (by decide) ?_
        refine ks_i (wf := mW a kI kL kZ) (u := u) ⟨hx, hb, hml, hown, hA⟩ (m_fails1 l D a kI kL kZ u ) (kw_M_70 hA rfl rfl ⟨Nat.le_trans (Nat.le_of_ble_eq_true rfl) hRf, Nat.le_trans (Nat.le_of_ble_eq_true rfl) hRl⟩) hK hP hD hS (fun _ h => h) (fun u' => mW_adr u') 0 5 rfl rfl rfl hl.1 (Nat.le_of_ble_eq_true rfl) ⟨by omega, by omega⟩ dM_chain_27 rfl (fun r3 u3 H locs hu3 hP hD hS => ?_)
        refine tq_i hu3.1 ?_
        have htau3 : m_tab u3 N kd fa fb T so xa xb xc := by rw [hu3.2]; exact hta
        have hNu3 := mt_N htau3
        refine tq_zeq hx hb dM_chain_30 (tgt := 37) (by decide) (by omega) (fun h30 => ?_) (fun h30 => ?_)
        · omega
        · refine lv_iconst (v := nI 0) hx hb dM_chain_33 (by decide +kernel) ?_
          refine lv_goto hx hb dM_chain_34 (tgt := 45) (by decide) ?_
          subst hQe
          exact W.iret (v := nI 0) hx hb hr (fun t ht hW => ⟨⟨_, u3, rfl, hu3.2, tq_hp ht hP⟩, hS.F ht⟩) hS.2.2 dM_chain_45
set_option maxHeartbeats 4000000 in
set_option maxRecDepth 100000 in
/-- n_isBelow -/
theorem n_isBelow (l : Launch) (D : va_G) (a : Nat → Nat) (kI kL kZ : ClassId) (u : sU) (N : Nat) (kd fa fb : Nat → Nat) (T : Nat) (so xa xb xc : Nat → Nat) (hta : m_tab u N kd fa fb T so xa xb xc) (x : Int32) (y : Int32) (hbad : (∀ k, k < N → ¬ x = nI k) ∨ (∀ k, k < N → ¬ y = nI k)) : Met l yM_isBelow (wM_isBelow :: wA) ({ frames := 5, cells := 0, slots := 0, locals := 118 }) (va_Pc [.ref (a 0), .int x, .int y] (tq_wB D vwA (mW a kI kL kZ u) (sT kI kL kZ))) (va_Qi (fun r (u' : sU) => u' = m_thr u 1) (fun u' t => va_P D vwA (mW a kI kL kZ u') t.heap) (mA a)) 0 0 (mA a) := by
  refine Met.ofW (cc := bM_isBelow) (maxL := 3) (ret := (some .boolean)) (by decide +kernel) rfl ?_
  intro p e s m args below meth c s₁ B1 hml hv
  obtain ⟨rfl, hP, hK, hD0⟩ := hv
  have hx := B1.exec
  have hb := B1.bytes
  have hr := B1.returns
  have hA : ∀ w ∈ wA, w.before ([.ref (a 0), .int x, .int y] : List Value).toArray s = true := fun w h => atoms_spec (ws := wM_isBelow :: wA) B1.pre w (List.mem_cons_of_mem _ h)
  have hown : s.vm.findClass RcM = some m.cls := findClass_of_methodNamed B1.named
  have hlocks := B1.notSynchronized
  have hS : va_S (mA a) s.heap s.heap [] := va_S.rf
  have hl := lv_entry ([.ref (a 0), .int x, .int y]) (n := 3) (Nat.le_of_ble_eq_true rfl)
  rw [lg_entry_eq]
  generalize (lg_sl ([.ref (a 0), .int x, .int y]) ++ List.replicate (3 - (lg_sl ([.ref (a 0), .int x, .int y])).length) Slot.unset).toArray = ls at hl ⊢
  have hl : lv_has ls 3 [(0, .ref (a 0)), (1, .int x), (2, .int y)] := hl
  refine tq_gen (fun R Q hRe hQe => ?_)
  have hRf : 5 ≤ R.frames := by rw [hRe]; exact Nat.le_of_ble_eq_true rfl
  have hRl : 118 ≤ R.locals := by rw [hRe]; exact Nat.le_of_ble_eq_true rfl
  have hRc : 0 ≤ R.cells := by rw [hRe]; exact Nat.le_of_ble_eq_true rfl
  have hRs : 0 ≤ R.slots := by rw [hRe]; exact Nat.le_of_ble_eq_true rfl
  have hD := mA_D hD0
  have hN := mt_N hta
  have hz : m_th (u.2.2 1) x = false ∨ m_th (u.2.2 1) y = false := by
    rw [hN.1]
    exact hbad.imp th_f th_f
  refine lv_aload_n hx hb dM_isBelow_0 rfl (lv_at hl 0 rfl) ?_
  refine lv_aload_n hx hb dM_isBelow_1 rfl (lv_at hl 0 rfl) ?_
  refine lv_iload_n hx hb dM_isBelow_2 rfl (lv_at hl 1 rfl) ?_
  refine ks_rv ⟨hx, hb, hml, hown, hA⟩ (m_isThere l D a kI kL kZ u x (by omega)) (kw_M_66 hA rfl rfl ⟨Nat.le_trans (Nat.le_of_ble_eq_true rfl) hRf, Nat.le_trans (Nat.le_of_ble_eq_true rfl) hRl⟩) hK hP hS 0 5 rfl rfl rfl hl.1 (Nat.le_of_ble_eq_true rfl) ⟨by omega, by omega⟩ dM_isBelow_3 rfl (fun H locs hP hS => ?_)
  refine tq_i (y := bI (m_th (u.2.2 1) x)) rfl ?_
  refine tq_bf hx hb dM_isBelow_6 (tgt := 17) (by decide) (fun h6 => ?_) (fun h6 => ?_)
  · refine lv_iconst (v := nI 1) hx hb dM_isBelow_17 (by decide +kernel) ?_
    refine lv_goto hx hb dM_isBelow_18 (tgt := 22) (by decide) ?_
    refine ks_i (wf := mW a kI kL kZ) (u := u) ⟨hx, hb, hml, hown, hA⟩ (m_fails1 l D a kI kL kZ u ) (kw_M_70 hA rfl rfl ⟨Nat.le_trans (Nat.le_of_ble_eq_true rfl) hRf, Nat.le_trans (Nat.le_of_ble_eq_true rfl) hRl⟩) hK hP hD hS (fun _ h => h) (fun u' => mW_adr u') 0 5 rfl rfl rfl hl.1 (Nat.le_of_ble_eq_true rfl) ⟨by omega, by omega⟩ dM_isBelow_22 rfl (fun r1 u1 H locs hu1 hP hD hS => ?_)
    refine tq_i hu1.1 ?_
    have htau1 : m_tab u1 N kd fa fb T so xa xb xc := by rw [hu1.2]; exact hta
    have hNu1 := mt_N htau1
    refine tq_zeq hx hb dM_isBelow_25 (tgt := 30) (by decide) (by omega) (fun h25 => ?_) (fun h25 => ?_)
    · omega
    · refine lv_iconst (v := nI 0) hx hb dM_isBelow_28 (by decide +kernel) ?_
      subst hQe
      exact W.zret (v := nI 0) (ty := .boolean) hx hb hr rfl (fun t ht hW => ⟨⟨_, u1, rfl, hu1.2, tq_hp ht hP⟩, hS.F ht⟩) hS.2.2 dM_isBelow_29
  · refine lv_aload_n hx hb dM_isBelow_9 rfl (lv_at hl 0 rfl) ?_
    refine lv_iload_n hx hb dM_isBelow_10 rfl (lv_at hl 2 rfl) ?_
    refine ks_rv ⟨hx, hb, hml, hown, hA⟩ (m_isThere l D a kI kL kZ u y (by omega)) (kw_M_66 hA rfl rfl ⟨Nat.le_trans (Nat.le_of_ble_eq_true rfl) hRf, Nat.le_trans (Nat.le_of_ble_eq_true rfl) hRl⟩) hK hP hS 0 5 rfl rfl rfl hl.1 (Nat.le_of_ble_eq_true rfl) ⟨by omega, by omega⟩ dM_isBelow_11 rfl (fun H locs hP hS => ?_)
    refine tq_i (y := bI (m_th (u.2.2 1) y)) rfl ?_
    refine tq_bt hx hb dM_isBelow_14 (tgt := 21) (by decide) (fun h14 => ?_) (fun h14 => ?_)
    · rw [h6, h14] at hz
      exact absurd hz (by decide)
    · refine lv_iconst (v := nI 1) hx hb dM_isBelow_17 (by decide +kernel) ?_
      refine lv_goto hx hb dM_isBelow_18 (tgt := 22) (by decide) ?_
      refine ks_i (wf := mW a kI kL kZ) (u := u) ⟨hx, hb, hml, hown, hA⟩ (m_fails1 l D a kI kL kZ u ) (kw_M_70 hA rfl rfl ⟨Nat.le_trans (Nat.le_of_ble_eq_true rfl) hRf, Nat.le_trans (Nat.le_of_ble_eq_true rfl) hRl⟩) hK hP hD hS (fun _ h => h) (fun u' => mW_adr u') 0 5 rfl rfl rfl hl.1 (Nat.le_of_ble_eq_true rfl) ⟨by omega, by omega⟩ dM_isBelow_22 rfl (fun r2 u2 H locs hu2 hP hD hS => ?_)
      refine tq_i hu2.1 ?_
      have htau2 : m_tab u2 N kd fa fb T so xa xb xc := by rw [hu2.2]; exact hta
      have hNu2 := mt_N htau2
      refine tq_zeq hx hb dM_isBelow_25 (tgt := 30) (by decide) (by omega) (fun h25 => ?_) (fun h25 => ?_)
      · omega
      · refine lv_iconst (v := nI 0) hx hb dM_isBelow_28 (by decide +kernel) ?_
        subst hQe
        exact W.zret (v := nI 0) (ty := .boolean) hx hb hr rfl (fun t ht hW => ⟨⟨_, u2, rfl, hu2.2, tq_hp ht hP⟩, hS.F ht⟩) hS.2.2 dM_isBelow_29
set_option maxHeartbeats 4000000 in
set_option maxRecDepth 100000 in
/-- n_direct -/
theorem n_direct (l : Launch) (D : va_G) (a : Nat → Nat) (kI kL kZ : ClassId) (u : sU) (N : Nat) (kd fa fb : Nat → Nat) (T : Nat) (so xa xb xc : Nat → Nat) (hta : m_tab u N kd fa fb T so xa xb xc) (x : Int32) (y : Int32) (hbad : (∀ k, k < N → ¬ x = nI k) ∨ (∀ k, k < N → ¬ y = nI k)) : Met l yM_direct (wM_direct :: wA) ({ frames := 5, cells := 0, slots := 0, locals := 118 }) (va_Pc [.ref (a 0), .int x, .int y] (tq_wB D vwA (mW a kI kL kZ u) (sT kI kL kZ))) (va_Qi (fun r (u' : sU) => u' = m_thr u 1) (fun u' t => va_P D vwA (mW a kI kL kZ u') t.heap) (mA a)) 0 0 (mA a) := by
  refine Met.ofW (cc := bM_direct) (maxL := 5) (ret := (some .boolean)) (by decide +kernel) rfl ?_
  intro p e s m args below meth c s₁ B1 hml hv
  obtain ⟨rfl, hP, hK, hD0⟩ := hv
  have hx := B1.exec
  have hb := B1.bytes
  have hr := B1.returns
  have hA : ∀ w ∈ wA, w.before ([.ref (a 0), .int x, .int y] : List Value).toArray s = true := fun w h => atoms_spec (ws := wM_direct :: wA) B1.pre w (List.mem_cons_of_mem _ h)
  have hown : s.vm.findClass RcM = some m.cls := findClass_of_methodNamed B1.named
  have hlocks := B1.notSynchronized
  have hS : va_S (mA a) s.heap s.heap [] := va_S.rf
  have hl := lv_entry ([.ref (a 0), .int x, .int y]) (n := 5) (Nat.le_of_ble_eq_true rfl)
  rw [lg_entry_eq]
  generalize (lg_sl ([.ref (a 0), .int x, .int y]) ++ List.replicate (5 - (lg_sl ([.ref (a 0), .int x, .int y])).length) Slot.unset).toArray = ls at hl ⊢
  have hl : lv_has ls 5 [(0, .ref (a 0)), (1, .int x), (2, .int y)] := hl
  refine tq_gen (fun R Q hRe hQe => ?_)
  have hRf : 5 ≤ R.frames := by rw [hRe]; exact Nat.le_of_ble_eq_true rfl
  have hRl : 118 ≤ R.locals := by rw [hRe]; exact Nat.le_of_ble_eq_true rfl
  have hRc : 0 ≤ R.cells := by rw [hRe]; exact Nat.le_of_ble_eq_true rfl
  have hRs : 0 ≤ R.slots := by rw [hRe]; exact Nat.le_of_ble_eq_true rfl
  have hD := mA_D hD0
  have hN := mt_N hta
  have hz : m_th (u.2.2 1) x = false ∨ m_th (u.2.2 1) y = false := by
    rw [hN.1]
    exact hbad.imp th_f th_f
  refine lv_aload_n hx hb dM_direct_0 rfl (lv_at hl 0 rfl) ?_
  refine lv_aload_n hx hb dM_direct_1 rfl (lv_at hl 0 rfl) ?_
  refine lv_iload_n hx hb dM_direct_2 rfl (lv_at hl 1 rfl) ?_
  refine ks_rv ⟨hx, hb, hml, hown, hA⟩ (m_isThere l D a kI kL kZ u x (by omega)) (kw_M_66 hA rfl rfl ⟨Nat.le_trans (Nat.le_of_ble_eq_true rfl) hRf, Nat.le_trans (Nat.le_of_ble_eq_true rfl) hRl⟩) hK hP hS 0 5 rfl rfl rfl hl.1 (Nat.le_of_ble_eq_true rfl) ⟨by omega, by omega⟩ dM_direct_3 rfl (fun H locs hP hS => ?_)
  refine tq_i (y := bI (m_th (u.2.2 1) x)) rfl ?_
  refine tq_bf hx hb dM_direct_6 (tgt := 17) (by decide) (fun h6 => ?_) (fun h6 => ?_)
  · refine lv_iconst (v := nI 1) hx hb dM_direct_17 (by decide +kernel) ?_
    refine lv_goto hx hb dM_direct_18 (tgt := 22) (by decide) ?_
    refine ks_i (wf := mW a kI kL kZ) (u := u) ⟨hx, hb, hml, hown, hA⟩ (m_fails1 l D a kI kL kZ u ) (kw_M_70 hA rfl rfl ⟨Nat.le_trans (Nat.le_of_ble_eq_true rfl) hRf, Nat.le_trans (Nat.le_of_ble_eq_true rfl) hRl⟩) hK hP hD hS (fun _ h => h) (fun u' => mW_adr u') 0 5 rfl rfl rfl hl.1 (Nat.le_of_ble_eq_true rfl) ⟨by omega, by omega⟩ dM_direct_22 rfl (fun r1 u1 H locs hu1 hP hD hS => ?_)
    refine tq_i hu1.1 ?_
    have htau1 : m_tab u1 N kd fa fb T so xa xb xc := by rw [hu1.2]; exact hta
    have hNu1 := mt_N htau1
    refine tq_zeq hx hb dM_direct_25 (tgt := 30) (by decide) (by omega) (fun h25 => ?_) (fun h25 => ?_)
    · omega
    · refine lv_iconst (v := nI 0) hx hb dM_direct_28 (by decide +kernel) ?_
      subst hQe
      exact W.zret (v := nI 0) (ty := .boolean) hx hb hr rfl (fun t ht hW => ⟨⟨_, u1, rfl, hu1.2, tq_hp ht hP⟩, hS.F ht⟩) hS.2.2 dM_direct_29
  · refine lv_aload_n hx hb dM_direct_9 rfl (lv_at hl 0 rfl) ?_
    refine lv_iload_n hx hb dM_direct_10 rfl (lv_at hl 2 rfl) ?_
    refine ks_rv ⟨hx, hb, hml, hown, hA⟩ (m_isThere l D a kI kL kZ u y (by omega)) (kw_M_66 hA rfl rfl ⟨Nat.le_trans (Nat.le_of_ble_eq_true rfl) hRf, Nat.le_trans (Nat.le_of_ble_eq_true rfl) hRl⟩) hK hP hS 0 5 rfl rfl rfl hl.1 (Nat.le_of_ble_eq_true rfl) ⟨by omega, by omega⟩ dM_direct_11 rfl (fun H locs hP hS => ?_)
    refine tq_i (y := bI (m_th (u.2.2 1) y)) rfl ?_
    refine tq_bt hx hb dM_direct_14 (tgt := 21) (by decide) (fun h14 => ?_) (fun h14 => ?_)
    · rw [h6, h14] at hz
      exact absurd hz (by decide)
    · refine lv_iconst (v := nI 1) hx hb dM_direct_17 (by decide +kernel) ?_
      refine lv_goto hx hb dM_direct_18 (tgt := 22) (by decide) ?_
      refine ks_i (wf := mW a kI kL kZ) (u := u) ⟨hx, hb, hml, hown, hA⟩ (m_fails1 l D a kI kL kZ u ) (kw_M_70 hA rfl rfl ⟨Nat.le_trans (Nat.le_of_ble_eq_true rfl) hRf, Nat.le_trans (Nat.le_of_ble_eq_true rfl) hRl⟩) hK hP hD hS (fun _ h => h) (fun u' => mW_adr u') 0 5 rfl rfl rfl hl.1 (Nat.le_of_ble_eq_true rfl) ⟨by omega, by omega⟩ dM_direct_22 rfl (fun r2 u2 H locs hu2 hP hD hS => ?_)
      refine tq_i hu2.1 ?_
      have htau2 : m_tab u2 N kd fa fb T so xa xb xc := by rw [hu2.2]; exact hta
      have hNu2 := mt_N htau2
      refine tq_zeq hx hb dM_direct_25 (tgt := 30) (by decide) (by omega) (fun h25 => ?_) (fun h25 => ?_)
      · omega
      · refine lv_iconst (v := nI 0) hx hb dM_direct_28 (by decide +kernel) ?_
        subst hQe
        exact W.zret (v := nI 0) (ty := .boolean) hx hb hr rfl (fun t ht hW => ⟨⟨_, u2, rfl, hu2.2, tq_hp ht hP⟩, hS.F ht⟩) hS.2.2 dM_direct_29
set_option maxHeartbeats 4000000 in
set_option maxRecDepth 100000 in
/-- n_why -/
theorem n_why (l : Launch) (D : va_G) (a : Nat → Nat) (kI kL kZ : ClassId) (u : sU) (N : Nat) (kd fa fb : Nat → Nat) (T : Nat) (so xa xb xc : Nat → Nat) (hta : m_tab u N kd fa fb T so xa xb xc) (x : Int32) (y : Int32) (hbad : (∀ k, k < N → ¬ x = nI k) ∨ (∀ k, k < N → ¬ y = nI k)) : Met l yM_why (wM_why :: wA) ({ frames := 5, cells := 0, slots := 0, locals := 118 }) (va_Pc [.ref (a 0), .int x, .int y] (tq_wB D vwA (mW a kI kL kZ u) (sT kI kL kZ))) (va_Qi (fun r (u' : sU) => u' = m_thr u 1) (fun u' t => va_P D vwA (mW a kI kL kZ u') t.heap) (mA a)) 0 0 (mA a) := by
  refine Met.ofW (cc := bM_why) (maxL := 4) (ret := (some .int)) (by decide +kernel) rfl ?_
  intro p e s m args below meth c s₁ B1 hml hv
  obtain ⟨rfl, hP, hK, hD0⟩ := hv
  have hx := B1.exec
  have hb := B1.bytes
  have hr := B1.returns
  have hA : ∀ w ∈ wA, w.before ([.ref (a 0), .int x, .int y] : List Value).toArray s = true := fun w h => atoms_spec (ws := wM_why :: wA) B1.pre w (List.mem_cons_of_mem _ h)
  have hown : s.vm.findClass RcM = some m.cls := findClass_of_methodNamed B1.named
  have hlocks := B1.notSynchronized
  have hS : va_S (mA a) s.heap s.heap [] := va_S.rf
  have hl := lv_entry ([.ref (a 0), .int x, .int y]) (n := 4) (Nat.le_of_ble_eq_true rfl)
  rw [lg_entry_eq]
  generalize (lg_sl ([.ref (a 0), .int x, .int y]) ++ List.replicate (4 - (lg_sl ([.ref (a 0), .int x, .int y])).length) Slot.unset).toArray = ls at hl ⊢
  have hl : lv_has ls 4 [(0, .ref (a 0)), (1, .int x), (2, .int y)] := hl
  refine tq_gen (fun R Q hRe hQe => ?_)
  have hRf : 5 ≤ R.frames := by rw [hRe]; exact Nat.le_of_ble_eq_true rfl
  have hRl : 118 ≤ R.locals := by rw [hRe]; exact Nat.le_of_ble_eq_true rfl
  have hRc : 0 ≤ R.cells := by rw [hRe]; exact Nat.le_of_ble_eq_true rfl
  have hRs : 0 ≤ R.slots := by rw [hRe]; exact Nat.le_of_ble_eq_true rfl
  have hD := mA_D hD0
  have hN := mt_N hta
  have hz : m_th (u.2.2 1) x = false ∨ m_th (u.2.2 1) y = false := by
    rw [hN.1]
    exact hbad.imp th_f th_f
  refine lv_aload_n hx hb dM_why_0 rfl (lv_at hl 0 rfl) ?_
  refine lv_aload_n hx hb dM_why_1 rfl (lv_at hl 0 rfl) ?_
  refine lv_iload_n hx hb dM_why_2 rfl (lv_at hl 1 rfl) ?_
  refine ks_rv ⟨hx, hb, hml, hown, hA⟩ (m_isThere l D a kI kL kZ u x (by omega)) (kw_M_66 hA rfl rfl ⟨Nat.le_trans (Nat.le_of_ble_eq_true rfl) hRf, Nat.le_trans (Nat.le_of_ble_eq_true rfl) hRl⟩) hK hP hS 0 5 rfl rfl rfl hl.1 (Nat.le_of_ble_eq_true rfl) ⟨by omega, by omega⟩ dM_why_3 rfl (fun H locs hP hS => ?_)
  refine tq_i (y := bI (m_th (u.2.2 1) x)) rfl ?_
  refine tq_bf hx hb dM_why_6 (tgt := 17) (by decide) (fun h6 => ?_) (fun h6 => ?_)
  · refine lv_iconst (v := nI 1) hx hb dM_why_17 (by decide +kernel) ?_
    refine lv_goto hx hb dM_why_18 (tgt := 22) (by decide) ?_
    refine ks_i (wf := mW a kI kL kZ) (u := u) ⟨hx, hb, hml, hown, hA⟩ (m_fails1 l D a kI kL kZ u ) (kw_M_70 hA rfl rfl ⟨Nat.le_trans (Nat.le_of_ble_eq_true rfl) hRf, Nat.le_trans (Nat.le_of_ble_eq_true rfl) hRl⟩) hK hP hD hS (fun _ h => h) (fun u' => mW_adr u') 0 5 rfl rfl rfl hl.1 (Nat.le_of_ble_eq_true rfl) ⟨by omega, by omega⟩ dM_why_22 rfl (fun r1 u1 H locs hu1 hP hD hS => ?_)
    refine tq_i hu1.1 ?_
    have htau1 : m_tab u1 N kd fa fb T so xa xb xc := by rw [hu1.2]; exact hta
    have hNu1 := mt_N htau1
    refine tq_zeq hx hb dM_why_25 (tgt := 30) (by decide) (by omega) (fun h25 => ?_) (fun h25 => ?_)
    · omega
    · refine lv_iconst (v := nI 0) hx hb dM_why_28 (by decide +kernel) ?_
      subst hQe
      exact W.iret (v := nI 0) hx hb hr (fun t ht hW => ⟨⟨_, u1, rfl, hu1.2, tq_hp ht hP⟩, hS.F ht⟩) hS.2.2 dM_why_29
  · refine lv_aload_n hx hb dM_why_9 rfl (lv_at hl 0 rfl) ?_
    refine lv_iload_n hx hb dM_why_10 rfl (lv_at hl 2 rfl) ?_
    refine ks_rv ⟨hx, hb, hml, hown, hA⟩ (m_isThere l D a kI kL kZ u y (by omega)) (kw_M_66 hA rfl rfl ⟨Nat.le_trans (Nat.le_of_ble_eq_true rfl) hRf, Nat.le_trans (Nat.le_of_ble_eq_true rfl) hRl⟩) hK hP hS 0 5 rfl rfl rfl hl.1 (Nat.le_of_ble_eq_true rfl) ⟨by omega, by omega⟩ dM_why_11 rfl (fun H locs hP hS => ?_)
    refine tq_i (y := bI (m_th (u.2.2 1) y)) rfl ?_
    refine tq_bt hx hb dM_why_14 (tgt := 21) (by decide) (fun h14 => ?_) (fun h14 => ?_)
    · rw [h6, h14] at hz
      exact absurd hz (by decide)
    · refine lv_iconst (v := nI 1) hx hb dM_why_17 (by decide +kernel) ?_
      refine lv_goto hx hb dM_why_18 (tgt := 22) (by decide) ?_
      refine ks_i (wf := mW a kI kL kZ) (u := u) ⟨hx, hb, hml, hown, hA⟩ (m_fails1 l D a kI kL kZ u ) (kw_M_70 hA rfl rfl ⟨Nat.le_trans (Nat.le_of_ble_eq_true rfl) hRf, Nat.le_trans (Nat.le_of_ble_eq_true rfl) hRl⟩) hK hP hD hS (fun _ h => h) (fun u' => mW_adr u') 0 5 rfl rfl rfl hl.1 (Nat.le_of_ble_eq_true rfl) ⟨by omega, by omega⟩ dM_why_22 rfl (fun r2 u2 H locs hu2 hP hD hS => ?_)
      refine tq_i hu2.1 ?_
      have htau2 : m_tab u2 N kd fa fb T so xa xb xc := by rw [hu2.2]; exact hta
      have hNu2 := mt_N htau2
      refine tq_zeq hx hb dM_why_25 (tgt := 30) (by decide) (by omega) (fun h25 => ?_) (fun h25 => ?_)
      · omega
      · refine lv_iconst (v := nI 0) hx hb dM_why_28 (by decide +kernel) ?_
        subst hQe
        exact W.iret (v := nI 0) hx hb hr (fun t ht hW => ⟨⟨_, u2, rfl, hu2.2, tq_hp ht hP⟩, hS.F ht⟩) hS.2.2 dM_why_29
set_option maxHeartbeats 4000000 in
set_option maxRecDepth 100000 in
/-- n_supers -/
theorem n_supers (l : Launch) (D : va_G) (a : Nat → Nat) (kI kL kZ : ClassId) (u : sU) (N : Nat) (kd fa fb : Nat → Nat) (T : Nat) (so xa xb xc : Nat → Nat) (hta : m_tab u N kd fa fb T so xa xb xc) (x : Int32) (hbad : (∀ k, k < N → ¬ x = nI k)) : Met l yM_supers (wM_supers :: wA) ({ frames := 5, cells := 0, slots := 0, locals := 118 }) (va_Pc [.ref (a 0), .int x] (tq_wB D vwA (mW a kI kL kZ u) (sT kI kL kZ))) (va_Qi (fun r (u' : sU) => u' = m_thr u 1) (fun u' t => va_P D vwA (mW a kI kL kZ u') t.heap) (mA a)) 0 0 (mA a) := by
  refine Met.ofW (cc := bM_supers) (maxL := 4) (ret := (some .int)) (by decide +kernel) rfl ?_
  intro p e s m args below meth c s₁ B1 hml hv
  obtain ⟨rfl, hP, hK, hD0⟩ := hv
  have hx := B1.exec
  have hb := B1.bytes
  have hr := B1.returns
  have hA : ∀ w ∈ wA, w.before ([.ref (a 0), .int x] : List Value).toArray s = true := fun w h => atoms_spec (ws := wM_supers :: wA) B1.pre w (List.mem_cons_of_mem _ h)
  have hown : s.vm.findClass RcM = some m.cls := findClass_of_methodNamed B1.named
  have hlocks := B1.notSynchronized
  have hS : va_S (mA a) s.heap s.heap [] := va_S.rf
  have hl := lv_entry ([.ref (a 0), .int x]) (n := 4) (Nat.le_of_ble_eq_true rfl)
  rw [lg_entry_eq]
  generalize (lg_sl ([.ref (a 0), .int x]) ++ List.replicate (4 - (lg_sl ([.ref (a 0), .int x])).length) Slot.unset).toArray = ls at hl ⊢
  have hl : lv_has ls 4 [(0, .ref (a 0)), (1, .int x)] := hl
  refine tq_gen (fun R Q hRe hQe => ?_)
  have hRf : 5 ≤ R.frames := by rw [hRe]; exact Nat.le_of_ble_eq_true rfl
  have hRl : 118 ≤ R.locals := by rw [hRe]; exact Nat.le_of_ble_eq_true rfl
  have hRc : 0 ≤ R.cells := by rw [hRe]; exact Nat.le_of_ble_eq_true rfl
  have hRs : 0 ≤ R.slots := by rw [hRe]; exact Nat.le_of_ble_eq_true rfl
  have hD := mA_D hD0
  have hN := mt_N hta
  have hz : m_th (u.2.2 1) x = false := by
    rw [hN.1]
    exact th_f hbad
  refine lv_aload_n hx hb dM_supers_0 rfl (lv_at hl 0 rfl) ?_
  refine lv_aload_n hx hb dM_supers_1 rfl (lv_at hl 0 rfl) ?_
  refine lv_iload_n hx hb dM_supers_2 rfl (lv_at hl 1 rfl) ?_
  refine ks_rv ⟨hx, hb, hml, hown, hA⟩ (m_isThere l D a kI kL kZ u x (by omega)) (kw_M_66 hA rfl rfl ⟨Nat.le_trans (Nat.le_of_ble_eq_true rfl) hRf, Nat.le_trans (Nat.le_of_ble_eq_true rfl) hRl⟩) hK hP hS 0 5 rfl rfl rfl hl.1 (Nat.le_of_ble_eq_true rfl) ⟨by omega, by omega⟩ dM_supers_3 rfl (fun H locs hP hS => ?_)
  refine tq_i (y := bI (m_th (u.2.2 1) x)) rfl ?_
  refine tq_bt hx hb dM_supers_6 (tgt := 13) (by decide) (fun h6 => ?_) (fun h6 => ?_)
  · rw [h6] at hz
    exact absurd hz (by decide)
  · refine lv_iconst (v := nI 1) hx hb dM_supers_9 (by decide +kernel) ?_
    refine lv_goto hx hb dM_supers_10 (tgt := 14) (by decide) ?_
    refine ks_i (wf := mW a kI kL kZ) (u := u) ⟨hx, hb, hml, hown, hA⟩ (m_fails1 l D a kI kL kZ u ) (kw_M_70 hA rfl rfl ⟨Nat.le_trans (Nat.le_of_ble_eq_true rfl) hRf, Nat.le_trans (Nat.le_of_ble_eq_true rfl) hRl⟩) hK hP hD hS (fun _ h => h) (fun u' => mW_adr u') 0 5 rfl rfl rfl hl.1 (Nat.le_of_ble_eq_true rfl) ⟨by omega, by omega⟩ dM_supers_14 rfl (fun r1 u1 H locs hu1 hP hD hS => ?_)
    refine tq_i hu1.1 ?_
    have htau1 : m_tab u1 N kd fa fb T so xa xb xc := by rw [hu1.2]; exact hta
    have hNu1 := mt_N htau1
    refine tq_zeq hx hb dM_supers_17 (tgt := 22) (by decide) (by omega) (fun h17 => ?_) (fun h17 => ?_)
    · omega
    · refine lv_iconst (v := nI 0) hx hb dM_supers_20 (by decide +kernel) ?_
      subst hQe
      exact W.iret (v := nI 0) hx hb hr (fun t ht hW => ⟨⟨_, u1, rfl, hu1.2, tq_hp ht hP⟩, hS.F ht⟩) hS.2.2 dM_supers_21
set_option maxHeartbeats 4000000 in
set_option maxRecDepth 100000 in
/-- n_sup -/
theorem n_sup (l : Launch) (D : va_G) (a : Nat → Nat) (kI kL kZ : ClassId) (u : sU) (N : Nat) (kd fa fb : Nat → Nat) (T : Nat) (so xa xb xc : Nat → Nat) (hta : m_tab u N kd fa fb T so xa xb xc) (x : Int32) (y : Int32) (hbad : (∀ k, k < N → ¬ x = nI k)) : Met l yM_sup (wM_sup :: wA) ({ frames := 5, cells := 0, slots := 0, locals := 118 }) (va_Pc [.ref (a 0), .int x, .int y] (tq_wB D vwA (mW a kI kL kZ u) (sT kI kL kZ))) (va_Qi (fun r (u' : sU) => u' = m_thr u 1) (fun u' t => va_P D vwA (mW a kI kL kZ u') t.heap) (mA a)) 0 0 (mA a) := by
  refine Met.ofW (cc := bM_sup) (maxL := 5) (ret := (some .int)) (by decide +kernel) rfl ?_
  intro p e s m args below meth c s₁ B1 hml hv
  obtain ⟨rfl, hP, hK, hD0⟩ := hv
  have hx := B1.exec
  have hb := B1.bytes
  have hr := B1.returns
  have hA : ∀ w ∈ wA, w.before ([.ref (a 0), .int x, .int y] : List Value).toArray s = true := fun w h => atoms_spec (ws := wM_sup :: wA) B1.pre w (List.mem_cons_of_mem _ h)
  have hown : s.vm.findClass RcM = some m.cls := findClass_of_methodNamed B1.named
  have hlocks := B1.notSynchronized
  have hS : va_S (mA a) s.heap s.heap [] := va_S.rf
  have hl := lv_entry ([.ref (a 0), .int x, .int y]) (n := 5) (Nat.le_of_ble_eq_true rfl)
  rw [lg_entry_eq]
  generalize (lg_sl ([.ref (a 0), .int x, .int y]) ++ List.replicate (5 - (lg_sl ([.ref (a 0), .int x, .int y])).length) Slot.unset).toArray = ls at hl ⊢
  have hl : lv_has ls 5 [(0, .ref (a 0)), (1, .int x), (2, .int y)] := hl
  refine tq_gen (fun R Q hRe hQe => ?_)
  have hRf : 5 ≤ R.frames := by rw [hRe]; exact Nat.le_of_ble_eq_true rfl
  have hRl : 118 ≤ R.locals := by rw [hRe]; exact Nat.le_of_ble_eq_true rfl
  have hRc : 0 ≤ R.cells := by rw [hRe]; exact Nat.le_of_ble_eq_true rfl
  have hRs : 0 ≤ R.slots := by rw [hRe]; exact Nat.le_of_ble_eq_true rfl
  have hD := mA_D hD0
  have hN := mt_N hta
  have hz : m_th (u.2.2 1) x = false := by
    rw [hN.1]
    exact th_f hbad
  refine lv_aload_n hx hb dM_sup_0 rfl (lv_at hl 0 rfl) ?_
  refine lv_aload_n hx hb dM_sup_1 rfl (lv_at hl 0 rfl) ?_
  refine lv_iload_n hx hb dM_sup_2 rfl (lv_at hl 1 rfl) ?_
  refine ks_rv ⟨hx, hb, hml, hown, hA⟩ (m_isThere l D a kI kL kZ u x (by omega)) (kw_M_66 hA rfl rfl ⟨Nat.le_trans (Nat.le_of_ble_eq_true rfl) hRf, Nat.le_trans (Nat.le_of_ble_eq_true rfl) hRl⟩) hK hP hS 0 5 rfl rfl rfl hl.1 (Nat.le_of_ble_eq_true rfl) ⟨by omega, by omega⟩ dM_sup_3 rfl (fun H locs hP hS => ?_)
  refine tq_i (y := bI (m_th (u.2.2 1) x)) rfl ?_
  refine tq_bt hx hb dM_sup_6 (tgt := 13) (by decide) (fun h6 => ?_) (fun h6 => ?_)
  · rw [h6] at hz
    exact absurd hz (by decide)
  · refine lv_iconst (v := nI 1) hx hb dM_sup_9 (by decide +kernel) ?_
    refine lv_goto hx hb dM_sup_10 (tgt := 14) (by decide) ?_
    refine ks_i (wf := mW a kI kL kZ) (u := u) ⟨hx, hb, hml, hown, hA⟩ (m_fails1 l D a kI kL kZ u ) (kw_M_70 hA rfl rfl ⟨Nat.le_trans (Nat.le_of_ble_eq_true rfl) hRf, Nat.le_trans (Nat.le_of_ble_eq_true rfl) hRl⟩) hK hP hD hS (fun _ h => h) (fun u' => mW_adr u') 0 5 rfl rfl rfl hl.1 (Nat.le_of_ble_eq_true rfl) ⟨by omega, by omega⟩ dM_sup_14 rfl (fun r1 u1 H locs hu1 hP hD hS => ?_)
    refine tq_i hu1.1 ?_
    have htau1 : m_tab u1 N kd fa fb T so xa xb xc := by rw [hu1.2]; exact hta
    have hNu1 := mt_N htau1
    refine tq_zeq hx hb dM_sup_17 (tgt := 22) (by decide) (by omega) (fun h17 => ?_) (fun h17 => ?_)
    · omega
    · refine lv_iconst (v := nI 0) hx hb dM_sup_20 (by decide +kernel) ?_
      subst hQe
      exact W.iret (v := nI 0) hx hb hr (fun t ht hW => ⟨⟨_, u1, rfl, hu1.2, tq_hp ht hP⟩, hS.F ht⟩) hS.2.2 dM_sup_21
set_option maxHeartbeats 4000000 in
set_option maxRecDepth 100000 in
/-- n_twin -/
theorem n_twin (l : Launch) (D : va_G) (a : Nat → Nat) (kI kL kZ : ClassId) (u : sU) (N : Nat) (kd fa fb : Nat → Nat) (T : Nat) (so xa xb xc : Nat → Nat) (hta : m_tab u N kd fa fb T so xa xb xc) (x : Int32) (hbad : (∀ k, k < N → ¬ x = nI k)) : Met l yM_twin (wM_twin :: wA) ({ frames := 5, cells := 0, slots := 0, locals := 118 }) (va_Pc [.ref (a 0), .int x] (tq_wB D vwA (mW a kI kL kZ u) (sT kI kL kZ))) (va_Qi (fun r (u' : sU) => u' = m_thr u 1) (fun u' t => va_P D vwA (mW a kI kL kZ u') t.heap) (mA a)) 0 0 (mA a) := by
  refine Met.ofW (cc := bM_twin) (maxL := 2) (ret := (some .int)) (by decide +kernel) rfl ?_
  intro p e s m args below meth c s₁ B1 hml hv
  obtain ⟨rfl, hP, hK, hD0⟩ := hv
  have hx := B1.exec
  have hb := B1.bytes
  have hr := B1.returns
  have hA : ∀ w ∈ wA, w.before ([.ref (a 0), .int x] : List Value).toArray s = true := fun w h => atoms_spec (ws := wM_twin :: wA) B1.pre w (List.mem_cons_of_mem _ h)
  have hown : s.vm.findClass RcM = some m.cls := findClass_of_methodNamed B1.named
  have hlocks := B1.notSynchronized
  have hS : va_S (mA a) s.heap s.heap [] := va_S.rf
  have hl := lv_entry ([.ref (a 0), .int x]) (n := 2) (Nat.le_of_ble_eq_true rfl)
  rw [lg_entry_eq]
  generalize (lg_sl ([.ref (a 0), .int x]) ++ List.replicate (2 - (lg_sl ([.ref (a 0), .int x])).length) Slot.unset).toArray = ls at hl ⊢
  have hl : lv_has ls 2 [(0, .ref (a 0)), (1, .int x)] := hl
  refine tq_gen (fun R Q hRe hQe => ?_)
  have hRf : 5 ≤ R.frames := by rw [hRe]; exact Nat.le_of_ble_eq_true rfl
  have hRl : 118 ≤ R.locals := by rw [hRe]; exact Nat.le_of_ble_eq_true rfl
  have hRc : 0 ≤ R.cells := by rw [hRe]; exact Nat.le_of_ble_eq_true rfl
  have hRs : 0 ≤ R.slots := by rw [hRe]; exact Nat.le_of_ble_eq_true rfl
  have hD := mA_D hD0
  have hN := mt_N hta
  have hz : m_th (u.2.2 1) x = false := by
    rw [hN.1]
    exact th_f hbad
  refine lv_aload_n hx hb dM_twin_0 rfl (lv_at hl 0 rfl) ?_
  refine lv_aload_n hx hb dM_twin_1 rfl (lv_at hl 0 rfl) ?_
  refine lv_iload_n hx hb dM_twin_2 rfl (lv_at hl 1 rfl) ?_
  refine ks_rv ⟨hx, hb, hml, hown, hA⟩ (m_isThere l D a kI kL kZ u x (by omega)) (kw_M_66 hA rfl rfl ⟨Nat.le_trans (Nat.le_of_ble_eq_true rfl) hRf, Nat.le_trans (Nat.le_of_ble_eq_true rfl) hRl⟩) hK hP hS 0 5 rfl rfl rfl hl.1 (Nat.le_of_ble_eq_true rfl) ⟨by omega, by omega⟩ dM_twin_3 rfl (fun H locs hP hS => ?_)
  refine tq_i (y := bI (m_th (u.2.2 1) x)) rfl ?_
  refine tq_bt hx hb dM_twin_6 (tgt := 13) (by decide) (fun h6 => ?_) (fun h6 => ?_)
  · rw [h6] at hz
    exact absurd hz (by decide)
  · refine lv_iconst (v := nI 1) hx hb dM_twin_9 (by decide +kernel) ?_
    refine lv_goto hx hb dM_twin_10 (tgt := 14) (by decide) ?_
    refine ks_i (wf := mW a kI kL kZ) (u := u) ⟨hx, hb, hml, hown, hA⟩ (m_fails1 l D a kI kL kZ u ) (kw_M_70 hA rfl rfl ⟨Nat.le_trans (Nat.le_of_ble_eq_true rfl) hRf, Nat.le_trans (Nat.le_of_ble_eq_true rfl) hRl⟩) hK hP hD hS (fun _ h => h) (fun u' => mW_adr u') 0 5 rfl rfl rfl hl.1 (Nat.le_of_ble_eq_true rfl) ⟨by omega, by omega⟩ dM_twin_14 rfl (fun r1 u1 H locs hu1 hP hD hS => ?_)
    refine tq_i hu1.1 ?_
    have htau1 : m_tab u1 N kd fa fb T so xa xb xc := by rw [hu1.2]; exact hta
    have hNu1 := mt_N htau1
    refine tq_zeq hx hb dM_twin_17 (tgt := 22) (by decide) (by omega) (fun h17 => ?_) (fun h17 => ?_)
    · omega
    · refine lv_iconst (v := nI 0) hx hb dM_twin_20 (by decide +kernel) ?_
      subst hQe
      exact W.iret (v := nI 0) hx hb hr (fun t ht hW => ⟨⟨_, u1, rfl, hu1.2, tq_hp ht hP⟩, hS.F ht⟩) hS.2.2 dM_twin_21
set_option maxHeartbeats 4000000 in
set_option maxRecDepth 100000 in
/-- n_common -/
theorem n_common (l : Launch) (D : va_G) (a : Nat → Nat) (kI kL kZ : ClassId) (u : sU) (N : Nat) (kd fa fb : Nat → Nat) (T : Nat) (so xa xb xc : Nat → Nat) (hta : m_tab u N kd fa fb T so xa xb xc) (x : Int32) (y : Int32) (z : Int32) (hbad : (∀ k, k < N → ¬ x = nI k) ∨ (∀ k, k < N → ¬ y = nI k)) : Met l yM_common (wM_common :: wA) ({ frames := 5, cells := 0, slots := 0, locals := 118 }) (va_Pc [.ref (a 0), .int x, .int y, .int z] (tq_wB D vwA (mW a kI kL kZ u) (sT kI kL kZ))) (va_Qi (fun r (u' : sU) => u' = m_thr u 1) (fun u' t => va_P D vwA (mW a kI kL kZ u') t.heap) (mA a)) 0 0 (mA a) := by
  refine Met.ofW (cc := bM_common) (maxL := 9) (ret := (some .int)) (by decide +kernel) rfl ?_
  intro p e s m args below meth c s₁ B1 hml hv
  obtain ⟨rfl, hP, hK, hD0⟩ := hv
  have hx := B1.exec
  have hb := B1.bytes
  have hr := B1.returns
  have hA : ∀ w ∈ wA, w.before ([.ref (a 0), .int x, .int y, .int z] : List Value).toArray s = true := fun w h => atoms_spec (ws := wM_common :: wA) B1.pre w (List.mem_cons_of_mem _ h)
  have hown : s.vm.findClass RcM = some m.cls := findClass_of_methodNamed B1.named
  have hlocks := B1.notSynchronized
  have hS : va_S (mA a) s.heap s.heap [] := va_S.rf
  have hl := lv_entry ([.ref (a 0), .int x, .int y, .int z]) (n := 9) (Nat.le_of_ble_eq_true rfl)
  rw [lg_entry_eq]
  generalize (lg_sl ([.ref (a 0), .int x, .int y, .int z]) ++ List.replicate (9 - (lg_sl ([.ref (a 0), .int x, .int y, .int z])).length) Slot.unset).toArray = ls at hl ⊢
  have hl : lv_has ls 9 [(0, .ref (a 0)), (1, .int x), (2, .int y), (3, .int z)] := hl
  refine tq_gen (fun R Q hRe hQe => ?_)
  have hRf : 5 ≤ R.frames := by rw [hRe]; exact Nat.le_of_ble_eq_true rfl
  have hRl : 118 ≤ R.locals := by rw [hRe]; exact Nat.le_of_ble_eq_true rfl
  have hRc : 0 ≤ R.cells := by rw [hRe]; exact Nat.le_of_ble_eq_true rfl
  have hRs : 0 ≤ R.slots := by rw [hRe]; exact Nat.le_of_ble_eq_true rfl
  have hD := mA_D hD0
  have hN := mt_N hta
  have hz : m_th (u.2.2 1) x = false ∨ m_th (u.2.2 1) y = false := by
    rw [hN.1]
    exact hbad.imp th_f th_f
  refine lv_aload_n hx hb dM_common_0 rfl (lv_at hl 0 rfl) ?_
  refine lv_aload_n hx hb dM_common_1 rfl (lv_at hl 0 rfl) ?_
  refine lv_iload_n hx hb dM_common_2 rfl (lv_at hl 1 rfl) ?_
  refine ks_rv ⟨hx, hb, hml, hown, hA⟩ (m_isThere l D a kI kL kZ u x (by omega)) (kw_M_66 hA rfl rfl ⟨Nat.le_trans (Nat.le_of_ble_eq_true rfl) hRf, Nat.le_trans (Nat.le_of_ble_eq_true rfl) hRl⟩) hK hP hS 0 5 rfl rfl rfl hl.1 (Nat.le_of_ble_eq_true rfl) ⟨by omega, by omega⟩ dM_common_3 rfl (fun H locs hP hS => ?_)
  refine tq_i (y := bI (m_th (u.2.2 1) x)) rfl ?_
  refine tq_bf hx hb dM_common_6 (tgt := 17) (by decide) (fun h6 => ?_) (fun h6 => ?_)
  · refine lv_iconst (v := nI 1) hx hb dM_common_17 (by decide +kernel) ?_
    refine lv_goto hx hb dM_common_18 (tgt := 22) (by decide) ?_
    refine ks_i (wf := mW a kI kL kZ) (u := u) ⟨hx, hb, hml, hown, hA⟩ (m_fails1 l D a kI kL kZ u ) (kw_M_70 hA rfl rfl ⟨Nat.le_trans (Nat.le_of_ble_eq_true rfl) hRf, Nat.le_trans (Nat.le_of_ble_eq_true rfl) hRl⟩) hK hP hD hS (fun _ h => h) (fun u' => mW_adr u') 0 5 rfl rfl rfl hl.1 (Nat.le_of_ble_eq_true rfl) ⟨by omega, by omega⟩ dM_common_22 rfl (fun r1 u1 H locs hu1 hP hD hS => ?_)
    refine tq_i hu1.1 ?_
    have htau1 : m_tab u1 N kd fa fb T so xa xb xc := by rw [hu1.2]; exact hta
    have hNu1 := mt_N htau1
    refine tq_zeq hx hb dM_common_25 (tgt := 30) (by decide) (by omega) (fun h25 => ?_) (fun h25 => ?_)
    · omega
    · refine lv_iconst (v := nI 0) hx hb dM_common_28 (by decide +kernel) ?_
      subst hQe
      exact W.iret (v := nI 0) hx hb hr (fun t ht hW => ⟨⟨_, u1, rfl, hu1.2, tq_hp ht hP⟩, hS.F ht⟩) hS.2.2 dM_common_29
  · refine lv_aload_n hx hb dM_common_9 rfl (lv_at hl 0 rfl) ?_
    refine lv_iload_n hx hb dM_common_10 rfl (lv_at hl 2 rfl) ?_
    refine ks_rv ⟨hx, hb, hml, hown, hA⟩ (m_isThere l D a kI kL kZ u y (by omega)) (kw_M_66 hA rfl rfl ⟨Nat.le_trans (Nat.le_of_ble_eq_true rfl) hRf, Nat.le_trans (Nat.le_of_ble_eq_true rfl) hRl⟩) hK hP hS 0 5 rfl rfl rfl hl.1 (Nat.le_of_ble_eq_true rfl) ⟨by omega, by omega⟩ dM_common_11 rfl (fun H locs hP hS => ?_)
    refine tq_i (y := bI (m_th (u.2.2 1) y)) rfl ?_
    refine tq_bt hx hb dM_common_14 (tgt := 21) (by decide) (fun h14 => ?_) (fun h14 => ?_)
    · rw [h6, h14] at hz
      exact absurd hz (by decide)
    · refine lv_iconst (v := nI 1) hx hb dM_common_17 (by decide +kernel) ?_
      refine lv_goto hx hb dM_common_18 (tgt := 22) (by decide) ?_
      refine ks_i (wf := mW a kI kL kZ) (u := u) ⟨hx, hb, hml, hown, hA⟩ (m_fails1 l D a kI kL kZ u ) (kw_M_70 hA rfl rfl ⟨Nat.le_trans (Nat.le_of_ble_eq_true rfl) hRf, Nat.le_trans (Nat.le_of_ble_eq_true rfl) hRl⟩) hK hP hD hS (fun _ h => h) (fun u' => mW_adr u') 0 5 rfl rfl rfl hl.1 (Nat.le_of_ble_eq_true rfl) ⟨by omega, by omega⟩ dM_common_22 rfl (fun r2 u2 H locs hu2 hP hD hS => ?_)
      refine tq_i hu2.1 ?_
      have htau2 : m_tab u2 N kd fa fb T so xa xb xc := by rw [hu2.2]; exact hta
      have hNu2 := mt_N htau2
      refine tq_zeq hx hb dM_common_25 (tgt := 30) (by decide) (by omega) (fun h25 => ?_) (fun h25 => ?_)
      · omega
      · refine lv_iconst (v := nI 0) hx hb dM_common_28 (by decide +kernel) ?_
        subst hQe
        exact W.iret (v := nI 0) hx hb hr (fun t ht hW => ⟨⟨_, u2, rfl, hu2.2, tq_hp ht hP⟩, hS.F ht⟩) hS.2.2 dM_common_29
set_option maxHeartbeats 4000000 in
set_option maxRecDepth 100000 in
/-- n_has -/
theorem n_has (l : Launch) (D : va_G) (a : Nat → Nat) (kI kL kZ : ClassId) (u : sU) (N : Nat) (kd fa fb : Nat → Nat) (T : Nat) (so xa xb xc : Nat → Nat) (hta : m_tab u N kd fa fb T so xa xb xc) (x : Int32) (y : Int32) (z : Int32) (hbad : (∀ k, k < N → ¬ x = nI k) ∨ (∀ k, k < 6 → ¬ y = nI k) ∨ (∀ k, k < N → ¬ z = nI k)) : Met l yM_has (wM_has :: wA) ({ frames := 5, cells := 0, slots := 0, locals := 118 }) (va_Pc [.ref (a 0), .int x, .int y, .int z] (tq_wB D vwA (mW a kI kL kZ u) (sT kI kL kZ))) (va_Qi (fun r (u' : sU) => u' = m_thr u 1) (fun u' t => va_P D vwA (mW a kI kL kZ u') t.heap) (mA a)) 0 0 (mA a) := by
  refine Met.ofW (cc := bM_has) (maxL := 4) (ret := (some .boolean)) (by decide +kernel) rfl ?_
  intro p e s m args below meth c s₁ B1 hml hv
  obtain ⟨rfl, hP, hK, hD0⟩ := hv
  have hx := B1.exec
  have hb := B1.bytes
  have hr := B1.returns
  have hA : ∀ w ∈ wA, w.before ([.ref (a 0), .int x, .int y, .int z] : List Value).toArray s = true := fun w h => atoms_spec (ws := wM_has :: wA) B1.pre w (List.mem_cons_of_mem _ h)
  have hown : s.vm.findClass RcM = some m.cls := findClass_of_methodNamed B1.named
  have hlocks := B1.notSynchronized
  have hS : va_S (mA a) s.heap s.heap [] := va_S.rf
  have hl := lv_entry ([.ref (a 0), .int x, .int y, .int z]) (n := 4) (Nat.le_of_ble_eq_true rfl)
  rw [lg_entry_eq]
  generalize (lg_sl ([.ref (a 0), .int x, .int y, .int z]) ++ List.replicate (4 - (lg_sl ([.ref (a 0), .int x, .int y, .int z])).length) Slot.unset).toArray = ls at hl ⊢
  have hl : lv_has ls 4 [(0, .ref (a 0)), (1, .int x), (2, .int y), (3, .int z)] := hl
  refine tq_gen (fun R Q hRe hQe => ?_)
  have hRf : 5 ≤ R.frames := by rw [hRe]; exact Nat.le_of_ble_eq_true rfl
  have hRl : 118 ≤ R.locals := by rw [hRe]; exact Nat.le_of_ble_eq_true rfl
  have hRc : 0 ≤ R.cells := by rw [hRe]; exact Nat.le_of_ble_eq_true rfl
  have hRs : 0 ≤ R.slots := by rw [hRe]; exact Nat.le_of_ble_eq_true rfl
  have hD := mA_D hD0
  have hN := mt_N hta
  have hz : m_th (u.2.2 1) x = false ∨ m_th 6 y = false ∨ m_th (u.2.2 1) z = false := by
    rw [hN.1]
    exact hbad.imp th_f (fun z => z.imp th_f th_f)
  refine lv_aload_n hx hb dM_has_0 rfl (lv_at hl 0 rfl) ?_
  refine lv_aload_n hx hb dM_has_1 rfl (lv_at hl 0 rfl) ?_
  refine lv_iload_n hx hb dM_has_2 rfl (lv_at hl 1 rfl) ?_
  refine ks_rv ⟨hx, hb, hml, hown, hA⟩ (m_isThere l D a kI kL kZ u x (by omega)) (kw_M_66 hA rfl rfl ⟨Nat.le_trans (Nat.le_of_ble_eq_true rfl) hRf, Nat.le_trans (Nat.le_of_ble_eq_true rfl) hRl⟩) hK hP hS 0 5 rfl rfl rfl hl.1 (Nat.le_of_ble_eq_true rfl) ⟨by omega, by omega⟩ dM_has_3 rfl (fun H locs hP hS => ?_)
  refine tq_i (y := bI (m_th (u.2.2 1) x)) rfl ?_
  refine tq_bf hx hb dM_has_6 (tgt := 24) (by decide) (fun h6 => ?_) (fun h6 => ?_)
  · refine lv_iconst (v := nI 1) hx hb dM_has_24 (by decide +kernel) ?_
    refine lv_goto hx hb dM_has_25 (tgt := 29) (by decide) ?_
    refine ks_i (wf := mW a kI kL kZ) (u := u) ⟨hx, hb, hml, hown, hA⟩ (m_fails1 l D a kI kL kZ u ) (kw_M_70 hA rfl rfl ⟨Nat.le_trans (Nat.le_of_ble_eq_true rfl) hRf, Nat.le_trans (Nat.le_of_ble_eq_true rfl) hRl⟩) hK hP hD hS (fun _ h => h) (fun u' => mW_adr u') 0 5 rfl rfl rfl hl.1 (Nat.le_of_ble_eq_true rfl) ⟨by omega, by omega⟩ dM_has_29 rfl (fun r1 u1 H locs hu1 hP hD hS => ?_)
    refine tq_i hu1.1 ?_
    have htau1 : m_tab u1 N kd fa fb T so xa xb xc := by rw [hu1.2]; exact hta
    have hNu1 := mt_N htau1
    refine tq_zeq hx hb dM_has_32 (tgt := 37) (by decide) (by omega) (fun h32 => ?_) (fun h32 => ?_)
    · omega
    · refine lv_iconst (v := nI 0) hx hb dM_has_35 (by decide +kernel) ?_
      subst hQe
      exact W.zret (v := nI 0) (ty := .boolean) hx hb hr rfl (fun t ht hW => ⟨⟨_, u1, rfl, hu1.2, tq_hp ht hP⟩, hS.F ht⟩) hS.2.2 dM_has_36
  · refine lv_iload_n hx hb dM_has_9 rfl (lv_at hl 2 rfl) ?_
    refine ks_s ⟨hx, hb, hml, hown, hA⟩ (m_isRole l y) (kw_M_74 hA rfl rfl ⟨Nat.le_trans (Nat.le_of_ble_eq_true rfl) hRf, Nat.le_trans (Nat.le_of_ble_eq_true rfl) hRl⟩) hP hS rfl hl.1 (Nat.le_of_ble_eq_true rfl) ⟨by omega, by omega⟩ dM_has_10 rfl (fun H locs hP hS => ?_)
    refine tq_bf hx hb dM_has_13 (tgt := 24) (by decide) (fun h13 => ?_) (fun h13 => ?_)
    · refine lv_iconst (v := nI 1) hx hb dM_has_24 (by decide +kernel) ?_
      refine lv_goto hx hb dM_has_25 (tgt := 29) (by decide) ?_
      refine ks_i (wf := mW a kI kL kZ) (u := u) ⟨hx, hb, hml, hown, hA⟩ (m_fails1 l D a kI kL kZ u ) (kw_M_70 hA rfl rfl ⟨Nat.le_trans (Nat.le_of_ble_eq_true rfl) hRf, Nat.le_trans (Nat.le_of_ble_eq_true rfl) hRl⟩) hK hP hD hS (fun _ h => h) (fun u' => mW_adr u') 0 5 rfl rfl rfl hl.1 (Nat.le_of_ble_eq_true rfl) ⟨by omega, by omega⟩ dM_has_29 rfl (fun r2 u2 H locs hu2 hP hD hS => ?_)
      refine tq_i hu2.1 ?_
      have htau2 : m_tab u2 N kd fa fb T so xa xb xc := by rw [hu2.2]; exact hta
      have hNu2 := mt_N htau2
      refine tq_zeq hx hb dM_has_32 (tgt := 37) (by decide) (by omega) (fun h32 => ?_) (fun h32 => ?_)
      · omega
      · refine lv_iconst (v := nI 0) hx hb dM_has_35 (by decide +kernel) ?_
        subst hQe
        exact W.zret (v := nI 0) (ty := .boolean) hx hb hr rfl (fun t ht hW => ⟨⟨_, u2, rfl, hu2.2, tq_hp ht hP⟩, hS.F ht⟩) hS.2.2 dM_has_36
    · refine lv_aload_n hx hb dM_has_16 rfl (lv_at hl 0 rfl) ?_
      refine lv_iload_n hx hb dM_has_17 rfl (lv_at hl 3 rfl) ?_
      refine ks_rv ⟨hx, hb, hml, hown, hA⟩ (m_isThere l D a kI kL kZ u z (by omega)) (kw_M_66 hA rfl rfl ⟨Nat.le_trans (Nat.le_of_ble_eq_true rfl) hRf, Nat.le_trans (Nat.le_of_ble_eq_true rfl) hRl⟩) hK hP hS 0 5 rfl rfl rfl hl.1 (Nat.le_of_ble_eq_true rfl) ⟨by omega, by omega⟩ dM_has_18 rfl (fun H locs hP hS => ?_)
      refine tq_i (y := bI (m_th (u.2.2 1) z)) rfl ?_
      refine tq_bt hx hb dM_has_21 (tgt := 28) (by decide) (fun h21 => ?_) (fun h21 => ?_)
      · rw [h6, h13, h21] at hz
        exact absurd hz (by decide)
      · refine lv_iconst (v := nI 1) hx hb dM_has_24 (by decide +kernel) ?_
        refine lv_goto hx hb dM_has_25 (tgt := 29) (by decide) ?_
        refine ks_i (wf := mW a kI kL kZ) (u := u) ⟨hx, hb, hml, hown, hA⟩ (m_fails1 l D a kI kL kZ u ) (kw_M_70 hA rfl rfl ⟨Nat.le_trans (Nat.le_of_ble_eq_true rfl) hRf, Nat.le_trans (Nat.le_of_ble_eq_true rfl) hRl⟩) hK hP hD hS (fun _ h => h) (fun u' => mW_adr u') 0 5 rfl rfl rfl hl.1 (Nat.le_of_ble_eq_true rfl) ⟨by omega, by omega⟩ dM_has_29 rfl (fun r3 u3 H locs hu3 hP hD hS => ?_)
        refine tq_i hu3.1 ?_
        have htau3 : m_tab u3 N kd fa fb T so xa xb xc := by rw [hu3.2]; exact hta
        have hNu3 := mt_N htau3
        refine tq_zeq hx hb dM_has_32 (tgt := 37) (by decide) (by omega) (fun h32 => ?_) (fun h32 => ?_)
        · omega
        · refine lv_iconst (v := nI 0) hx hb dM_has_35 (by decide +kernel) ?_
          subst hQe
          exact W.zret (v := nI 0) (ty := .boolean) hx hb hr rfl (fun t ht hW => ⟨⟨_, u3, rfl, hu3.2, tq_hp ht hP⟩, hS.F ht⟩) hS.2.2 dM_has_36
def m_frc (u : sU) (T : Nat) (F : Nat → Prop) : Prop := (∀ k, F k → 1 ≤ k ∧ k ≤ T) ∧ ∀ k, 1 ≤ k → k ≤ T → u.2.1 7 k = bI (dB (F k))
theorem frc_lo {T : Nat} {F : Nat → Prop} {x : Int32} (hF : ∀ k, F k → 1 ≤ k ∧ k ≤ T) (hT : T ≤ 100) (h : x < nI 1 ∨ nI T < x) : ∀ k, x = nI k → ¬ F k := fun k e z => by
  have := hF k z
  subst e
  rw [Int32.lt_iff_toInt_lt, Int32.lt_iff_toInt_lt, nI_toInt (by omega), nI_toInt (by omega), nI_toInt (by omega)] at h
  omega
theorem frc_no {T : Nat} {F : Nat → Prop} {k : Nat} (hF : ∀ k, F k → 1 ≤ k ∧ k ≤ T) (hT : T ≤ 100) (hk : k ≤ T) (h : dB (F k) = false) : ∀ j, nI k = nI j → ¬ F j := fun j e z => by
  have := hF j z
  have e2 := (nI_eq (by omega) (by omega)).mp e
  rw [e2] at h
  exact dB_f.mp h z
set_option maxHeartbeats 4000000 in
set_option maxRecDepth 100000 in
/-- m_retract -/
theorem m_retract (l : Launch) (D : va_G) (a : Nat → Nat) (kI kL kZ : ClassId) (u : sU) (N : Nat) (kd fa fb : Nat → Nat) (T : Nat) (so xa xb xc : Nat → Nat) (hta : m_tab u N kd fa fb T so xa xb xc) (F : Nat → Prop) (hF : m_frc u T F) (x : Int32) : Met l yM_retract (wM_retract :: wA) ({ frames := 0, cells := 0, slots := 0, locals := 0 }) (va_Pc [.ref (a 0), .int x] (tq_wB D vwA (mW a kI kL kZ u) (sT kI kL kZ))) (va_Qi (fun r (u' : sU) => (r = bI false ∧ (∀ k, x = nI k → ¬ F k) ∧ u' = m_thr u 0) ∨ (∃ k, x = nI k ∧ F k ∧ r = bI true ∧ u' = m_back u k)) (fun u' t => va_P D vwA (mW a kI kL kZ u') t.heap) (mA a)) 0 0 (mA a) := by
  refine Met.ofW (cc := bM_retract) (maxL := 2) (ret := (some .boolean)) (by decide +kernel) rfl ?_
  intro p e s m args below meth c s₁ B1 hml hv
  obtain ⟨rfl, hP, hK, hD0⟩ := hv
  have hx := B1.exec
  have hb := B1.bytes
  have hr := B1.returns
  have hA : ∀ w ∈ wA, w.before ([.ref (a 0), .int x] : List Value).toArray s = true := fun w h => atoms_spec (ws := wM_retract :: wA) B1.pre w (List.mem_cons_of_mem _ h)
  have hown : s.vm.findClass RcM = some m.cls := findClass_of_methodNamed B1.named
  have hlocks := B1.notSynchronized
  have hS : va_S (mA a) s.heap s.heap [] := va_S.rf
  have hl := lv_entry ([.ref (a 0), .int x]) (n := 2) (Nat.le_of_ble_eq_true rfl)
  rw [lg_entry_eq]
  generalize (lg_sl ([.ref (a 0), .int x]) ++ List.replicate (2 - (lg_sl ([.ref (a 0), .int x])).length) Slot.unset).toArray = ls at hl ⊢
  have hl : lv_has ls 2 [(0, .ref (a 0)), (1, .int x)] := hl
  refine tq_gen (fun R Q hRe hQe => ?_)
  have hRf : 0 ≤ R.frames := by rw [hRe]; exact Nat.le_of_ble_eq_true rfl
  have hRl : 0 ≤ R.locals := by rw [hRe]; exact Nat.le_of_ble_eq_true rfl
  have hRc : 0 ≤ R.cells := by rw [hRe]; exact Nat.le_of_ble_eq_true rfl
  have hRs : 0 ≤ R.slots := by rw [hRe]; exact Nat.le_of_ble_eq_true rfl
  have hD := mA_D hD0
  have hN := mt_N hta
  refine lv_aload_n hx hb dM_retract_0 rfl (lv_at hl 0 rfl) ?_
  refine lv_iconst (v := nI 0) hx hb dM_retract_1 (by decide +kernel) ?_
  refine pf_M_55 (v := .int (nI 0)) hx hb hA hown hK hP hD hS 0 rfl rfl rfl (Nat.le_of_ble_eq_true rfl) dM_retract_2 (fun H locs hP hD hS => ?_)
  have hP : va_P D vwA (mW a kI kL kZ (u.1, u.2.1, va_up u.2.2 0 0)) H := hP
  have hD : va_D (mA a) (mW a kI kL kZ (u.1, u.2.1, va_up u.2.2 0 0)) := hD
  refine lv_iload_n hx hb dM_retract_5 rfl (lv_at hl 1 rfl) ?_
  refine lv_iconst (v := nI 1) hx hb dM_retract_6 (by decide +kernel) ?_
  refine lv_icmp_lt hx hb dM_retract_7 (tgt := 27) (by decide) (fun h7 => ?_) (fun h7 => ?_)
  · have hno := frc_lo hF.1 hN.2.2.2.2 (Or.inl h7)
    refine lv_iconst (v := nI 0) hx hb dM_retract_27 (by decide +kernel) ?_
    subst hQe
    exact W.zret (v := nI 0) (ty := .boolean) hx hb hr rfl (fun t ht hW => ⟨⟨_, (u.1, u.2.1, va_up u.2.2 0 0), rfl, Or.inl ⟨rfl, hno, rfl⟩, tq_hp ht hP⟩, hS.F ht⟩) hS.2.2 dM_retract_28
  · refine lv_iload_n hx hb dM_retract_10 rfl (lv_at hl 1 rfl) ?_
    refine lv_aload_n hx hb dM_retract_11 rfl (lv_at hl 0 rfl) ?_
    refine gf_M_77 (v := .int (nI (u.2.2 2))) hx hb hA hown hK hP 0 rfl rfl dM_retract_12 ?_
    refine lv_icmp_gt hx hb dM_retract_15 (tgt := 27) (by decide) (fun h15 => ?_) (fun h15 => ?_)
    · have hno : ∀ k, x = nI k → ¬ F k := frc_lo hF.1 hN.2.2.2.2 (Or.inr (by rw [← hN.2.2.2.1]; exact h15))
      refine lv_iconst (v := nI 0) hx hb dM_retract_27 (by decide +kernel) ?_
      subst hQe
      exact W.zret (v := nI 0) (ty := .boolean) hx hb hr rfl (fun t ht hW => ⟨⟨_, (u.1, u.2.1, va_up u.2.2 0 0), rfl, Or.inl ⟨rfl, hno, rfl⟩, tq_hp ht hP⟩, hS.F ht⟩) hS.2.2 dM_retract_28
    · obtain ⟨k, hk1, hk2, rfl⟩ := tq_le1 (by omega) h7 h15
      refine lv_aload_n hx hb dM_retract_18 rfl (lv_at hl 0 rfl) ?_
      refine gf_M_35 (v := .ref (a 8)) hx hb hA hown hK hP 0 rfl rfl dM_retract_19 ?_
      refine lv_iload_n hx hb dM_retract_22 rfl (lv_at hl 1 rfl) ?_
      refine tq_zald hx hb hK hP 8 2 rfl rfl (by omega) (by omega) dM_retract_23 ?_
      refine tq_i (hF.2 k hk1 (by omega)) ?_
      refine tq_bt hx hb dM_retract_24 (tgt := 29) (by decide) (fun h24 => ?_) (fun h24 => ?_)
      · refine lv_aload_n hx hb dM_retract_29 rfl (lv_at hl 0 rfl) ?_
        refine gf_M_35 (v := .ref (a 8)) hx hb hA hown hK hP 0 rfl rfl dM_retract_30 ?_
        refine lv_iload_n hx hb dM_retract_33 rfl (lv_at hl 1 rfl) ?_
        refine lv_iconst (v := nI 0) hx hb dM_retract_34 (by decide +kernel) ?_
        refine tq_zast hx hb hK hP hD hS 8 2 rfl rfl (by omega) (by omega) (by first | rfl | decide | exact tq_nzv _) dM_retract_35 (fun H locs hP hD hS => ?_)
        have hP : va_P D vwA (mW a kI kL kZ (u.1, va_up u.2.1 7 (upd (u.2.1 7) k (nI 0)), va_up u.2.2 0 0)) H := hP
        have hD : va_D (mA a) (mW a kI kL kZ (u.1, va_up u.2.1 7 (upd (u.2.1 7) k (nI 0)), va_up u.2.2 0 0)) := hD
        refine lv_aload_n hx hb dM_retract_36 rfl (lv_at hl 0 rfl) ?_
        refine lv_iconst (v := nI 0) hx hb dM_retract_37 (by decide +kernel) ?_
        refine pf_M_58 (v := .int (nI 0)) hx hb hA hown hK hP hD hS 0 rfl rfl rfl (Nat.le_of_ble_eq_true rfl) dM_retract_38 (fun H locs hP hD hS => ?_)
        have hP : va_P D vwA (mW a kI kL kZ (u.1, va_up u.2.1 7 (upd (u.2.1 7) k (nI 0)), va_up (va_up u.2.2 0 0) 3 0)) H := hP
        have hD : va_D (mA a) (mW a kI kL kZ (u.1, va_up u.2.1 7 (upd (u.2.1 7) k (nI 0)), va_up (va_up u.2.2 0 0) 3 0)) := hD
        refine lv_iconst (v := nI 1) hx hb dM_retract_41 (by decide +kernel) ?_
        subst hQe
        exact W.zret (v := nI 1) (ty := .boolean) hx hb hr rfl (fun t ht hW => ⟨⟨_, (u.1, va_up u.2.1 7 (upd (u.2.1 7) k (nI 0)), va_up (va_up u.2.2 0 0) 3 0), rfl, Or.inr ⟨k, rfl, dB_iff.mp h24, rfl, rfl⟩, tq_hp ht hP⟩, hS.F ht⟩) hS.2.2 dM_retract_42
      · have hno : ∀ j, nI k = nI j → ¬ F j := frc_no hF.1 hN.2.2.2.2 (by omega) h24
        refine lv_iconst (v := nI 0) hx hb dM_retract_27 (by decide +kernel) ?_
        subst hQe
        exact W.zret (v := nI 0) (ty := .boolean) hx hb hr rfl (fun t ht hW => ⟨⟨_, (u.1, u.2.1, va_up u.2.2 0 0), rfl, Or.inl ⟨rfl, hno, rfl⟩, tq_hp ht hP⟩, hS.F ht⟩) hS.2.2 dM_retract_28
set_option maxHeartbeats 4000000 in
set_option maxRecDepth 100000 in
/-- m_reason -/
theorem m_reason (l : Launch) (D : va_G) (a : Nat → Nat) (kI kL kZ : ClassId) (u : sU) (x : Int32) (hM : u.2.2 5 ≤ 100) : Met l yM_reason (wM_reason :: wA) ({ frames := 0, cells := 0, slots := 0, locals := 0 }) (va_Pc [.ref (a 0), .int x] (tq_wB D vwA (mW a kI kL kZ u) (sT kI kL kZ))) (va_Qi (fun r (u' : sU) => ((∃ k, k < u.2.2 5 ∧ x = nI k ∧ r = u.2.1 9 k) ∨ (r = -1 ∧ ∀ k, k < u.2.2 5 → ¬ x = nI k)) ∧ u' = m_thr u 0) (fun u' t => va_P D vwA (mW a kI kL kZ u') t.heap) (mA a)) 0 0 (mA a) := by
  refine Met.ofW (cc := bM_reason) (maxL := 2) (ret := (some .int)) (by decide +kernel) rfl ?_
  intro p e s m args below meth c s₁ B1 hml hv
  obtain ⟨rfl, hP, hK, hD0⟩ := hv
  have hx := B1.exec
  have hb := B1.bytes
  have hr := B1.returns
  have hA : ∀ w ∈ wA, w.before ([.ref (a 0), .int x] : List Value).toArray s = true := fun w h => atoms_spec (ws := wM_reason :: wA) B1.pre w (List.mem_cons_of_mem _ h)
  have hown : s.vm.findClass RcM = some m.cls := findClass_of_methodNamed B1.named
  have hlocks := B1.notSynchronized
  have hS : va_S (mA a) s.heap s.heap [] := va_S.rf
  have hl := lv_entry ([.ref (a 0), .int x]) (n := 2) (Nat.le_of_ble_eq_true rfl)
  rw [lg_entry_eq]
  generalize (lg_sl ([.ref (a 0), .int x]) ++ List.replicate (2 - (lg_sl ([.ref (a 0), .int x])).length) Slot.unset).toArray = ls at hl ⊢
  have hl : lv_has ls 2 [(0, .ref (a 0)), (1, .int x)] := hl
  refine tq_gen (fun R Q hRe hQe => ?_)
  have hRf : 0 ≤ R.frames := by rw [hRe]; exact Nat.le_of_ble_eq_true rfl
  have hRl : 0 ≤ R.locals := by rw [hRe]; exact Nat.le_of_ble_eq_true rfl
  have hRc : 0 ≤ R.cells := by rw [hRe]; exact Nat.le_of_ble_eq_true rfl
  have hRs : 0 ≤ R.slots := by rw [hRe]; exact Nat.le_of_ble_eq_true rfl
  have hD := mA_D hD0
  refine lv_aload_n hx hb dM_reason_0 rfl (lv_at hl 0 rfl) ?_
  refine lv_iconst (v := nI 0) hx hb dM_reason_1 (by decide +kernel) ?_
  refine pf_M_55 (v := .int (nI 0)) hx hb hA hown hK hP hD hS 0 rfl rfl rfl (Nat.le_of_ble_eq_true rfl) dM_reason_2 (fun H locs hP hD hS => ?_)
  have hP : va_P D vwA (mW a kI kL kZ (u.1, u.2.1, va_up u.2.2 0 0)) H := hP
  have hD : va_D (mA a) (mW a kI kL kZ (u.1, u.2.1, va_up u.2.2 0 0)) := hD
  refine lv_iload_n hx hb dM_reason_5 rfl (lv_at hl 1 rfl) ?_
  refine lv_if_lt hx hb dM_reason_6 (tgt := 26) (by decide) (fun h6 => ?_) (fun h6 => ?_)
  · refine lv_iconst (v := (-1)) hx hb dM_reason_26 (by decide +kernel) ?_
    subst hQe
    exact W.iret (v := (-1)) hx hb hr (fun t ht hW => ⟨⟨_, (u.1, u.2.1, va_up u.2.2 0 0), rfl, ⟨Or.inr ⟨rfl, tq_out (by first | exact Or.inl h6 | exact Or.inr h14) (by omega)⟩, rfl⟩, tq_hp ht hP⟩, hS.F ht⟩) hS.2.2 dM_reason_27
  · refine lv_iload_n hx hb dM_reason_9 rfl (lv_at hl 1 rfl) ?_
    refine lv_aload_n hx hb dM_reason_10 rfl (lv_at hl 0 rfl) ?_
    refine gf_M_141 (v := .int (nI (u.2.2 5))) hx hb hA hown hK hP 0 rfl rfl dM_reason_11 ?_
    refine lv_icmp_ge hx hb dM_reason_14 (tgt := 26) (by decide) (fun h14 => ?_) (fun h14 => ?_)
    · refine lv_iconst (v := (-1)) hx hb dM_reason_26 (by decide +kernel) ?_
      subst hQe
      exact W.iret (v := (-1)) hx hb hr (fun t ht hW => ⟨⟨_, (u.1, u.2.1, va_up u.2.2 0 0), rfl, ⟨Or.inr ⟨rfl, tq_out (by first | exact Or.inl h6 | exact Or.inr h14) (by omega)⟩, rfl⟩, tq_hp ht hP⟩, hS.F ht⟩) hS.2.2 dM_reason_27
    · obtain ⟨k, hk1, rfl⟩ := tq_in h6 h14 (by omega)
      refine lv_aload_n hx hb dM_reason_17 rfl (lv_at hl 0 rfl) ?_
      refine gf_M_52 (v := .ref (a 13)) hx hb hA hown hK hP 0 rfl rfl dM_reason_18 ?_
      refine lv_iload_n hx hb dM_reason_21 rfl (lv_at hl 1 rfl) ?_
      refine tq_iald hx hb hK hP 13 0 rfl rfl (by omega) (by omega) dM_reason_22 ?_
      refine lv_goto hx hb dM_reason_23 (tgt := 27) (by decide) ?_
      subst hQe
      exact W.iret (v := (u.2.1 9) k) hx hb hr (fun t ht hW => ⟨⟨_, (u.1, u.2.1, va_up u.2.2 0 0), rfl, ⟨Or.inl ⟨k, hk1, rfl, rfl⟩, rfl⟩, tq_hp ht hP⟩, hS.F ht⟩) hS.2.2 dM_reason_27
