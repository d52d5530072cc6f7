/-! Calls without an answer that only read; what the public methods answer, by the tables. -/
theorem nI_nn {k : Nat} (h : k < 2 ^ 31) : ¬ nI k < (0 : Int32) := fun z => by
  rw [Int32.lt_iff_toInt_lt, nI_toInt h] at z
  have : (0 : Int32).toInt = 0 := by decide
  omega
section KN
variable {p : Program} {l : Launch} {e : Env} {R : Room} {s : State} {m : MethodId} {args : Array Value} {below : List Frame} {meth : Method} {c : Code} {H : Heap} {locs : List Loc} {cells slots : Nat} {Q : State → Prop}
variable {cc bytes : ByteArray} {pc nL index maxL n : Nat} {ret : Option FieldType} {wy : List Cond} {rm : Room} {y : MethodName} {ls : Array Slot} {rest st0 As : List Value} {D : va_G} {A : Nat → Prop} {tys : List (ClassId × FieldType)} {ws : va_W} {H0 : Heap} {own C : String} {b : Nat} {a : Array Value}
theorem tq_rdn (hr : va_Run p l e R s m args below meth c H locs cells slots 0 0 (F0 m pc ls st0) rest (va_Qv (fun (_ : Unit) => True) (fun _ _ => True) (fun _ => False) a) (fun _ => False)) (hS : va_S A H0 H locs) (hP : va_P D vwA ws H)
    (kk : ∀ (H1 : Heap) (locs1 : List Loc), va_P D vwA ws H1 → va_S A H0 H1 locs1 → W p l e R s m args below meth c H1 locs1 cells slots Q (F0 m (pc + 3) ls rest)) : W p l e R s m args below meth c H locs cells slots Q (F0 m pc ls st0) :=
  va_callv hr hS (fun _ _ h => h.elim) (fun _ h => h.elim) (fun _ _ H1 locs1 _ _ _ _ _ hk hS1 => kk H1 locs1 (hP.kept (fun k q hq => hk q.1 (hP k q hq).lt (fun z => z))) hS1)
theorem ks_rn (S : CallFix p m c cc nL s args wA own) (hM : Met l y wy rm (va_Pc (.ref b :: As) (tq_rB D vwA ws tys)) (va_Qv (fun (_ : Unit) => True) (fun _ _ => True) (fun _ => False)) 0 0 (fun _ => False)) (cw : CallW R s args own C index y bytes maxL ret wy rm 0 0 n) (hK : va_K D vwA tys s) (hP : va_P D vwA ws H) (hS : va_S A H0 H locs)
    (i ci : Nat) {fs : List Value} {T : u_T} {N : Nat} (hi : ws[i]? = some (b, .inr (ci, fs))) (hc : vwA[ci]? = some (C, T, N)) (hn : As.length = n) (hls : ls.size = nL) (hroom : (rest.map fun v => v.category).sum ≤ 8) (hcs : cells + 0 ≤ R.cells ∧ slots + 0 ≤ R.slots) (hdg : decode cc pc = .ok (.invokevirtual index, 3)) (hst : st0 = As.reverse ++ .ref b :: rest)
    (kk : ∀ (H1 : Heap) (locs1 : List Loc), va_P D vwA ws H1 → va_S A H0 H1 locs1 → W p l e R s m args below meth c H1 locs1 cells slots Q (F0 m (pc + 3) ls rest)) : W p l e R s m args below meth c H locs cells slots Q (F0 m pc ls st0) :=
  tq_rdn (va_runV (As := As) (rest := rest) S hM cw ⟨tq_rB_blind, va_recv hK hP (q := (C, T, N)) hc hi, fun U hU hW => ⟨rfl, by rw [hU]; exact hP, va_K.moved hW.alike hK⟩⟩ rfl hn hls hst (lv_room hroom) hdg hcs) hS hP kk
theorem ks_sn (S : CallFix p m c cc nL s args wA own) (hM : Met l y wy rm (va_Pc As (fun _ => True)) (va_Qv (fun (_ : Unit) => True) (fun _ _ => True) (fun _ => False)) 0 0 (fun _ => False)) (cw : CallB R s args own index y bytes maxL ret wy rm 0 0 n ∧ (Cond.static y).before args s = true) (hP : va_P D vwA ws H) (hS : va_S A H0 H locs)
    (hn : As.length = n) (hls : ls.size = nL) (hroom : (rest.map fun v => v.category).sum ≤ 8) (hcs : cells + 0 ≤ R.cells ∧ slots + 0 ≤ R.slots) (hdg : decode cc pc = .ok (.invokestatic index, 3)) (hst : st0 = As.reverse ++ rest)
    (kk : ∀ (H1 : Heap) (locs1 : List Loc), va_P D vwA ws H1 → va_S A H0 H1 locs1 → W p l e R s m args below meth c H1 locs1 cells slots Q (F0 m (pc + 3) ls rest)) : W p l e R s m args below meth c H locs cells slots Q (F0 m pc ls st0) :=
  tq_rdn (va_runS (As := As) (rest := rest) S hM cw ⟨fun _ _ _ _ q => q, fun U hU hW => ⟨rfl, trivial⟩⟩ rfl hn hls hst (lv_room hroom) hdg hcs) hS hP kk
end KN
theorem s_inf_t {u : sU} {x : Int32} (h : s_inf u x = true) (hT : u.2.2 2 ≤ 100) : ∃ k, 1 ≤ k ∧ k ≤ u.2.2 2 ∧ x = nI k ∧ x_inf u k := by
  unfold s_inf at h
  rw [Bool.and_eq_true, decide_eq_true_iff, decide_eq_true_iff] at h
  obtain ⟨⟨h1, h2⟩, h3⟩ := h
  refine ⟨x.toInt.toNat, by omega, by omega, Int32.toInt_inj.mp ?_, by omega, by omega, h3⟩
  rw [nI_toInt (by omega)]
  omega
/-- the i-th of those with p, below N -/
def q_sup (p : Nat → Bool) (N : Nat) (i r : Int32) : Prop := (∃ k, k < N ∧ p k = true ∧ nI (tm_cnt p k) = i ∧ r = nI k) ∨ (r = -1 ∧ ∀ k, k < N → p k = true → ¬ nI (tm_cnt p k) = i)
theorem sup_congr {p q : Nat → Bool} {N : Nat} {i r : Int32} (h : ∀ k, k < N → p k = q k) : q_sup p N i r ↔ q_sup q N i r := by
  have e : ∀ k, k < N → tm_cnt p k = tm_cnt q k := fun k hk => cnt_congr (fun j hj => h j (by omega))
  constructor
  · rintro (⟨k, h1, h2, h3, h4⟩ | ⟨h1, h2⟩)
    · exact Or.inl ⟨k, h1, by rw [← h k h1]; exact h2, by rw [← e k h1]; exact h3, h4⟩
    · exact Or.inr ⟨h1, fun k z1 z2 => by rw [← e k z1]; exact h2 k z1 (by rw [h k z1]; exact z2)⟩
  · rintro (⟨k, h1, h2, h3, h4⟩ | ⟨h1, h2⟩)
    · exact Or.inl ⟨k, h1, by rw [h k h1]; exact h2, by rw [e k h1]; exact h3, h4⟩
    · exact Or.inr ⟨h1, fun k z1 z2 => by rw [e k z1]; exact h2 k z1 (by rw [← h k z1]; exact z2)⟩
theorem sup_uniq {p : Nat → Bool} {N : Nat} {i r r2 : Int32} (hN : N ≤ 160) (h : q_sup p N i r) (h2 : q_sup p N i r2) : r = r2 := by
  have le := tm_cnt_le p
  rcases h with ⟨k, a1, a2, a3, a4⟩ | ⟨a1, a2⟩
  · rcases h2 with ⟨j, b1, b2, b3, b4⟩ | ⟨b1, b2⟩
    · have := le k
      have := le j
      have e := (nI_eq (by omega) (by omega)).mp (a3.trans b3.symm)
      rw [a4, b4, cnt_inj a2 b2 e]
    · exact absurd a3 (b2 k a1 a2)
  · rcases h2 with ⟨j, b1, b2, b3, b4⟩ | ⟨b1, b2⟩
    · exact absurd b3 (a2 j b1 b2)
    · rw [a1, b1]
noncomputable def s_dir (u : sU) (d d2 : Nat) : Bool := s_sb u d d2 && dB (∀ b, b < u.2.2 0 → ¬ (s_sb u d b = true ∧ s_sb u b d2 = true))
theorem s_dir_f0 {u : sU} {d d2 : Nat} (h : s_sb u d d2 = false) : s_dir u d d2 = false := by unfold s_dir; rw [h]; rfl
theorem s_dir_f {u : sU} {d d2 b : Nat} (hb : b < u.2.2 0) (h1 : s_sb u d b = true) (h2 : s_sb u b d2 = true) : s_dir u d d2 = false := by
  unfold s_dir
  rw [dB_f.mpr (fun z => z b hb ⟨h1, h2⟩), Bool.and_false]
theorem s_dir_t {u : sU} {d d2 : Nat} (h : s_sb u d d2 = true) (h2 : ∀ b, b < u.2.2 0 → ¬ (s_sb u d b = true ∧ s_sb u b d2 = true)) : s_dir u d d2 = true := by
  unfold s_dir
  rw [h, dB_iff.mpr h2]
  rfl
/-- findBoth, by the table of descriptions -/
def q_fb (N : Nat) (kd fa fb : Nat → Nat) (g x y : Nat) (r : Int32) : Prop := (∃ k, k < N ∧ kd k = g ∧ fa k = x ∧ fb k = y ∧ r = nI k) ∨ (r = -1 ∧ ∀ k, k < N → kd k = g → ¬ (fa k = x ∧ fb k = y))
theorem fb_of {u : sU} {N : Nat} {kd fa fb : Nat → Nat} {d d2 : Nat} {r : Int32} (h : s_tm u N kd fa fb) (hd : d < 160) (hd2 : d2 < 160)
    (hr : (∃ k, k < 160 ∧ u.1 7 d k = true ∧ (u.2.1 1 k = nI d ∧ u.2.1 2 k = nI d2) ∧ r = nI k) ∨ (r = -1 ∧ ∀ b, b < 160 → u.1 7 d b = true → ¬ (u.2.1 1 b = nI d ∧ u.2.1 2 b = nI d2))) : q_fb N kd fa fb 2 d d2 r := by
  have hN := tm_N h
  rcases hr with ⟨k, a1, a2, a3, a4⟩ | ⟨a1, a2⟩
  · obtain ⟨b1, b2, _⟩ := (tm_b h hd a1).mp a2
    obtain ⟨e1, e2, e3, e4⟩ := tm_2 h b1 b2
    refine Or.inl ⟨k, b1, b2, ?_, ?_, a4⟩
    · exact (nI_eq (by omega) (by omega)).mp (e1.symm.trans a3.1)
    · exact (nI_eq (by omega) (by omega)).mp (e2.symm.trans a3.2)
  · refine Or.inr ⟨a1, fun k z1 z2 z3 => ?_⟩
    obtain ⟨e1, e2, e3, e4⟩ := tm_2 h z1 z2
    exact a2 k (by omega) ((tm_b h hd (by omega)).mpr ⟨z1, z2, Or.inl z3.1⟩) ⟨by rw [e1, z3.1], by rw [e2, z3.2]⟩
theorem fs_of {u : sU} {N : Nat} {kd fa fb : Nat → Nat} {i d : Nat} (h : s_tm u N kd fa fb) (hi : i < 6) (hd : d < 160) : q_fb N kd fa fb 3 i d (u.2.1 3 (i * 160 + d)) := by
  rcases tm_s h hi hd with z | ⟨k, z1, z2, z3, z4, z5⟩
  · exact Or.inr z
  · exact Or.inl ⟨k, z1, z2, z3, z4, z5⟩
/-- a description that is there already, or made, or refused -/
def q_made (u u' w : sU) (N : Nat) (kd fa fb : Nat → Nat) (g x y : Nat) (r : Int32) : Prop :=
  (∃ k, k < N ∧ kd k = g ∧ fa k = x ∧ fb k = y ∧ r = nI k ∧ u' = u) ∨ ((∀ k, k < N → kd k = g → ¬ (fa k = x ∧ fb k = y)) ∧ ((N < 160 ∧ r = nI N ∧ u' = w) ∨ (¬ N < 160 ∧ r = -1 ∧ u' = u)))
theorem made_old {u w : sU} {N : Nat} {kd fa fb : Nat → Nat} {g x y : Nat} {r : Int32} (h : q_fb N kd fa fb g x y r) (hr : ¬ r = -1) : q_made u u w N kd fa fb g x y r := by
  rcases h with ⟨k, a1, a2, a3, a4, a5⟩ | ⟨a1, _⟩
  · exact Or.inl ⟨k, a1, a2, a3, a4, a5, rfl⟩
  · exact absurd a1 hr
theorem made_new {u u' w : sU} {N : Nat} {kd fa fb : Nat → Nat} {g x y : Nat} {r r2 : Int32} (h : q_fb N kd fa fb g x y r) (hr : r = -1) (hN : u.2.2 0 = N) (hN2 : N ≤ 160) (h2 : (u.2.2 0 < 160 → r2 = nI (u.2.2 0) ∧ u' = w) ∧ (¬ u.2.2 0 < 160 → r2 = -1 ∧ u' = u)) : q_made u u' w N kd fa fb g x y r2 := by
  rw [hN] at h2
  refine Or.inr ⟨?_, ?_⟩
  · rcases h with ⟨k, a1, a2, a3, a4, a5⟩ | ⟨_, a2⟩
    · exact absurd (a5.symm.trans hr) (tm_m1 (by omega))
    · exact a2
  · by_cases z : N < 160
    · exact Or.inl ⟨z, h2.1 z⟩
    · exact Or.inr ⟨z, h2.2 z⟩
