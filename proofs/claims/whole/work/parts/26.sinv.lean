/-! The class between calls: what its tables say of the run so far (N descriptions, T axioms, F those in force, M reasons rs); what each change does to that. -/
def s_inv (u : sU) (N : Nat) (kd fa fb : Nat → Nat) (T : Nat) (so xa xb xc : Nat → Nat) (F : Nat → Prop) (M : Nat) (rs : Nat → Nat) : Prop :=
  s_cinv u N kd fa fb T so xa xb xc ∧ (kd 0 = 0 ∧ kd 1 = 0) ∧ u.2.2 1 = tm_cnt (fun k => decide (kd k = 1)) N ∧ u.2.2 3 = tm_cnt (fun k => dB (F k)) (T + 1) ∧ (∀ k, x_inf u k ↔ F k) ∧ (∀ k, T ≤ k → u.2.1 8 k = 0) ∧ u.2.2 7 = M ∧ M ≤ 100 ∧ ∀ i, i < M → u.2.1 9 (M - 1 - i) = nI (rs i)
theorem Sat_congr {n : Nat} {kd fa fb kd' fa' fb' : Nat → Nat} {TA TR : Nat → Nat → Prop} {TC : Nat → Nat → Nat → Prop} {F Q : Nat → Nat → Nat → Prop} (h : tm_Sat n kd fa fb TA TR TC F Q) (hk : ∀ k, k < n → kd' k = kd k ∧ fa' k = fa k ∧ fb' k = fb k) : tm_Sat n kd' fa' fb' TA TR TC F Q := by
  obtain ⟨h1, h2, h3, h4, h5, h6, h7, h8, h9⟩ := h
  refine ⟨h1, fun c k hk' hd => ?_, fun c k hk' hd => ?_, fun c k hk' hd => ?_, fun c y k hk' hd => ?_, h6, h7, h8, h9⟩
  · obtain ⟨e1, e2, e3⟩ := hk k hk'
    rw [e2, e3]
    exact h2 c k hk' (by rw [← e1]; exact hd)
  · obtain ⟨e1, e2, e3⟩ := hk k hk'
    rw [e2, e3]
    exact h3 c k hk' (by rw [← e1]; exact hd)
  · obtain ⟨e1, e2, e3⟩ := hk k hk'
    rw [e2, e3]
    exact h4 c k hk' (by rw [← e1]; exact hd)
  · obtain ⟨e1, e2, e3⟩ := hk k hk'
    rw [e2, e3]
    exact h5 c y k hk' (by rw [← e1]; exact hd)
section SI
variable {u v w : sU} {N : Nat} {kd fa fb : Nat → Nat} {T : Nat} {so xa xb xc : Nat → Nat} {F : Nat → Prop} {M : Nat} {rs : Nat → Nat}
/-- one description more -/
theorem cinv_grow {kd' fa' fb' : Nat → Nat} (h : s_cinv u N kd fa fb T so xa xb xc) (htm : s_tm v (N + 1) kd' fa' fb') (hk : ∀ k, k < N → kd' k = kd k ∧ fa' k = fa k ∧ fb' k = fb k)
    (e1 : ∀ i, i < 7 → v.1 i = u.1 i) (e2 : ∀ i, 4 ≤ i → i ≤ 8 → v.2.1 i = u.2.1 i) (e3 : v.2.2 2 = u.2.2 2 ∧ v.2.2 4 = u.2.2 4 ∧ v.2.2 5 = u.2.2 5 ∧ v.2.2 6 = u.2.2 6) : s_cinv v (N + 1) kd' fa' fb' T so xa xb xc := by
  obtain ⟨⟨b1, b2, b3, b4, b5, ⟨t1, t2, t3⟩, b7⟩, c2, c3, c4, c5, c6, c7⟩ := h
  obtain ⟨f2, f4, f5, f6⟩ := e3
  have eA : TAu v = TAu u := by unfold TAu; rw [e1 4 (by decide)]
  have eR : TRu v = TRu u := by unfold TRu; rw [e1 5 (by decide)]
  have eC : TCu v = TCu u := by unfold TCu; rw [e1 6 (by decide)]
  have eF : FF v = FF u := by unfold FF; rw [e1 0 (by decide)]
  have eQ : QQ v = QQ u := by unfold QQ; rw [e1 2 (by decide)]
  have ei : x_inf v = x_inf u := by unfold x_inf; rw [e2 8 (by decide) (by decide), f2]
  refine ⟨⟨htm, ?_, ?_, ?_, ?_, ⟨?_, ?_, ?_⟩, ?_⟩, ?_, ?_, by omega, by omega, by omega, fun h6 => ?_⟩
  · unfold s_tr
    rw [e1 0 (by decide), e1 1 (by decide)]
    exact b2
  · intro y b z
    rw [e1 0 (by decide)] at z
    have := b3 y b z
    omega
  · rw [e1 0 (by decide), e1 2 (by decide)]
    exact b4
  · rw [e1 0 (by decide), e1 3 (by decide)]
    exact b5
  · intro a b z
    rw [e1 4 (by decide)] at z
    have := t1 a b z
    omega
  · rw [e1 5 (by decide)]
    exact t2
  · rw [e1 6 (by decide)]
    exact t3
  · unfold s_beg
    rw [e1 0 (by decide)]
    exact b7
  · rw [e1 2 (by decide)]
    exact c2
  · unfold s_ax
    rw [e2 4 (by decide) (by decide), e2 5 (by decide) (by decide), e2 6 (by decide) (by decide), e2 7 (by decide) (by decide), f2]
    refine ⟨c3.1, c3.2.1, fun k k1 k2 => ?_⟩
    obtain ⟨d1, d2, d3, d4, d5, d6, d7⟩ := c3.2.2 k k1 k2
    exact ⟨d1, d2, d3, d4, fun z => by have := d5 z; omega, d6, d7⟩
  · obtain ⟨g1, g2, g3, U, g4, g5, g6⟩ := c7 (f6 ▸ h6)
    rw [eA, eR, eC, eF, eQ, f4, f5]
    refine ⟨Sat_congr g1 (fun k z => hk k (by omega)), ?_, fun y b z => ?_, U, ?_, by rw [ei]; exact g5, by rw [ei]; exact g6⟩
    · unfold s_adm
      rw [e1 0 (by decide), e1 2 (by decide)]
      exact g2
    · rw [e1 0 (by decide)] at z
      rw [eA, eR, eC]
      exact gB_mono (Nat.le_succ N) hk (fun _ _ q => q) (fun _ _ q => q) (fun _ _ _ q => q) (g3 y b z)
    · unfold s_told
      rw [e1 4 (by decide), e1 5 (by decide), e1 6 (by decide)]
      exact g4
theorem up_old {f : Nat → Nat} {x k : Nat} (h : k < N) : va_up f N x k = f k := va_up_ne _ _ (by omega)
theorem upd_self {f : Nat → Int32} {i : Nat} {x : Int32} : upd f i x i = x := by simp [upd]
theorem upd_ne {f : Nat → Int32} {i j : Nat} {x : Int32} (h : ¬ j = i) : upd f i x j = f j := by simp [upd, h]
/-- a name -/
theorem tmk_name (h : s_tm u N kd fa fb) (hN : N < 160) : s_tm (s_name u) (N + 1) (va_up kd N 1) fa fb := by
  obtain ⟨h0, h1, h2, h3, h4, h5, h6, h7, h8, h9⟩ := h
  have k0 : ∀ k, k < N + 1 → ¬ k = N → va_up kd N 1 k = kd k := fun k _ z => va_up_ne _ _ z
  have e0 : va_up kd N 1 N = 1 := va_up_self _ _ _
  refine ⟨?_, by omega, by omega, fun k hk => ?_, fun k hk q => ?_, fun k hk q => ?_, fun d b hd hb => ?_, fun i d hi hd => ?_, fun i d hi hd => ?_, fun k j hk hj q1 q2 q3 q4 => ?_⟩
  · show u.2.2 0 + 1 = N + 1
    omega
  · show upd (u.2.1 0) (u.2.2 0) (nI 1) k = _ ∧ _
    rw [h0]
    by_cases z : k = N
    · rw [z, upd_self, e0]
      exact ⟨rfl, by decide⟩
    · rw [upd_ne z, k0 k hk z]
      exact h3 k (by omega)
  · have z : ¬ k = N := fun z => by rw [z, e0] at q; omega
    rw [k0 k hk z] at q
    show upd (u.2.1 1) (u.2.2 0) (-1) k = _ ∧ upd (u.2.1 2) (u.2.2 0) (-1) k = _ ∧ _
    rw [h0, upd_ne z, upd_ne z]
    have := h4 k (by omega) q
    exact ⟨this.1, this.2.1, by omega, by omega⟩
  · have z : ¬ k = N := fun z => by rw [z, e0] at q; omega
    rw [k0 k hk z] at q
    show upd (u.2.1 1) (u.2.2 0) (-1) k = _ ∧ upd (u.2.1 2) (u.2.2 0) (-1) k = _ ∧ _
    rw [h0, upd_ne z, upd_ne z]
    have := h5 k (by omega) q
    exact ⟨this.1, this.2.1, by omega, by omega⟩
  · show u.1 7 d b = true ↔ _
    rw [h6 d b hd hb]
    constructor
    · rintro ⟨q1, q2, q3⟩
      exact ⟨by omega, by rw [k0 b (by omega) (by omega)]; exact q2, q3⟩
    · rintro ⟨q1, q2, q3⟩
      have z : ¬ b = N := fun z => by rw [z, e0] at q2; omega
      rw [k0 b q1 z] at q2
      exact ⟨by omega, q2, q3⟩
  · show (u.2.1 3 (i * 160 + d) = -1 ∧ _) ∨ ∃ k, _ ∧ _ ∧ _ ∧ _ ∧ u.2.1 3 (i * 160 + d) = nI k
    rcases h7 i d hi hd with ⟨q1, q2⟩ | ⟨k, q1, q2, q3⟩
    · refine Or.inl ⟨q1, fun k hk q => ?_⟩
      have z : ¬ k = N := fun z => by rw [z, e0] at q; omega
      rw [k0 k hk z] at q
      exact q2 k (by omega) q
    · exact Or.inr ⟨k, by omega, by rw [k0 k (by omega) (by omega)]; exact q2, q3⟩
  · show u.1 8 i d = true ↔ _
    rw [h8 i d hi hd]
    constructor
    · rintro ⟨k, q1, q2, q3⟩
      exact ⟨k, by omega, by rw [k0 k (by omega) (by omega)]; exact q2, q3⟩
    · rintro ⟨k, q1, q2, q3⟩
      have z : ¬ k = N := fun z => by rw [z, e0] at q2; omega
      rw [k0 k q1 z] at q2
      exact ⟨k, by omega, q2, q3⟩
  · have z : ¬ k = N := fun z => by rw [z, e0] at q2; omega
    have z2 : ¬ j = N := fun z => by rw [q1, z, e0] at q2; omega
    rw [k0 k hk z] at q1 q2
    rw [k0 j hj z2] at q1
    exact h9 k j (by omega) (by omega) q1 q2 q3 q4
theorem cnt_in {p q : Nat → Bool} {n : Nat} (h : ∀ i, i < n → q i = p i) (hn : q n = true) : tm_cnt q (n + 1) = tm_cnt p n + 1 := by rw [cnt_yes hn, cnt_congr h]
theorem cnt_out {p q : Nat → Bool} {n : Nat} (h : ∀ i, i < n → q i = p i) (hn : q n = false) : tm_cnt q (n + 1) = tm_cnt p n := by rw [cnt_no hn, cnt_congr h]
theorem kd_cnt {x : Nat} (i : Nat) (hi : i < N) : (fun k => decide (va_up kd N x k = 1)) i = (fun k => decide (kd k = 1)) i := by
  show decide (va_up kd N x i = 1) = decide (kd i = 1)
  rw [up_old hi]
theorem inv_name (h : s_inv u N kd fa fb T so xa xb xc F M rs) (hN : N < 160) : s_inv (s_name u) (N + 1) (va_up kd N 1) fa fb T so xa xb xc F M rs := by
  obtain ⟨h1, h2, h3, h4, h5, h6, h7, h8, h9⟩ := h
  have htm := h1.1.1
  have h20 := (tm_N htm).2.1
  refine ⟨cinv_grow h1 (tmk_name htm hN) (fun k hk => ⟨up_old hk, rfl, rfl⟩) (fun i hi => rfl) (fun i a b => ?_) ⟨rfl, rfl, rfl, rfl⟩, ⟨by rw [up_old (by omega)]; exact h2.1, by rw [up_old (by omega)]; exact h2.2⟩, ?_, h4, h5, h6, h7, h8, h9⟩
  · show va_up (va_up (va_up u.2.1 0 _) 1 _) 2 _ i = _
    rw [va_up_ne _ _ (by omega), va_up_ne _ _ (by omega), va_up_ne _ _ (by omega)]
  · show u.2.2 1 + 1 = _
    rw [cnt_in (p := fun k => decide (kd k = 1)) kd_cnt (by show decide _ = true; rw [va_up_self]; rfl), h3]
/-- a BOTH -/
theorem tmk_both {x y : Nat} (h : s_tm u N kd fa fb) (hN : N < 160) (hx : x < N) (hy : y < N) (hno : ∀ k, k < N → kd k = 2 → ¬ (fa k = x ∧ fb k = y)) : s_tm (s_both u x y) (N + 1) (va_up kd N 2) (va_up fa N x) (va_up fb N y) := by
  obtain ⟨h0, h1, h2, h3, h4, h5, h6, h7, h8, h9⟩ := h
  have k0 : ∀ k, k < N → va_up kd N 2 k = kd k ∧ va_up fa N x k = fa k ∧ va_up fb N y k = fb k := fun k z => ⟨up_old z, up_old z, up_old z⟩
  have e0 : va_up kd N 2 N = 2 := va_up_self _ _ _
  have e1 : va_up fa N x N = x := va_up_self _ _ _
  have e2 : va_up fb N y N = y := va_up_self _ _ _
  have lt : ∀ k, k < N + 1 → ¬ k = N → k < N := fun k a b => by omega
  refine ⟨?_, by omega, by omega, fun k hk => ?_, fun k hk q => ?_, fun k hk q => ?_, fun d b hd hb => ?_, fun i d hi hd => ?_, fun i d hi hd => ?_, fun k j hk hj q1 q2 q3 q4 => ?_⟩
  · show u.2.2 0 + 1 = N + 1
    omega
  · show upd (u.2.1 0) (u.2.2 0) (nI 2) k = _ ∧ _
    rw [h0]
    by_cases z : k = N
    · rw [z, upd_self, e0]
      exact ⟨rfl, by decide⟩
    · rw [upd_ne z, (k0 k (lt k hk z)).1]
      exact h3 k (by omega)
  · show upd (u.2.1 1) (u.2.2 0) (nI x) k = _ ∧ upd (u.2.1 2) (u.2.2 0) (nI y) k = _ ∧ _
    rw [h0]
    by_cases z : k = N
    · rw [z, upd_self, upd_self, e1, e2]
      exact ⟨rfl, rfl, by omega, by omega⟩
    · obtain ⟨a1, a2, a3⟩ := k0 k (lt k hk z)
      rw [a1] at q
      rw [upd_ne z, upd_ne z, a2, a3]
      have := h4 k (by omega) q
      exact ⟨this.1, this.2.1, by omega, by omega⟩
  · show upd (u.2.1 1) (u.2.2 0) (nI x) k = _ ∧ upd (u.2.1 2) (u.2.2 0) (nI y) k = _ ∧ _
    have z : ¬ k = N := fun z => by rw [z, e0] at q; omega
    obtain ⟨a1, a2, a3⟩ := k0 k (lt k hk z)
    rw [a1] at q
    rw [h0, upd_ne z, upd_ne z, a2, a3]
    have := h5 k (by omega) q
    exact ⟨this.1, this.2.1, by omega, by omega⟩
  · show tm_put (tm_put (u.1 7) x (u.2.2 0)) y (u.2.2 0) d b = true ↔ _
    rw [tm_put_iff, tm_put_iff, h0, h6 d b hd hb]
    constructor
    · rintro ((⟨q1, q2, q3⟩ | ⟨q1, q2⟩) | ⟨q1, q2⟩)
      · obtain ⟨a1, a2, a3⟩ := k0 b q1
        exact ⟨by omega, by rw [a1]; exact q2, by rw [a2, a3]; exact q3⟩
      · rw [q2, e0, e1, e2]
        exact ⟨by omega, rfl, Or.inl q1.symm⟩
      · rw [q2, e0, e1, e2]
        exact ⟨by omega, rfl, Or.inr q1.symm⟩
    · rintro ⟨q1, q2, q3⟩
      by_cases z : b = N
      · rw [z, e1, e2] at q3
        rcases q3 with q3 | q3
        · exact Or.inl (Or.inr ⟨q3.symm, z⟩)
        · exact Or.inr ⟨q3.symm, z⟩
      · obtain ⟨a1, a2, a3⟩ := k0 b (lt b q1 z)
        rw [a1] at q2
        rw [a2, a3] at q3
        exact Or.inl (Or.inl ⟨lt b q1 z, q2, q3⟩)
  · show (u.2.1 3 (i * 160 + d) = -1 ∧ _) ∨ ∃ k, _ ∧ _ ∧ _ ∧ _ ∧ u.2.1 3 (i * 160 + d) = nI k
    rcases h7 i d hi hd with ⟨q1, q2⟩ | ⟨k, q1, q2, q3, q4, q5⟩
    · refine Or.inl ⟨q1, fun k hk q => ?_⟩
      have z : ¬ k = N := fun z => by rw [z, e0] at q; omega
      obtain ⟨a1, a2, a3⟩ := k0 k (lt k hk z)
      rw [a1] at q
      rw [a2, a3]
      exact q2 k (by omega) q
    · obtain ⟨a1, a2, a3⟩ := k0 k q1
      exact Or.inr ⟨k, by omega, by rw [a1]; exact q2, by rw [a2]; exact q3, by rw [a3]; exact q4, q5⟩
  · show u.1 8 i d = true ↔ _
    rw [h8 i d hi hd]
    constructor
    · rintro ⟨k, q1, q2, q3, q4⟩
      obtain ⟨a1, a2, a3⟩ := k0 k q1
      exact ⟨k, by omega, by rw [a1]; exact q2, by rw [a2]; exact q3, by rw [a3]; exact q4⟩
    · rintro ⟨k, q1, q2, q3, q4⟩
      have z : ¬ k = N := fun z => by rw [z, e0] at q2; omega
      obtain ⟨a1, a2, a3⟩ := k0 k (lt k q1 z)
      rw [a1] at q2
      rw [a2] at q3
      rw [a3] at q4
      exact ⟨k, lt k q1 z, q2, q3, q4⟩
  · by_cases z : k = N
    · by_cases z2 : j = N
      · omega
      · obtain ⟨a1, a2, a3⟩ := k0 j (lt j hj z2)
        rw [z, e0, a1] at q1
        rw [z, e1, a2] at q3
        rw [z, e2, a3] at q4
        exact absurd ⟨q3.symm, q4.symm⟩ (hno j (lt j hj z2) q1.symm)
    · obtain ⟨a1, a2, a3⟩ := k0 k (lt k hk z)
      rw [a1] at q1 q2
      rw [a2] at q3
      rw [a3] at q4
      by_cases z2 : j = N
      · rw [z2, e0] at q1
        rw [z2, e1] at q3
        rw [z2, e2] at q4
        exact absurd ⟨q3, q4⟩ (hno k (lt k hk z) q1)
      · obtain ⟨b1, b2, b3⟩ := k0 j (lt j hj z2)
        rw [b1] at q1
        rw [b2] at q3
        rw [b3] at q4
        exact h9 k j (lt k hk z) (lt j hj z2) q1 q2 q3 q4
theorem inv_both {x y : Nat} (h : s_inv u N kd fa fb T so xa xb xc F M rs) (hN : N < 160) (hx : x < N) (hy : y < N) (hno : ∀ k, k < N → kd k = 2 → ¬ (fa k = x ∧ fb k = y)) : s_inv (s_both u x y) (N + 1) (va_up kd N 2) (va_up fa N x) (va_up fb N y) T so xa xb xc F M rs := by
  obtain ⟨h1, h2, h3, h4, h5, h6, h7, h8, h9⟩ := h
  have htm := h1.1.1
  have h20 := (tm_N htm).2.1
  refine ⟨cinv_grow h1 (tmk_both htm hN hx hy hno) (fun k hk => ⟨up_old hk, up_old hk, up_old hk⟩) (fun i hi => va_up_ne _ _ (by omega)) (fun i a b => ?_) ⟨rfl, rfl, rfl, rfl⟩, ⟨by rw [up_old (by omega)]; exact h2.1, by rw [up_old (by omega)]; exact h2.2⟩, ?_, h4, h5, h6, h7, h8, h9⟩
  · show va_up (va_up (va_up u.2.1 0 _) 1 _) 2 _ i = _
    rw [va_up_ne _ _ (by omega), va_up_ne _ _ (by omega), va_up_ne _ _ (by omega)]
  · show u.2.2 1 = _
    rw [cnt_out (p := fun k => decide (kd k = 1)) kd_cnt (by show decide _ = false; rw [va_up_self]; rfl), h3]
/-- a SOME -/
theorem tmk_some {x y : Nat} (h : s_tm u N kd fa fb) (hN : N < 160) (hx : x < 6) (hy : y < N) (hno : ∀ k, k < N → kd k = 3 → ¬ (fa k = x ∧ fb k = y)) : s_tm (s_some u x y) (N + 1) (va_up kd N 3) (va_up fa N x) (va_up fb N y) := by
  obtain ⟨h0, h1, h2, h3, h4, h5, h6, h7, h8, h9⟩ := h
  have k0 : ∀ k, k < N → va_up kd N 3 k = kd k ∧ va_up fa N x k = fa k ∧ va_up fb N y k = fb k := fun k z => ⟨up_old z, up_old z, up_old z⟩
  have e0 : va_up kd N 3 N = 3 := va_up_self _ _ _
  have e1 : va_up fa N x N = x := va_up_self _ _ _
  have e2 : va_up fb N y N = y := va_up_self _ _ _
  have lt : ∀ k, k < N + 1 → ¬ k = N → k < N := fun k a b => by omega
  refine ⟨?_, by omega, by omega, fun k hk => ?_, fun k hk q => ?_, fun k hk q => ?_, fun d b hd hb => ?_, fun i d hi hd => ?_, fun i d hi hd => ?_, fun k j hk hj q1 q2 q3 q4 => ?_⟩
  · show u.2.2 0 + 1 = N + 1
    omega
  · show upd (u.2.1 0) (u.2.2 0) (nI 3) k = _ ∧ _
    rw [h0]
    by_cases z : k = N
    · rw [z, upd_self, e0]
      exact ⟨rfl, by decide⟩
    · rw [upd_ne z, (k0 k (lt k hk z)).1]
      exact h3 k (by omega)
  · show upd (u.2.1 1) (u.2.2 0) (nI x) k = _ ∧ upd (u.2.1 2) (u.2.2 0) (nI y) k = _ ∧ _
    have z : ¬ k = N := fun z => by rw [z, e0] at q; omega
    obtain ⟨a1, a2, a3⟩ := k0 k (lt k hk z)
    rw [a1] at q
    rw [h0, upd_ne z, upd_ne z, a2, a3]
    have := h4 k (by omega) q
    exact ⟨this.1, this.2.1, by omega, by omega⟩
  · show upd (u.2.1 1) (u.2.2 0) (nI x) k = _ ∧ upd (u.2.1 2) (u.2.2 0) (nI y) k = _ ∧ _
    rw [h0]
    by_cases z : k = N
    · rw [z, upd_self, upd_self, e1, e2]
      exact ⟨rfl, rfl, by omega, by omega⟩
    · obtain ⟨a1, a2, a3⟩ := k0 k (lt k hk z)
      rw [a1] at q
      rw [upd_ne z, upd_ne z, a2, a3]
      have := h5 k (by omega) q
      exact ⟨this.1, this.2.1, by omega, by omega⟩
  · show u.1 7 d b = true ↔ _
    rw [h6 d b hd hb]
    constructor
    · rintro ⟨q1, q2, q3⟩
      obtain ⟨a1, a2, a3⟩ := k0 b q1
      exact ⟨by omega, by rw [a1]; exact q2, by rw [a2, a3]; exact q3⟩
    · rintro ⟨q1, q2, q3⟩
      have z : ¬ b = N := fun z => by rw [z, e0] at q2; omega
      obtain ⟨a1, a2, a3⟩ := k0 b (lt b q1 z)
      rw [a1] at q2
      rw [a2, a3] at q3
      exact ⟨lt b q1 z, q2, q3⟩
  · show (upd (u.2.1 3) (x * 160 + y) (nI (u.2.2 0)) (i * 160 + d) = -1 ∧ _) ∨ ∃ k, _ ∧ _ ∧ _ ∧ _ ∧ upd (u.2.1 3) (x * 160 + y) (nI (u.2.2 0)) (i * 160 + d) = nI k
    by_cases z : i = x ∧ d = y
    · rw [z.1, z.2, upd_self, h0]
      exact Or.inr ⟨N, by omega, e0, e1, e2, rfl⟩
    · rw [upd_ne (fun w => z (by omega))]
      rcases h7 i d hi hd with ⟨q1, q2⟩ | ⟨k, q1, q2, q3, q4, q5⟩
      · refine Or.inl ⟨q1, fun k hk q w => ?_⟩
        by_cases c : k = N
        · rw [c, e1, e2] at w
          exact z ⟨w.1.symm, w.2.symm⟩
        · obtain ⟨a1, a2, a3⟩ := k0 k (lt k hk c)
          rw [a1] at q
          rw [a2, a3] at w
          exact q2 k (lt k hk c) q w
      · obtain ⟨a1, a2, a3⟩ := k0 k q1
        exact Or.inr ⟨k, by omega, by rw [a1]; exact q2, by rw [a2]; exact q3, by rw [a3]; exact q4, q5⟩
  · show tm_put (u.1 8) x y i d = true ↔ _
    rw [tm_put_iff, h8 i d hi hd]
    constructor
    · rintro (⟨k, q1, q2, q3, q4⟩ | ⟨q1, q2⟩)
      · obtain ⟨a1, a2, a3⟩ := k0 k q1
        exact ⟨k, by omega, by rw [a1]; exact q2, by rw [a2]; exact q3, by rw [a3]; exact q4⟩
      · exact ⟨N, by omega, e0, by rw [e1]; exact q1.symm, by rw [e2]; exact q2.symm⟩
    · rintro ⟨k, q1, q2, q3, q4⟩
      by_cases z : k = N
      · rw [z, e1] at q3
        rw [z, e2] at q4
        exact Or.inr ⟨q3.symm, q4.symm⟩
      · obtain ⟨a1, a2, a3⟩ := k0 k (lt k q1 z)
        rw [a1] at q2
        rw [a2] at q3
        rw [a3] at q4
        exact Or.inl ⟨k, lt k q1 z, q2, q3, q4⟩
  · by_cases z : k = N
    · by_cases z2 : j = N
      · omega
      · obtain ⟨a1, a2, a3⟩ := k0 j (lt j hj z2)
        rw [z, e0, a1] at q1
        rw [z, e1, a2] at q3
        rw [z, e2, a3] at q4
        exact absurd ⟨q3.symm, q4.symm⟩ (hno j (lt j hj z2) q1.symm)
    · obtain ⟨a1, a2, a3⟩ := k0 k (lt k hk z)
      rw [a1] at q1 q2
      rw [a2] at q3
      rw [a3] at q4
      by_cases z2 : j = N
      · rw [z2, e0] at q1
        rw [z2, e1] at q3
        rw [z2, e2] at q4
        exact absurd ⟨q3, q4⟩ (hno k (lt k hk z) q1)
      · obtain ⟨b1, b2, b3⟩ := k0 j (lt j hj z2)
        rw [b1] at q1
        rw [b2] at q3
        rw [b3] at q4
        exact h9 k j (lt k hk z) (lt j hj z2) q1 q2 q3 q4
theorem inv_some {x y : Nat} (h : s_inv u N kd fa fb T so xa xb xc F M rs) (hN : N < 160) (hx : x < 6) (hy : y < N) (hno : ∀ k, k < N → kd k = 3 → ¬ (fa k = x ∧ fb k = y)) : s_inv (s_some u x y) (N + 1) (va_up kd N 3) (va_up fa N x) (va_up fb N y) T so xa xb xc F M rs := by
  obtain ⟨h1, h2, h3, h4, h5, h6, h7, h8, h9⟩ := h
  have htm := h1.1.1
  have h20 := (tm_N htm).2.1
  refine ⟨cinv_grow h1 (tmk_some htm hN hx hy hno) (fun k hk => ⟨up_old hk, up_old hk, up_old hk⟩) (fun i hi => va_up_ne _ _ (by omega)) (fun i a b => ?_) ⟨rfl, rfl, rfl, rfl⟩, ⟨by rw [up_old (by omega)]; exact h2.1, by rw [up_old (by omega)]; exact h2.2⟩, ?_, h4, h5, h6, h7, h8, h9⟩
  · show va_up (va_up (va_up (va_up u.2.1 0 _) 1 _) 2 _) 3 _ i = _
    rw [va_up_ne _ _ (by omega), va_up_ne _ _ (by omega), va_up_ne _ _ (by omega), va_up_ne _ _ (by omega)]
  · show u.2.2 1 = _
    rw [cnt_out (p := fun k => decide (kd k = 1)) kd_cnt (by show decide _ = false; rw [va_up_self]; rfl), h3]
/-- an axiom told -/
theorem told_so {so' xa' xb' xc' : Nat → Nat} {U : Nat → Prop} (h : s_told u so xa xb xc U) (e : ∀ k, U k → so' k = so k ∧ xa' k = xa k ∧ xb' k = xb k ∧ xc' k = xc k) : s_told u so' xa' xb' xc' U := by
  have a : ∀ x y, x_TA so' xa' xb' U x y ↔ x_TA so xa xb U x y := fun x y => by
    constructor
    · rintro ⟨k, z1, z2⟩
      obtain ⟨q1, q2, q3, q4⟩ := e k z1
      rw [q1, q2, q3] at z2
      exact ⟨k, z1, z2⟩
    · rintro ⟨k, z1, z2⟩
      obtain ⟨q1, q2, q3, q4⟩ := e k z1
      exact ⟨k, z1, by rw [q1, q2, q3]; exact z2⟩
  have b : ∀ x y, x_TR so' xa' xb' U x y ↔ x_TR so xa xb U x y := fun x y => by
    constructor
    · rintro ⟨k, z1, z2⟩
      obtain ⟨q1, q2, q3, q4⟩ := e k z1
      rw [q1, q2, q3] at z2
      exact ⟨k, z1, z2⟩
    · rintro ⟨k, z1, z2⟩
      obtain ⟨q1, q2, q3, q4⟩ := e k z1
      exact ⟨k, z1, by rw [q1, q2, q3]; exact z2⟩
  have c : ∀ x y z, x_TC so' xa' xb' xc' U x y z ↔ x_TC so xa xb xc U x y z := fun x y z => by
    constructor
    · rintro ⟨k, z1, z2⟩
      obtain ⟨q1, q2, q3, q4⟩ := e k z1
      rw [q1, q2, q3, q4] at z2
      exact ⟨k, z1, z2⟩
    · rintro ⟨k, z1, z2⟩
      obtain ⟨q1, q2, q3, q4⟩ := e k z1
      exact ⟨k, z1, by rw [q1, q2, q3, q4]; exact z2⟩
  exact ⟨fun x y => (h.1 x y).trans (a x y).symm, fun x y => (h.2.1 x y).trans (b x y).symm, fun x y z q1 q2 => (h.2.2 x y z q1 q2).trans (c x y z).symm⟩
theorem inv_tell {g x y z : Nat} {z' : Int32} (h : s_inv u N kd fa fb T so xa xb xc F M rs) (hT : T < 100) (hg : g ≤ 3) (h01 : g ≤ 1 → x < N ∧ y < N) (h23 : 2 ≤ g → x < 6 ∧ y < 6) (h3' : g = 3 → z' = nI z ∧ z < 6) :
    s_inv (s_tell u (nI g) (nI x) (nI y) z') N kd fa fb (T + 1) (va_up so (T + 1) g) (va_up xa (T + 1) x) (va_up xb (T + 1) y) (va_up xc (T + 1) z) (fun k => F k ∨ k = T + 1) M rs := by
  obtain ⟨⟨c1, c2, c3, c4, c5, c6, c7⟩, h2, h3, h4, h5, h6, h7, h8, h9⟩ := h
  have eT : u.2.2 2 = T := c3.1
  have hF : ∀ k, F k → 1 ≤ k ∧ k ≤ T := fun k q => ⟨((h5 k).mpr q).1, by have := ((h5 k).mpr q).2.1; omega⟩
  have hi : ∀ k, x_inf (s_tell u (nI g) (nI x) (nI y) z') k ↔ F k ∨ k = T + 1 := fun k => by
    show (1 ≤ k ∧ k ≤ u.2.2 2 + 1 ∧ u.2.1 8 (k - 1) = 0) ↔ _
    constructor
    · rintro ⟨q1, q2, q3⟩
      by_cases q : k = T + 1
      · exact Or.inr q
      · exact Or.inl ((h5 k).mp ⟨q1, by omega, q3⟩)
    · rintro (q | q)
      · obtain ⟨q1, q2, q3⟩ := (h5 k).mpr q
        exact ⟨q1, by omega, q3⟩
      · exact ⟨by omega, by omega, h6 _ (by omega)⟩
  refine ⟨⟨c1, c2, ⟨?_, by omega, fun k k1 k2 => ?_⟩, c4, ?_, c6, fun q6 => ?_⟩, h2, h3, ?_, hi, fun k q => h6 k (by omega), h7, h8, h9⟩
  · show u.2.2 2 + 1 = T + 1
    omega
  · show upd (u.2.1 4) (u.2.2 2) (nI g) (k - 1) = _ ∧ _ ∧ upd (u.2.1 5) (u.2.2 2) (nI x) (k - 1) = _ ∧ upd (u.2.1 6) (u.2.2 2) (nI y) (k - 1) = _ ∧ _ ∧ _ ∧ (_ → upd (u.2.1 7) (u.2.2 2) z' (k - 1) = _ ∧ _)
    rw [eT]
    by_cases q : k = T + 1
    · rw [show k - 1 = T by omega, upd_self, upd_self, upd_self, upd_self, q, va_up_self, va_up_self, va_up_self, va_up_self]
      exact ⟨rfl, hg, rfl, rfl, h01, h23, h3'⟩
    · have q2 : ¬ k - 1 = T := by omega
      rw [upd_ne q2, upd_ne q2, upd_ne q2, upd_ne q2, va_up_ne _ _ q, va_up_ne _ _ q, va_up_ne _ _ q, va_up_ne _ _ q]
      exact c3.2.2 k k1 (by omega)
  · show u.2.2 5 ≤ T + 1
    omega
  · obtain ⟨g1, g2, g3, U, g4, g5, g6⟩ := c7 q6
    refine ⟨g1, g2, g3, U, told_so g4 (fun k q => ?_), fun k q => ?_, fun k q1 q2 => ?_⟩
    · have := hF k ((h5 k).mp (g5 k q))
      have q : ¬ k = T + 1 := by omega
      exact ⟨va_up_ne _ _ q, va_up_ne _ _ q, va_up_ne _ _ q, va_up_ne _ _ q⟩
    · exact (hi k).mpr (Or.inl ((h5 k).mp (g5 k q)))
    · have q1 : k ≤ u.2.2 5 := q1
      rcases (hi k).mp q2 with q | q
      · exact g6 k q1 ((h5 k).mpr q)
      · omega
  · show u.2.2 3 + 1 = tm_cnt (fun k => dB (F k ∨ k = T + 1)) (T + 1 + 1)
    rw [cnt_in (p := fun k => dB (F k)) (q := fun k => dB (F k ∨ k = T + 1)) (n := T + 1) (fun i q => dB_congr ⟨fun w => w.elim id (fun w => by omega), Or.inl⟩) (dB_iff.mpr (Or.inr rfl)), h4]
/-- an axiom taken back -/
theorem cnt_drop {p q : Nat → Bool} {k : Nat} (hk : p k = true) (hq : q k = false) (he : ∀ i, ¬ i = k → q i = p i) : ∀ {n : Nat}, k < n → tm_cnt q n + 1 = tm_cnt p n
  | 0, h => absurd h (Nat.not_lt_zero k)
  | n + 1, h => by
    show tm_cnt q n + (if q n then 1 else 0) + 1 = tm_cnt p n + (if p n then 1 else 0)
    by_cases c : k = n
    · subst c
      rw [hk, hq, cnt_congr (fun i hi => he i (by omega))]
      rfl
    · have := cnt_drop hk hq he (n := n) (by omega)
      rw [he n (fun z => c z.symm)]
      omega
theorem inv_back {k : Nat} (h : s_inv u N kd fa fb T so xa xb xc F M rs) (hk : F k) : s_inv (s_spoil (s_back u k)) N kd fa fb T so xa xb xc (fun j => F j ∧ ¬ j = k) M rs := by
  obtain ⟨⟨c1, c2, c3, c4, c5, c6, c7⟩, h2, h3, h4, h5, h6, h7, h8, h9⟩ := h
  have eT : u.2.2 2 = T := c3.1
  obtain ⟨k1, k2, k3⟩ := (h5 k).mpr hk
  refine ⟨⟨c1, c2, c3, c4, c5, Nat.le_refl _, fun q => absurd (show (1 : Nat) = 0 from q) (by decide)⟩, h2, h3, ?_, fun j => ?_, fun j q => ?_, h7, h8, h9⟩
  · show u.2.2 3 - 1 = tm_cnt (fun j => dB (F j ∧ ¬ j = k)) (T + 1)
    have := cnt_drop (p := fun j => dB (F j)) (q := fun j => dB (F j ∧ ¬ j = k)) (k := k) (dB_iff.mpr hk) (dB_f.mpr (fun z => z.2 rfl)) (fun i hi => dB_congr ⟨fun z => z.1, fun z => ⟨z, hi⟩⟩) (n := T + 1) (by omega)
    omega
  · show (1 ≤ j ∧ j ≤ u.2.2 2 ∧ upd (u.2.1 8) (k - 1) (nI 1) (j - 1) = 0) ↔ _
    by_cases c : j = k
    · rw [c, upd_self]
      exact ⟨fun z => absurd z.2.2 (by decide), fun z => absurd rfl z.2⟩
    · constructor
      · rintro ⟨q1, q2, q3⟩
        rw [upd_ne (by omega)] at q3
        exact ⟨(h5 j).mp ⟨q1, q2, q3⟩, c⟩
      · rintro ⟨q, _⟩
        obtain ⟨q1, q2, q3⟩ := (h5 j).mpr q
        rw [upd_ne (by omega)]
        exact ⟨q1, q2, q3⟩
  · show upd (u.2.1 8) (k - 1) (nI 1) j = 0
    rw [upd_ne (by omega)]
    exact h6 j q
/-- all is drawn -/
theorem inv_full (h : s_inv u N kd fa fb T so xa xb xc F M rs) (k : s_full u v N kd fa fb T so xa xb xc) : s_inv v N kd fa fb T so xa xb xc F M rs := by
  obtain ⟨h1, h2, h3, h4, h5, h6, h7, h8, h9⟩ := h
  have e1 := k.2.2.2.2.2.1
  have e2 := k.2.2.2.2.2.2.1
  refine ⟨full_cinv h1 k, h2, by rw [e2 1 (by decide) (by decide) (by decide)]; exact h3, by rw [e2 3 (by decide) (by decide) (by decide)]; exact h4, fun j => ?_, by rw [e1]; exact h6, by rw [e2 7 (by decide) (by decide) (by decide)]; exact h7, h8, by rw [e1]; exact h9⟩
  rw [inf_of e1 (e2 2 (by decide) (by decide) (by decide))]
  exact h5 j
theorem inv_keep {M' : Nat} {rs' : Nat → Nat} (h : s_inv u N kd fa fb T so xa xb xc F M rs) (hc : s_cinv v N kd fa fb T so xa xb xc) (k : s_keep u v) (e7 : v.2.2 7 = M') (hM : M' ≤ 100) (hr : ∀ i, i < M' → v.2.1 9 (M' - 1 - i) = nI (rs' i)) : s_inv v N kd fa fb T so xa xb xc F M' rs' := by
  obtain ⟨h1, h2, h3, h4, h5, h6, h7, h8, h9⟩ := h
  refine ⟨hc, h2, by rw [k.2 1 (by decide) (by decide) (by decide) (by decide)]; exact h3, by rw [k.2 3 (by decide) (by decide) (by decide) (by decide)]; exact h4, fun j => by rw [keep_inf k]; exact h5 j, by rw [k.1 8 (by decide)]; exact h6, e7, hM, hr⟩
end SI
