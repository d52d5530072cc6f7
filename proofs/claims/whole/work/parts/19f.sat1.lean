/-! Saturation: the invariant, one draw, the measure. -/
def FF (u : sU) (c r d : Nat) : Prop := r < 7 ∧ u.1 0 (c * 7 + r) d = true
def QQ (u : sU) (c r d : Nat) : Prop := r < 7 ∧ u.1 2 (c * 7 + r) d = true
def TAu (u : sU) (a b : Nat) : Prop := u.1 4 a b = true
def TRu (u : sU) (r s : Nat) : Prop := u.1 5 r s = true
def TCu (u : sU) (r s t : Nat) : Prop := r < 6 ∧ s < 6 ∧ u.1 6 (r * 6 + s) t = true
def s_beg (u : sU) (x : Nat) : Prop := u.1 0 (x * 7 + 6) x = true ∧ u.1 0 (x * 7 + 6) 0 = true
/-- what always holds of the closure's tables -/
def s_bas (u : sU) (N : Nat) (kd fa fb : Nat → Nat) : Prop :=
  s_tm u N kd fa fb ∧ s_tr u ∧ (∀ y b, u.1 0 y b = true → y < N * 7 ∧ b < N) ∧ (∀ y b, u.1 2 y b = true → u.1 0 y b = true) ∧ (∀ y, u.1 3 0 y = true → ∃ b, u.1 0 y b = true) ∧
  ((∀ a b, u.1 4 a b = true → a < N ∧ b < N) ∧ (∀ r s, u.1 5 r s = true → r < 6 ∧ s < 6) ∧ (∀ q t, u.1 6 q t = true → q < 36 ∧ t < 6)) ∧
  (∀ x r d, r < 7 → u.1 0 (x * 7 + r) d = true → s_beg u x)
def s_sat (u : sU) (N : Nat) (kd fa fb : Nat → Nat) : Prop := tm_Sat N kd fa fb (TAu u) (TRu u) (TCu u) (FF u) (QQ u)
/-- more facts, the told tables and all else the same -/
def s_gro (u v : sU) : Prop := (∀ y b, u.1 0 y b = true → v.1 0 y b = true) ∧ (∀ i, 4 ≤ i → v.1 i = u.1 i) ∧ v.2 = u.2
theorem gro_refl (u : sU) : s_gro u u := ⟨fun _ _ h => h, fun _ _ => rfl, rfl⟩
theorem gro_trans {u v w : sU} (h : s_gro u v) (k : s_gro v w) : s_gro u w := ⟨fun y b z => k.1 y b (h.1 y b z), fun i hi => (k.2.1 i hi).trans (h.2.1 i hi), k.2.2.trans h.2.2⟩
theorem gro_ext {u v : sU} (h : s_ext u v) : s_gro u v := ⟨h.1, h.2.2.2.2.2.1, h.2.2.2.2.2.2⟩
/-- sets of facts that are closed under all rules -/
def s_rules (u : sU) (N : Nat) (kd fa fb : Nat → Nat) (G : Nat → Nat → Prop) : Prop :=
  (∀ x a b, u.1 4 a b = true → G (x * 7 + 6) a → G (x * 7 + 6) b) ∧
  (∀ x k, k < N → kd k = 2 → G (x * 7 + 6) k → G (x * 7 + 6) (fa k) ∧ G (x * 7 + 6) (fb k)) ∧
  (∀ x k, k < N → kd k = 2 → G (x * 7 + 6) (fa k) → G (x * 7 + 6) (fb k) → G (x * 7 + 6) k) ∧
  (∀ x k, k < N → kd k = 3 → G (x * 7 + 6) k → G (x * 7 + fa k) (fb k)) ∧
  (∀ x y k, k < N → kd k = 3 → G (x * 7 + fa k) y → G (y * 7 + 6) (fb k) → G (x * 7 + 6) k) ∧
  (∀ x y r t, r < 6 → u.1 5 r t = true → G (x * 7 + r) y → G (x * 7 + t) y) ∧
  (∀ x y z r q t, r < 6 → q < 6 → u.1 6 (r * 6 + q) t = true → G (x * 7 + r) y → G (y * 7 + q) z → G (x * 7 + t) z) ∧
  (∀ x y r, r < 6 → G (x * 7 + r) y → G (y * 7 + 6) y ∧ G (y * 7 + 6) 0) ∧
  (∀ x y r, r < 6 → G (x * 7 + r) y → G (y * 7 + 6) 1 → G (x * 7 + 6) 1)
theorem rules_gro {u v : sU} {N : Nat} {kd fa fb : Nat → Nat} {G : Nat → Nat → Prop} (h : s_gro u v) : s_rules v N kd fa fb G ↔ s_rules u N kd fa fb G := by
  unfold s_rules
  rw [h.2.1 4 (by decide), h.2.1 5 (by decide), h.2.1 6 (by decide)]
/-- the fact is taken out of the fresh ones -/
def s_take (u : sU) (y b : Nat) : sU := (va_up u.1 2 (tm_drop (u.1 2) y b), u.2.1, u.2.2)
theorem take_gro (u : sU) (y b : Nat) : s_gro u (s_take u y b) := ⟨fun _ _ h => h, fun i hi => va_up_ne _ _ (by omega), rfl⟩
theorem draw_gen {v w : sU} {N : Nat} {kd fa fb : Nat → Nat} {x i d : Nat} (hi : i < 7) (hb : s_bas v N kd fa fb) (hs : s_sat v N kd fa fb) (hfr : ∀ y b, v.1 2 y b = true → v.1 3 0 y = true ∨ (y = x * 7 + i ∧ d ≤ b)) (hx : s_ext (s_take v (x * 7 + i) d) w)
    (hd : tm_Drawn N kd fa fb (TAu v) (TRu v) (TCu v) (FF v) (FF w) x i d) (hR : ∀ y b, w.1 0 y b = true → y < N * 7 ∧ b < N) (hB : ∀ x r d, r < 7 → w.1 0 (x * 7 + r) d = true → s_beg w x) :
    s_bas w N kd fa fb ∧ s_sat w N kd fa fb ∧ ∀ y b, w.1 2 y b = true → w.1 3 0 y = true ∨ (y = x * 7 + i ∧ d + 1 ≤ b) := by
  obtain ⟨b1, b2, b3, b4, b5, b6, b7⟩ := hb
  have hg := gro_trans (take_gro v (x * 7 + i) d) (gro_ext hx)
  have htr : s_tr (s_take v (x * 7 + i) d) := b2
  have htm : s_tm (s_take v (x * 7 + i) d) N kd fa fb := b1
  refine ⟨⟨tm_ext htm hx, tr_ext htr hx, hR, fun y b z => ?_, fun y z => ?_, ?_, hB⟩, ?_, fun y b z => ?_⟩
  · rcases (hx.2.2.1 y b).mp z with z | z
    · exact hx.1 y b (b4 y b (tm_drop_iff.mp z).1)
    · exact z.1
  · rcases (hx.2.2.2.1 y).mp z with z | ⟨b, z⟩
    · obtain ⟨b, z⟩ := b5 y z
      exact ⟨b, hx.1 y b z⟩
    · exact ⟨b, z.1⟩
  · rw [hg.2.1 4 (by decide), hg.2.1 5 (by decide), hg.2.1 6 (by decide)]
    exact b6
  · have e4 : TAu w = TAu v := by unfold TAu; rw [hg.2.1 4 (by decide)]
    have e5 : TRu w = TRu v := by unfold TRu; rw [hg.2.1 5 (by decide)]
    have e6 : TCu w = TCu v := by unfold TCu; rw [hg.2.1 6 (by decide)]
    unfold s_sat
    rw [e4, e5, e6]
    refine tm_Sat_draw (c := x) (rel := i) (d := d) hs (fun c r y z => ⟨z.1, hg.1 _ _ z.2⟩) (fun c r y z1 z2 => ?_) hd (fun k hk h3 => (tm_3 b1 hk h3).2.2.1)
    have h9 : ¬ w.1 2 (c * 7 + r) y = true := fun z => z2 ⟨z1.1, z⟩
    have hF : v.1 0 (c * 7 + r) y = true := by
      refine Classical.byContradiction (fun z => h9 ((hx.2.2.1 _ _).mpr (Or.inr ⟨z1.2, z⟩)))
    refine ⟨⟨z1.1, hF⟩, ?_⟩
    by_cases hq : v.1 2 (c * 7 + r) y = true
    · refine Or.inr ?_
      have h8 : ¬ tm_drop (v.1 2) (x * 7 + i) d (c * 7 + r) y = true := fun z => h9 ((hx.2.2.1 _ _).mpr (Or.inl z))
      have h7 : c * 7 + r = x * 7 + i ∧ y = d := Classical.byContradiction (fun z => h8 (tm_drop_iff.mpr ⟨hq, z⟩))
      obtain ⟨q1, q2⟩ := row_inj z1.1 hi h7.1
      exact ⟨q1, q2, h7.2⟩
    · exact Or.inl (fun z => hq z.2)
  · rcases (hx.2.2.1 y b).mp z with z | z
    · obtain ⟨z1, z2⟩ := tm_drop_iff.mp z
      rcases hfr y b z1 with q | q
      · exact Or.inl ((hx.2.2.2.1 y).mpr (Or.inl q))
      · refine Or.inr ⟨q.1, ?_⟩
        have : ¬ b = d := fun e => z2 ⟨q.1, e⟩
        omega
    · exact Or.inl ((hx.2.2.2.1 y).mpr (Or.inr ⟨b, z⟩))
/-- the measure: facts that aren't there, and fresh rows -/
def s_mu (u : sU) : Nat := tm_sum (fun y => (160 - tm_cnt (u.1 0 y) 160) + (if u.1 3 0 y then 1 else 0)) 1120
theorem cnt_mono {f g : Nat → Bool} {n : Nat} (h : ∀ b, b < n → f b = true → g b = true) : tm_cnt f n ≤ tm_cnt g n := tm_sum_mono (fun i hi => by
  cases q : f i with
  | false => simp
  | true => simp [h i hi q])
theorem cnt_lt {f g : Nat → Bool} {n b : Nat} (h : ∀ b, b < n → f b = true → g b = true) (hb : b < n) (h1 : ¬ f b = true) (h2 : g b = true) : tm_cnt f n < tm_cnt g n := tm_sum_lt (fun i hi => by
  cases q : f i with
  | false => simp
  | true => simp [h i hi q]) ⟨b, hb, by simp [h1, h2]⟩
theorem mu_ext {u v : sU} (h : s_ext u v) : s_mu v ≤ s_mu u := tm_sum_mono (fun y hy => by
  by_cases q : ∃ b, v.1 0 y b = true ∧ ¬ u.1 0 y b = true
  · obtain ⟨b, q1, q2⟩ := q
    have hb : b < 160 := ((h.2.1 y b q1).elim (fun z => absurd z q2) id).2
    have h1 := cnt_lt (n := 160) (fun b _ z => h.1 y b z) hb q2 q1
    have h2 := tm_cnt_le (v.1 0 y) 160
    split <;> split <;> omega
  · have e : (v.1 3 0 y = true) ↔ (u.1 3 0 y = true) := ⟨fun z => ((h.2.2.2.1 y).mp z).elim id (fun z => absurd z q), fun z => (h.2.2.2.1 y).mpr (Or.inl z)⟩
    have h1 := cnt_mono (n := 160) (fun b _ z => h.1 y b z)
    by_cases z : u.1 3 0 y = true
    · rw [if_pos z, if_pos (e.mpr z)]; omega
    · rw [if_neg z, if_neg (fun w => z (e.mp w))]; omega)
theorem mu_top {u : sU} {N : Nat} (hN : N ≤ 160) (h1 : ∀ y b, u.1 0 y b = true → y < N * 7 ∧ b < N) (h2 : ∀ y, u.1 3 0 y = true → ∃ b, u.1 0 y b = true) : s_mu u ≤ 179200 := by
  have := tm_sum_le (g := fun y => (160 - tm_cnt (u.1 0 y) 160) + (if u.1 3 0 y then 1 else 0)) (k := 160) (n := 1120) (fun y _ => by
    by_cases z : u.1 3 0 y = true
    · obtain ⟨b, hb⟩ := h2 y z
      have h3 := cnt_lt (f := fun _ => false) (g := u.1 0 y) (n := 160) (fun _ _ q => by cases q) (show b < 160 by have := (h1 y b hb).2; omega) (by decide) hb
      rw [if_pos z]
      omega
    · rw [if_neg z]; omega)
  exact this
/-- a fresh row is taken -/
def s_trow (u : sU) (y : Nat) : sU := (va_up u.1 3 (tm_drop (u.1 3) 0 y), u.2.1, u.2.2)
theorem mu_trow {u : sU} {y : Nat} (hy : y < 1120) (h : u.1 3 0 y = true) : s_mu (s_trow u y) < s_mu u := by
  refine tm_sum_lt (fun z hz => ?_) ⟨y, hy, ?_⟩
  · show _ + (if tm_drop (u.1 3) 0 y 0 z = true then 1 else 0) ≤ _
    by_cases q : tm_drop (u.1 3) 0 y 0 z = true
    · rw [if_pos q, if_pos (tm_drop_iff.mp q).1]
      exact Nat.le_refl _
    · rw [if_neg q]
      exact Nat.le_add_right _ _
  · show _ + (if tm_drop (u.1 3) 0 y 0 y = true then 1 else 0) < _
    rw [if_neg (fun q => (tm_drop_iff.mp q).2 ⟨rfl, rfl⟩), if_pos h]
    exact Nat.lt_succ_self _
theorem mu_0 {u : sU} (h : s_mu u = 0) {y : Nat} (hy : y < 1120) : ¬ u.1 3 0 y = true := fun z => by
  have := tm_sum_zero h y hy
  simp [z] at this
