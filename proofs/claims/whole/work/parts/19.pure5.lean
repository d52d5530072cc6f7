/-! Pure rows for drawFromLink, drawFromChains, admitBoth, admitSome. -/
theorem tm_sf {u : sU} {N : Nat} {kd fa fb : Nat → Nat} (h : s_tm u N kd fa fb) {k : Nat} (hk : k < N) (h3 : kd k = 3) : u.2.1 3 (fa k * 160 + fb k) = nI k := by
  obtain ⟨_, _, h6, hf⟩ := tm_3 h hk h3
  have hN := (tm_N h).2.2
  rcases tm_s h h6 (show fb k < 160 by omega) with ⟨_, z⟩ | ⟨j, z1, z2, z3, z4, z5⟩
  · exact absurd ⟨rfl, rfl⟩ (z k hk h3)
  · rw [z5, tm_u h z1 hk (z2.trans h3.symm) (by omega) z3 z4]
def s_linkR (u : sU) (N : Nat) (kd fa fb : Nat → Nat) (x i d : Nat) (G : Nat → Nat → Prop) : Prop :=
  G (d * 7 + 6) d ∧ G (d * 7 + 6) 0 ∧ (G (d * 7 + 6) 1 → G (x * 7 + 6) 1) ∧ (∀ t, t < 6 → u.1 5 i t = true → G (x * 7 + t) d) ∧ (∀ k, k < N → kd k = 3 → fa k = i → G (d * 7 + 6) (fb k) → G (x * 7 + 6) k)
def s_linkC (u v : sU) (N : Nat) (kd fa fb : Nat → Nat) (x i d : Nat) : Prop :=
  (v.1 0 (d * 7 + 6) d = true ∧ v.1 0 (d * 7 + 6) 0 = true) ∧ (v.1 0 (x * 7 + 6) 1 = true ∨ (¬ u.1 0 (d * 7 + 6) 1 = true ∧ (∀ t, t < 6 → u.1 5 i t = true → v.1 0 (x * 7 + t) d = true) ∧ ∀ k, k < N → kd k = 3 → fa k = i → u.1 0 (d * 7 + 6) (fb k) = true → v.1 0 (x * 7 + 6) k = true))
theorem begin_d {u v : sU} {d : Nat} (h : ∀ x b, v.1 0 x b = true ↔ u.1 0 x b = true ∨ (¬ u.1 0 (d * 7 + 6) d = true ∧ x = d * 7 + 6 ∧ (b = d ∨ b = 0))) : v.1 0 (d * 7 + 6) d = true := by
  by_cases q : u.1 0 (d * 7 + 6) d = true
  · exact (h _ _).mpr (Or.inl q)
  · exact (h _ _).mpr (Or.inr ⟨q, rfl, Or.inl rfl⟩)
theorem begin_0 {u v : sU} {d : Nat} (h : ∀ x b, v.1 0 x b = true ↔ u.1 0 x b = true ∨ (¬ u.1 0 (d * 7 + 6) d = true ∧ x = d * 7 + 6 ∧ (b = d ∨ b = 0))) (h0 : u.1 0 (d * 7 + 6) d = true → u.1 0 (d * 7 + 6) 0 = true) : v.1 0 (d * 7 + 6) d = true ∧ v.1 0 (d * 7 + 6) 0 = true := by
  refine ⟨begin_d h, ?_⟩
  by_cases q : u.1 0 (d * 7 + 6) d = true
  · exact (h _ _).mpr (Or.inl (h0 q))
  · exact (h _ _).mpr (Or.inr ⟨q, rfl, Or.inr rfl⟩)
theorem begin_snd {u v : sU} {d : Nat} {rule : (Nat → Nat → Prop) → Prop} (h : ∀ x b, v.1 0 x b = true ↔ u.1 0 x b = true ∨ (¬ u.1 0 (d * 7 + 6) d = true ∧ x = d * 7 + 6 ∧ (b = d ∨ b = 0))) (hr : ∀ G : Nat → Nat → Prop, rule G → G (d * 7 + 6) d ∧ G (d * 7 + 6) 0) : s_snd u v rule := fun G h1 h2 y b z => by
  rcases (h y b).mp z with z | ⟨_, z1, z2 | z2⟩
  · exact h1 y b z
  · rw [z1, z2]; exact (hr G h2).1
  · rw [z1, z2]; exact (hr G h2).2
/-- chains -/
def s_ch1 (u v : sU) (x i d q t : Nat) : Prop := u.1 6 (i * 6 + q) t = true → ∀ b, b < 160 → u.1 0 (d * 7 + q) b = true → v.1 0 (x * 7 + t) b = true
def s_ch2 (u v : sU) (x i d q t : Nat) : Prop := u.1 6 (q * 6 + i) t = true → ∀ z, z < 160 → u.1 0 (z * 7 + q) x = true → v.1 0 (z * 7 + t) d = true
def s_chR (u : sU) (x i d : Nat) (G : Nat → Nat → Prop) : Prop := ∀ q, q < 6 → ∀ t, t < 6 → (u.1 6 (i * 6 + q) t = true → ∀ b, G (d * 7 + q) b → G (x * 7 + t) b) ∧ (u.1 6 (q * 6 + i) t = true → ∀ z, z < 160 → G (z * 7 + q) x → G (z * 7 + t) d)
theorem ch1_mono {u v w : sU} {x i d q t : Nat} (h : s_ch1 u v x i d q t) (k : s_ext v w) : s_ch1 u w x i d q t := fun a1 b a2 a3 => k.1 _ _ (h a1 b a2 a3)
theorem ch2_mono {u v w : sU} {x i d q t : Nat} (h : s_ch2 u v x i d q t) (k : s_ext v w) : s_ch2 u w x i d q t := fun a1 b a2 a3 => k.1 _ _ (h a1 b a2 a3)
theorem ch1_snd {u0 u v w : sU} {x i d q t : Nat} (hq : q < 6) (ht : t < 6) (hT : u0.1 6 (i * 6 + q) t = true) (h : s_snd u v (s_chR u0 x i d)) (k : ∀ y b, w.1 0 y b = true ↔ v.1 0 y b = true ∨ (y = x * 7 + t ∧ b < 160 ∧ v.1 0 (d * 7 + q) b = true)) : s_snd u w (s_chR u0 x i d) := fun G h1 h2 y b z => by
  have hv := h G h1 h2
  rcases (k y b).mp z with z | ⟨z1, _, z3⟩
  · exact hv y b z
  · rw [z1]
    exact (h2 q hq t ht).1 hT b (hv _ _ z3)
theorem ch1_yes {u v w : sU} {x i d q t : Nat} (hx : s_ext u v) (k : ∀ y b, w.1 0 y b = true ↔ v.1 0 y b = true ∨ (y = x * 7 + t ∧ b < 160 ∧ v.1 0 (d * 7 + q) b = true)) : s_ch1 u w x i d q t := fun _ b a2 a3 => (k _ _).mpr (Or.inr ⟨rfl, a2, hx.1 _ _ a3⟩)
theorem ch2_snd {u0 u v w : sU} {x i d q t : Nat} (hq : q < 6) (ht : t < 6) (hx1 : x < 160) (htr : s_tr v) (hT : u0.1 6 (q * 6 + i) t = true) (h : s_snd u v (s_chR u0 x i d)) (k : s_from v w (x * 7 + q) t d 160) : s_snd u w (s_chR u0 x i d) := fun G h1 h2 y b z => by
  have hv := h G h1 h2
  rcases (k y b).mp z with z | ⟨z1, z, z2, _, z3, z4⟩
  · exact hv y b z
  · rw [z1, z3]
    exact (h2 q hq t ht).2 hT z z2 (hv _ _ ((htr z q x (by omega) z2 hx1).mp z4))
theorem ch2_yes {u v w : sU} {x i d q t : Nat} (hq : q < 6) (hx1 : x < 160) (htr : s_tr v) (hx : s_ext u v) (k : s_from v w (x * 7 + q) t d 160) : s_ch2 u w x i d q t := fun _ z a2 a3 => (k _ _).mpr (Or.inr ⟨rfl, z, a2, a2, rfl, (htr z q x (by omega) a2 hx1).mpr (hx.1 _ _ a3)⟩)
