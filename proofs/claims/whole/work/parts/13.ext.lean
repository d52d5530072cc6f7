/-! More facts, and nothing else: what is new is fresh, has its source, and its row is among the fresh rows. -/
def s_ext (u v : sU) : Prop :=
  (∀ r b, u.1 0 r b = true → v.1 0 r b = true) ∧
  (∀ r b, v.1 0 r b = true → u.1 0 r b = true ∨ (r < 1120 ∧ b < 160)) ∧
  (∀ r b, v.1 2 r b = true ↔ u.1 2 r b = true ∨ (v.1 0 r b = true ∧ ¬ u.1 0 r b = true)) ∧
  (∀ r, v.1 3 0 r = true ↔ u.1 3 0 r = true ∨ ∃ b, v.1 0 r b = true ∧ ¬ u.1 0 r b = true) ∧
  (∀ c r d, r < 7 → c < 160 → d < 160 → (v.1 1 (d * 7 + r) c = true ↔ u.1 1 (d * 7 + r) c = true ∨ (v.1 0 (c * 7 + r) d = true ∧ ¬ u.1 0 (c * 7 + r) d = true))) ∧
  (∀ i, 4 ≤ i → v.1 i = u.1 i) ∧ v.2 = u.2
theorem ext_refl (u : sU) : s_ext u u :=
  ⟨fun _ _ h => h, fun _ _ h => Or.inl h, fun r b => ⟨fun h => Or.inl h, fun h => h.elim id (fun z => absurd z.1 z.2)⟩, fun r => ⟨fun h => Or.inl h, fun h => h.elim id (fun ⟨b, z⟩ => absurd z.1 z.2)⟩,
    fun c r d _ _ _ => ⟨fun h => Or.inl h, fun h => h.elim id (fun z => absurd z.1 z.2)⟩, fun _ _ => rfl, rfl⟩
theorem ext_trans {u v w : sU} (h : s_ext u v) (k : s_ext v w) : s_ext u w := by
  obtain ⟨a1, a2, a3, a4, a5, a6, a7⟩ := h
  obtain ⟨b1, b2, b3, b4, b5, b6, b7⟩ := k
  refine ⟨fun r b z => b1 r b (a1 r b z), fun r b z => ?_, fun r b => ?_, fun r => ?_, fun c r d h1 h2 h3 => ?_, fun i hi => (b6 i hi).trans (a6 i hi), b7.trans a7⟩
  · rcases b2 r b z with z | z
    · exact a2 r b z
    · exact Or.inr z
  · rw [b3, a3]
    constructor
    · rintro ((z | z) | z)
      · exact Or.inl z
      · exact Or.inr ⟨b1 r b z.1, z.2⟩
      · exact Or.inr ⟨z.1, fun q => z.2 (a1 r b q)⟩
    · rintro (z | z)
      · exact Or.inl (Or.inl z)
      · by_cases q : v.1 0 r b = true
        · exact Or.inl (Or.inr ⟨q, z.2⟩)
        · exact Or.inr ⟨z.1, q⟩
  · rw [b4, a4]
    constructor
    · rintro ((z | ⟨b, z⟩) | ⟨b, z⟩)
      · exact Or.inl z
      · exact Or.inr ⟨b, b1 r b z.1, z.2⟩
      · exact Or.inr ⟨b, z.1, fun q => z.2 (a1 r b q)⟩
    · rintro (z | ⟨b, z⟩)
      · exact Or.inl (Or.inl z)
      · by_cases q : v.1 0 r b = true
        · exact Or.inl (Or.inr ⟨b, q, z.2⟩)
        · exact Or.inr ⟨b, z.1, q⟩
  · rw [b5 c r d h1 h2 h3, a5 c r d h1 h2 h3]
    constructor
    · rintro ((z | z) | z)
      · exact Or.inl z
      · exact Or.inr ⟨b1 _ _ z.1, z.2⟩
      · exact Or.inr ⟨z.1, fun q => z.2 (a1 _ _ q)⟩
    · rintro (z | z)
      · exact Or.inl (Or.inl z)
      · by_cases q : v.1 0 (c * 7 + r) d = true
        · exact Or.inl (Or.inr ⟨q, z.2⟩)
        · exact Or.inr ⟨z.1, q⟩
/-- the sources are the facts, turned around -/
def s_tr (u : sU) : Prop := ∀ c r d, r < 7 → c < 160 → d < 160 → (u.1 1 (d * 7 + r) c = true ↔ u.1 0 (c * 7 + r) d = true)
theorem tr_ext {u v : sU} (h : s_tr u) (k : s_ext u v) : s_tr v := by
  intro c r d h1 h2 h3
  rw [k.2.2.2.2.1 c r d h1 h2 h3, h c r d h1 h2 h3]
  constructor
  · rintro (z | z)
    · exact k.1 _ _ z
    · exact z.1
  · intro z
    by_cases q : u.1 0 (c * 7 + r) d = true
    · exact Or.inl q
    · exact Or.inr ⟨z, q⟩
theorem row_inj {c r c' r' : Nat} (h : r < 7) (h' : r' < 7) (e : c * 7 + r = c' * 7 + r') : c = c' ∧ r = r' := by omega
/-- one fact is put in -/
def s_fact (u v : sU) (c r d : Nat) : Prop := s_ext u v ∧ ∀ x b, v.1 0 x b = true ↔ u.1 0 x b = true ∨ (x = c * 7 + r ∧ b = d)
theorem fact_old {u : sU} {c r d : Nat} (h : u.1 0 (c * 7 + r) d = true) : s_fact u (va_up u.1 0 (tm_put (u.1 0) (c * 7 + r) d), u.2.1, u.2.2) c r d := by
  have e : ∀ x b, tm_put (u.1 0) (c * 7 + r) d x b = true ↔ u.1 0 x b = true := fun x b => by
    rw [tm_put_iff]
    exact ⟨fun z => z.elim id (fun z => by rw [z.1, z.2]; exact h), Or.inl⟩
  have e2 : tm_put (u.1 0) (c * 7 + r) d = u.1 0 := by
    funext x b
    cases q : u.1 0 x b with
    | true => exact (e x b).mpr q
    | false => exact ts_nt (fun z => by rw [(e x b).mp z] at q; cases q)
  have e3 : ((va_up u.1 0 (tm_put (u.1 0) (c * 7 + r) d), u.2.1, u.2.2) : sU) = u := by
    rw [e2]
    have : va_up u.1 0 (u.1 0) = u.1 := by
      funext i
      by_cases hi : i = 0
      · subst hi; rfl
      · exact va_up_ne _ _ hi
    rw [this]
  rw [e3]
  refine ⟨ext_refl u, fun x b => ⟨Or.inl, fun z => z.elim id (fun z => by rw [z.1, z.2]; exact h)⟩⟩
theorem fact_new {u : sU} {c r d : Nat} (hc : c < 160) (hr : r < 7) (hd : d < 160) (h : u.1 0 (c * 7 + r) d = false) :
    s_fact u (va_up (va_up (va_up (va_up u.1 0 (tm_put (u.1 0) (c * 7 + r) d)) 1 (tm_put (u.1 1) (d * 7 + r) c)) 2 (tm_put (u.1 2) (c * 7 + r) d)) 3 (tm_put (u.1 3) 0 (c * 7 + r)), u.2.1, u.2.2) c r d := by
  have hn : ¬ u.1 0 (c * 7 + r) d = true := fun z => by rw [h] at z; cases z
  have e0 : ∀ x b, tm_put (u.1 0) (c * 7 + r) d x b = true ↔ u.1 0 x b = true ∨ (x = c * 7 + r ∧ b = d) := fun x b => tm_put_iff
  refine ⟨⟨fun x b z => (e0 x b).mpr (Or.inl z), fun x b z => ?_, fun x b => ?_, fun x => ?_, fun c' r' d' h1 h2 h3 => ?_, fun i hi => ?_, rfl⟩, e0⟩
  · rcases (e0 x b).mp z with z | z
    · exact Or.inl z
    · exact Or.inr ⟨by omega, by omega⟩
  · show tm_put (u.1 2) (c * 7 + r) d x b = true ↔ u.1 2 x b = true ∨ (tm_put (u.1 0) (c * 7 + r) d x b = true ∧ _)
    rw [tm_put_iff, e0]
    constructor
    · rintro (z | z)
      · exact Or.inl z
      · exact Or.inr ⟨Or.inr z, by rw [z.1, z.2]; exact hn⟩
    · rintro (z | z)
      · exact Or.inl z
      · exact Or.inr (z.1.elim (fun q => absurd q z.2) id)
  · show tm_put (u.1 3) 0 (c * 7 + r) 0 x = true ↔ u.1 3 0 x = true ∨ ∃ b, tm_put (u.1 0) (c * 7 + r) d x b = true ∧ _
    rw [tm_put_iff]
    constructor
    · rintro (z | z)
      · exact Or.inl z
      · exact Or.inr ⟨d, (e0 x d).mpr (Or.inr ⟨z.2, rfl⟩), by rw [z.2]; exact hn⟩
    · rintro (z | ⟨b, z1, z2⟩)
      · exact Or.inl z
      · exact Or.inr ⟨rfl, ((e0 x b).mp z1).elim (fun q => absurd q z2) (fun q => q.1)⟩
  · show tm_put (u.1 1) (d * 7 + r) c (d' * 7 + r') c' = true ↔ u.1 1 (d' * 7 + r') c' = true ∨ (tm_put (u.1 0) (c * 7 + r) d (c' * 7 + r') d' = true ∧ _)
    rw [tm_put_iff, e0]
    constructor
    · rintro (z | z)
      · exact Or.inl z
      · obtain ⟨q1, q2⟩ := row_inj h1 hr z.1
        have q3 := z.2
        subst q1 q2 q3
        exact Or.inr ⟨Or.inr ⟨rfl, rfl⟩, hn⟩
    · rintro (z | z)
      · exact Or.inl z
      · rcases z.1 with q | q
        · exact absurd q z.2
        · obtain ⟨q1, q2⟩ := row_inj h1 hr q.1
          have q3 := q.2
          subst q1 q2 q3
          exact Or.inr ⟨rfl, rfl⟩
  · show va_up _ 3 _ i = _
    rw [va_up_ne _ _ (by omega), va_up_ne _ _ (by omega), va_up_ne _ _ (by omega), va_up_ne _ _ (by omega)]
/-- walks along a row of bits -/
theorem tm_nx_first {f : Nat → Bool} {W r : Nat} {P : Nat → Prop} (h : tm_nx f W 0 r) : ∀ b, b < r → b < W → f b = true → P b := fun b h1 h2 h3 => by
  rw [h.2.2.1 b (Nat.zero_le _) h1 h2] at h3
  cases h3
theorem tm_nx_step {f : Nat → Bool} {W r r2 : Nat} {P : Nat → Prop} (hinv : ∀ b, b < r → b < W → f b = true → P b) (hr : P r) (h2 : tm_nx f W (r + 1) r2) : ∀ b, b < r2 → b < W → f b = true → P b := fun b a1 a2 a3 => by
  rcases Nat.lt_trichotomy b r with z | z | z
  · exact hinv b z a2 a3
  · rw [z]; exact hr
  · rw [h2.2.2.1 b (by omega) a1 a2] at a3
    cases a3
