/-! Pure rows for the loops that add facts along a row. -/
theorem begin_new {u v w : sU} {d : Nat} (h0 : ¬ u.1 0 (d * 7 + 6) d = true) (h1 : s_fact u v d 6 d) (h2 : s_fact v w d 6 0) :
    s_ext u w ∧ ∀ x b, w.1 0 x b = true ↔ u.1 0 x b = true ∨ (¬ u.1 0 (d * 7 + 6) d = true ∧ x = d * 7 + 6 ∧ (b = d ∨ b = 0)) := by
  refine ⟨ext_trans h1.1 h2.1, fun x b => ?_⟩
  rw [h2.2, h1.2]
  constructor
  · rintro ((z | z) | z)
    · exact Or.inl z
    · exact Or.inr ⟨h0, z.1, Or.inl z.2⟩
    · exact Or.inr ⟨h0, z.1, Or.inr z.2⟩
  · rintro (z | ⟨_, z1, z2 | z2⟩)
    · exact Or.inl (Or.inl z)
    · exact Or.inl (Or.inr ⟨z1, z2⟩)
    · exact Or.inr ⟨z1, z2⟩
theorem begin_old {u : sU} {d : Nat} (h0 : u.1 0 (d * 7 + 6) d = true) : s_ext u u ∧ ∀ x b, u.1 0 x b = true ↔ u.1 0 x b = true ∨ (¬ u.1 0 (d * 7 + 6) d = true ∧ x = d * 7 + 6 ∧ (b = d ∨ b = 0)) :=
  ⟨ext_refl u, fun _ _ => ⟨Or.inl, fun z => z.elim id (fun z => absurd h0 z.1)⟩⟩
theorem tm_nx_gap {f g : Nat → Bool} {W fr r b : Nat} (hn : tm_nx (fun y => f y && !g y) W fr r) (h1 : fr ≤ b) (h2 : b < r) (h3 : b < W) (hf : f b = true) : g b = true := by
  have h : (f b && !g b) = false := hn.2.2.1 b h1 h2 h3
  rw [hf] at h
  simpa using h
theorem all_first {F : Nat → Nat → Bool} {T : Nat → Bool} {k r : Nat} (hn : tm_nx (fun y => T y && !F k y) 160 0 r) : ∀ y b, F y b = true ↔ F y b = true ∨ (y = k ∧ b < 160 ∧ b < r ∧ T b = true) := fun y b => by
  refine ⟨Or.inl, fun z => z.elim id (fun ⟨z1, z2, z3, z4⟩ => ?_)⟩
  rw [z1]
  exact tm_nx_gap hn (Nat.zero_le _) z3 z2 z4
theorem all_T {F : Nat → Nat → Bool} {T : Nat → Bool} {k r fr : Nat} (hn : tm_nx (fun y => T y && !F k y) 160 fr r) : r < 160 → T r = true := fun h => by
  have := hn.2.2.2 h
  simp only [Bool.and_eq_true] at this
  exact this.1
theorem all_step {F G G1 : Nat → Nat → Bool} {T T1 : Nat → Bool} {k r r2 : Nat} (hA : ∀ y b, G y b = true ↔ F y b = true ∨ (y = k ∧ b < 160 ∧ b < r ∧ T b = true)) (hTr : T r = true) (hr : r < 160) (h1 : ∀ y b, G1 y b = true ↔ G y b = true ∨ (y = k ∧ b = r)) (hT1 : ∀ b, T1 b = true ↔ T b = true) (hn : tm_nx (fun y => T1 y && !G1 k y) 160 (r + 1) r2) :
    ∀ y b, G1 y b = true ↔ F y b = true ∨ (y = k ∧ b < 160 ∧ b < r2 ∧ T b = true) := fun y b => by
  have hr2 := hn.1
  rw [h1, hA]
  constructor
  · rintro ((z | ⟨z1, z2, z3, z4⟩) | ⟨z1, z2⟩)
    · exact Or.inl z
    · exact Or.inr ⟨z1, z2, by omega, z4⟩
    · exact Or.inr ⟨z1, by omega, by omega, by rw [z2]; exact hTr⟩
  · rintro (z | ⟨z1, z2, z3, z4⟩)
    · exact Or.inl (Or.inl z)
    · rcases Nat.lt_trichotomy b r with q | q | q
      · exact Or.inl (Or.inr ⟨z1, z2, q, z4⟩)
      · exact Or.inr ⟨z1, q⟩
      · have h9 : G1 k b = true := tm_nx_gap hn (by omega) z3 z2 ((hT1 b).mpr z4)
        rw [z1]
        rcases (h1 k b).mp h9 with q2 | q2
        · exact Or.inl ((hA k b).mp q2)
        · exact Or.inr ⟨rfl, q2.2⟩
theorem all_T0 {F G : Nat → Nat → Bool} {k r t : Nat} (hA : ∀ y b, G y b = true ↔ F y b = true ∨ (y = k ∧ b < 160 ∧ b < r ∧ F t b = true)) (b : Nat) : G t b = true ↔ F t b = true := by
  rw [hA]
  exact ⟨fun z => z.elim id (fun z => z.2.2.2), Or.inl⟩
theorem all_end {F G : Nat → Nat → Bool} {T : Nat → Bool} {k r : Nat} (hr : 160 ≤ r) (hA : ∀ y b, G y b = true ↔ F y b = true ∨ (y = k ∧ b < 160 ∧ b < r ∧ T b = true)) : ∀ y b, G y b = true ↔ F y b = true ∨ (y = k ∧ b < 160 ∧ T b = true) := fun y b => by
  rw [hA]
  exact ⟨fun z => z.elim Or.inl (fun z => Or.inr ⟨z.1, z.2.1, z.2.2.2⟩), fun z => z.elim Or.inl (fun z => Or.inr ⟨z.1, z.2.1, by omega, z.2.2⟩)⟩
/-- facts to d from each one of a row of the sources -/
def s_from (u v : sU) (t i d r : Nat) : Prop := ∀ y b, v.1 0 y b = true ↔ u.1 0 y b = true ∨ (b = d ∧ ∃ z, z < 160 ∧ z < r ∧ y = z * 7 + i ∧ u.1 1 t z = true)
theorem from_first {u : sU} {t i d r : Nat} (htr : s_tr u) (hi : i < 7) (hd : d < 160) (hn : tm_nx (fun y => u.1 1 t y && !u.1 1 (d * 7 + i) y) 160 0 r) : s_from u u t i d r := fun y b => by
  refine ⟨Or.inl, fun z => z.elim id (fun ⟨z1, x, z2, z3, z4, z5⟩ => ?_)⟩
  have h9 : u.1 1 (d * 7 + i) x = true := tm_nx_gap hn (Nat.zero_le _) z3 z2 z5
  rw [z1, z4]
  exact (htr x i d hi z2 hd).mp h9
/-- the row t = y0 * 7 + q of the sources isn't touched, where it isn't the row that is added to -/
theorem from_row {u v : sU} {y0 q i d r : Nat} (hq : q < 7) (hi : i < 7) (hy : y0 < 160) (hx : s_ext u v) (hf : s_from u v (y0 * 7 + q) i d r) (hne : ¬ y0 * 7 + q = d * 7 + i) {z : Nat} (hz : z < 160) : v.1 1 (y0 * 7 + q) z = true ↔ u.1 1 (y0 * 7 + q) z = true := by
  rw [hx.2.2.2.2.1 z q y0 hq hz hy]
  refine ⟨fun w => w.elim id (fun w => ?_), Or.inl⟩
  rcases (hf _ _).mp w.1 with w2 | ⟨w2, x, w3, w4, w5, w6⟩
  · exact absurd w2 w.2
  · obtain ⟨e1, e2⟩ := row_inj hq hi w5
    exact absurd (by rw [w2, e2]) hne
theorem from_step {u v v1 : sU} {y0 q i d r r2 : Nat} (hq : q < 7) (hi : i < 7) (hd : d < 160) (hy : y0 < 160) (htr : s_tr u) (hx : s_ext u v) (hf : s_from u v (y0 * 7 + q) i d r) (hr : r < 160) (hS : u.1 1 (y0 * 7 + q) r = true) (hne : ¬ y0 * 7 + q = d * 7 + i) (h1 : s_fact v v1 r i d)
    (hn : tm_nx (fun y => v1.1 1 (y0 * 7 + q) y && !v1.1 1 (d * 7 + i) y) 160 (r + 1) r2) : s_from u v1 (y0 * 7 + q) i d r2 := by
  have hr2 := hn.1
  have hx1 := ext_trans hx h1.1
  have htr1 := tr_ext htr hx1
  have hw : s_from u v1 (y0 * 7 + q) i d (r + 1) := fun y b => by
    rw [h1.2, hf]
    constructor
    · rintro ((z | ⟨z1, x, z2, z3, z4, z5⟩) | ⟨z1, z2⟩)
      · exact Or.inl z
      · exact Or.inr ⟨z1, x, z2, by omega, z4, z5⟩
      · exact Or.inr ⟨z2, r, hr, by omega, z1, hS⟩
    · rintro (z | ⟨z1, x, z2, z3, z4, z5⟩)
      · exact Or.inl (Or.inl z)
      · rcases Nat.lt_or_ge x r with w | w
        · exact Or.inl (Or.inr ⟨z1, x, z2, w, z4, z5⟩)
        · have : x = r := by omega
          exact Or.inr ⟨by rw [z4, this], z1⟩
  intro y b
  rw [hw]
  constructor
  · rintro (z | ⟨z1, x, z2, z3, z4, z5⟩)
    · exact Or.inl z
    · exact Or.inr ⟨z1, x, z2, by omega, z4, z5⟩
  · rintro (z | ⟨z1, x, z2, z3, z4, z5⟩)
    · exact Or.inl z
    · rcases Nat.lt_or_ge x (r + 1) with w | w
      · exact Or.inr ⟨z1, x, z2, w, z4, z5⟩
      · have e2 : v1.1 1 (d * 7 + i) x = true := tm_nx_gap hn w z3 z2 ((from_row hq hi hy hx1 hw hne z2).mpr z5)
        have e3 := (htr1 x i d hi z2 hd).mp e2
        rw [z1, z4]
        exact (hw _ _).mp e3
theorem from_end {u v : sU} {t i d r : Nat} (hr : 160 ≤ r) (hf : s_from u v t i d r) : s_from u v t i d 160 := fun y b => by
  rw [hf]
  exact ⟨fun z => z.elim Or.inl (fun ⟨z1, x, z2, z3, z4⟩ => Or.inr ⟨z1, x, z2, z2, z4⟩), fun z => z.elim Or.inl (fun ⟨z1, x, z2, z3, z4⟩ => Or.inr ⟨z1, x, z2, by omega, z4⟩)⟩
theorem from_S {u : sU} {t k r fr : Nat} (hn : tm_nx (fun y => u.1 1 t y && !u.1 1 k y) 160 fr r) : r < 160 → u.1 1 t r = true ∧ ¬ t = k := fun h => by
  have := hn.2.2.2 h
  simp only [Bool.and_eq_true] at this
  refine ⟨this.1, fun e => ?_⟩
  rw [e] at this
  simp at this
