/-! The table of descriptions: N of them, kinds kd (0 fixed, 1 a name, 2 BOTH, 3 SOME), parts fa, fb. -/
def s_tm (u : sU) (N : Nat) (kd fa fb : Nat → Nat) : Prop :=
  u.2.2 0 = N ∧ 2 ≤ N ∧ N ≤ 160 ∧
  (∀ k, k < N → u.2.1 0 k = nI (kd k) ∧ kd k ≤ 3) ∧
  (∀ k, k < N → kd k = 2 → u.2.1 1 k = nI (fa k) ∧ u.2.1 2 k = nI (fb k) ∧ fa k < N ∧ fb k < N) ∧
  (∀ k, k < N → kd k = 3 → u.2.1 1 k = nI (fa k) ∧ u.2.1 2 k = nI (fb k) ∧ fa k < 6 ∧ fb k < N) ∧
  (∀ d b, d < 160 → b < 160 → (u.1 7 d b = true ↔ b < N ∧ kd b = 2 ∧ (fa b = d ∨ fb b = d))) ∧
  (∀ i d, i < 6 → d < 160 → ((u.2.1 3 (i * 160 + d) = -1 ∧ ∀ k, k < N → kd k = 3 → ¬ (fa k = i ∧ fb k = d)) ∨ ∃ k, k < N ∧ kd k = 3 ∧ fa k = i ∧ fb k = d ∧ u.2.1 3 (i * 160 + d) = nI k)) ∧
  (∀ i d, i < 6 → d < 160 → (u.1 8 i d = true ↔ ∃ k, k < N ∧ kd k = 3 ∧ fa k = i ∧ fb k = d)) ∧
  (∀ k j, k < N → j < N → kd k = kd j → 2 ≤ kd k → fa k = fa j → fb k = fb j → k = j)
theorem tm_ext {u v : sU} {N : Nat} {kd fa fb : Nat → Nat} (h : s_tm u N kd fa fb) (k : s_ext u v) : s_tm v N kd fa fb := by
  unfold s_tm
  rw [k.2.2.2.2.2.2, k.2.2.2.2.2.1 7 (by decide), k.2.2.2.2.2.1 8 (by decide)]
  exact h
section TMS
variable {u : sU} {N : Nat} {kd fa fb : Nat → Nat}
theorem tm_N (h : s_tm u N kd fa fb) : u.2.2 0 = N ∧ 2 ≤ N ∧ N ≤ 160 := ⟨h.1, h.2.1, h.2.2.1⟩
theorem tm_k (h : s_tm u N kd fa fb) {k j : Nat} (hk : k < N) (hj : j ≤ 3) : u.2.1 0 k = nI j ↔ kd k = j := by
  obtain ⟨e, h3⟩ := h.2.2.2.1 k hk
  rw [e]
  exact nI_eq (by omega) (by omega)
theorem tm_2 (h : s_tm u N kd fa fb) {k : Nat} (hk : k < N) (h2 : kd k = 2) : u.2.1 1 k = nI (fa k) ∧ u.2.1 2 k = nI (fb k) ∧ fa k < N ∧ fb k < N := h.2.2.2.2.1 k hk h2
theorem tm_3 (h : s_tm u N kd fa fb) {k : Nat} (hk : k < N) (h2 : kd k = 3) : u.2.1 1 k = nI (fa k) ∧ u.2.1 2 k = nI (fb k) ∧ fa k < 6 ∧ fb k < N := h.2.2.2.2.2.1 k hk h2
theorem tm_b (h : s_tm u N kd fa fb) {d b : Nat} (hd : d < 160) (hb : b < 160) : u.1 7 d b = true ↔ b < N ∧ kd b = 2 ∧ (fa b = d ∨ fb b = d) := h.2.2.2.2.2.2.1 d b hd hb
theorem tm_s (h : s_tm u N kd fa fb) {i d : Nat} (hi : i < 6) (hd : d < 160) : (u.2.1 3 (i * 160 + d) = -1 ∧ ∀ k, k < N → kd k = 3 → ¬ (fa k = i ∧ fb k = d)) ∨ ∃ k, k < N ∧ kd k = 3 ∧ fa k = i ∧ fb k = d ∧ u.2.1 3 (i * 160 + d) = nI k := h.2.2.2.2.2.2.2.1 i d hi hd
theorem tm_f (h : s_tm u N kd fa fb) {i d : Nat} (hi : i < 6) (hd : d < 160) : u.1 8 i d = true ↔ ∃ k, k < N ∧ kd k = 3 ∧ fa k = i ∧ fb k = d := h.2.2.2.2.2.2.2.2.1 i d hi hd
theorem tm_u (h : s_tm u N kd fa fb) {k j : Nat} (hk : k < N) (hj : j < N) (e1 : kd k = kd j) (e2 : 2 ≤ kd k) (e3 : fa k = fa j) (e4 : fb k = fb j) : k = j := h.2.2.2.2.2.2.2.2.2 k j hk hj e1 e2 e3 e4
theorem tm_m1 {k : Nat} (h : k < 2 ^ 31) : ¬ nI k = (-1 : Int32) := fun e => by
  have := congrArg Int32.toInt e
  rw [nI_toInt h] at this
  have h2 : (-1 : Int32).toInt = -1 := by decide
  rw [h2] at this
  omega
/-- the other part of a BOTH -/
theorem tm_o (h : s_tm u N kd fa fb) {b d : Nat} (hb : b < N) (h2 : kd b = 2) (hd : d < 160) : (if u.2.1 1 b = nI d then u.2.1 2 b else u.2.1 1 b) = nI (if fa b = d then fb b else fa b) := by
  obtain ⟨e1, e2, e3, e4⟩ := tm_2 h hb h2
  have hN := (tm_N h).2.2
  rw [e1, e2]
  by_cases q : fa b = d
  · rw [if_pos q, if_pos ((nI_eq (by omega) (by omega)).mpr q)]
  · rw [if_neg q, if_neg (fun z => q ((nI_eq (by omega) (by omega)).mp z))]
end TMS
/-- every set of facts that has those of u, and that the rule asks for, has those of v -/
def s_snd (u v : sU) (rule : (Nat → Nat → Prop) → Prop) : Prop := ∀ G : Nat → Nat → Prop, (∀ y b, u.1 0 y b = true → G y b) → rule G → ∀ y b, v.1 0 y b = true → G y b
theorem snd_refl {u : sU} {rule : (Nat → Nat → Prop) → Prop} : s_snd u u rule := fun _ h _ => h
theorem snd_trans {u v w : sU} {rule : (Nat → Nat → Prop) → Prop} (h : s_snd u v rule) (k : s_snd v w rule) : s_snd u w rule := fun G h1 h2 => k G (h G h1 h2) h2
theorem snd_fact {u v w : sU} {x i d : Nat} {rule : (Nat → Nat → Prop) → Prop} (h : s_snd u v rule) (k : s_fact v w x i d) (hr : ∀ G : Nat → Nat → Prop, (∀ y b, v.1 0 y b = true → G y b) → rule G → G (x * 7 + i) d) : s_snd u w rule := fun G h1 h2 y b z => by
  rcases (k.2 y b).mp z with z | z
  · exact h G h1 h2 y b z
  · rw [z.1, z.2]
    exact hr G (h G h1 h2) h2
/-- emptySources -/
def s_empt (u v : sU) (d n : Nat) : Prop := ∀ y b, v.1 0 y b = true ↔ u.1 0 y b = true ∨ (b = 1 ∧ ∃ z, z < 160 ∧ y = z * 7 + 6 ∧ ∃ q, q < n ∧ u.1 1 (d * 7 + q) z = true)
theorem empt_0 (u : sU) (d : Nat) : s_empt u u d 0 := fun y b => ⟨Or.inl, fun z => z.elim id (fun ⟨_, _, _, _, q, h, _⟩ => absurd h (Nat.not_lt_zero q))⟩
/-- rows of links aren't touched where facts of 'above' come in -/
theorem src_6 {u v : sU} {d q z : Nat} (hx : s_ext u v) (h6 : ∀ y b, v.1 0 y b = true → u.1 0 y b = true ∨ ∃ x, y = x * 7 + 6) (hd : d < 160) (hq : q < 6) (hz : z < 160) : v.1 1 (d * 7 + q) z = true ↔ u.1 1 (d * 7 + q) z = true := by
  rw [hx.2.2.2.2.1 z q d (by omega) hz hd]
  refine ⟨fun w => w.elim id (fun w => ?_), Or.inl⟩
  rcases h6 _ _ w.1 with w2 | ⟨x, w2⟩
  · exact absurd w2 w.2
  · omega
theorem empt_s {u v w : sU} {d n : Nat} (hd : d < 160) (hn : n < 6) (hx : s_ext u v) (h : s_empt u v d n) (k : s_from v w (d * 7 + n) 6 1 160) : s_empt u w d (n + 1) := by
  have e : ∀ z, z < 160 → (v.1 1 (d * 7 + n) z = true ↔ u.1 1 (d * 7 + n) z = true) := fun z hz => src_6 hx (fun y b z => ((h y b).mp z).elim Or.inl (fun ⟨_, x, _, e, _⟩ => Or.inr ⟨x, e⟩)) hd hn hz
  intro y b
  rw [k, h]
  constructor
  · rintro ((z | ⟨z1, x, z2, z3, q, z4, z5⟩) | ⟨z1, x, z2, _, z3, z4⟩)
    · exact Or.inl z
    · exact Or.inr ⟨z1, x, z2, z3, q, by omega, z5⟩
    · exact Or.inr ⟨z1, x, z2, z3, n, by omega, (e x z2).mp z4⟩
  · rintro (z | ⟨z1, x, z2, z3, q, z4, z5⟩)
    · exact Or.inl (Or.inl z)
    · by_cases hq : q = n
      · subst hq
        exact Or.inr ⟨z1, x, z2, z2, z3, (e x z2).mpr z5⟩
      · exact Or.inl (Or.inr ⟨z1, x, z2, z3, q, by omega, z5⟩)
/-- drawParts -/
def s_parts (u v : sU) (kd fa fb : Nat → Nat) (x d : Nat) : Prop := ∀ y b, v.1 0 y b = true ↔ u.1 0 y b = true ∨ (kd d = 2 ∧ y = x * 7 + 6 ∧ (b = fa d ∨ b = fb d)) ∨ (kd d = 3 ∧ y = x * 7 + fa d ∧ b = fb d)
theorem parts_2 {u v w : sU} {kd fa fb : Nat → Nat} {x d : Nat} (h2 : kd d = 2) (h : s_fact u v x 6 (fa d)) (k : s_fact v w x 6 (fb d)) : s_ext u w ∧ s_parts u w kd fa fb x d := by
  refine ⟨ext_trans h.1 k.1, fun y b => ?_⟩
  rw [k.2, h.2]
  constructor
  · rintro ((z | z) | z)
    · exact Or.inl z
    · exact Or.inr (Or.inl ⟨h2, z.1, Or.inl z.2⟩)
    · exact Or.inr (Or.inl ⟨h2, z.1, Or.inr z.2⟩)
  · rintro (z | ⟨_, z1, z2 | z2⟩ | ⟨z, _⟩)
    · exact Or.inl (Or.inl z)
    · exact Or.inl (Or.inr ⟨z1, z2⟩)
    · exact Or.inr ⟨z1, z2⟩
    · omega
theorem parts_3 {u v : sU} {kd fa fb : Nat → Nat} {x d : Nat} (h3 : kd d = 3) (h : s_fact u v x (fa d) (fb d)) : s_ext u v ∧ s_parts u v kd fa fb x d := by
  refine ⟨h.1, fun y b => ?_⟩
  rw [h.2]
  constructor
  · rintro (z | z)
    · exact Or.inl z
    · exact Or.inr (Or.inr ⟨h3, z⟩)
  · rintro (z | ⟨z, _⟩ | ⟨_, z⟩)
    · exact Or.inl z
    · omega
    · exact Or.inr z
theorem parts_0 {u : sU} {kd fa fb : Nat → Nat} {x d : Nat} (h2 : ¬ kd d = 2) (h3 : ¬ kd d = 3) : s_ext u u ∧ s_parts u u kd fa fb x d :=
  ⟨ext_refl u, fun _ _ => ⟨Or.inl, fun z => z.elim id (fun z => z.elim (fun z => absurd z.1 h2) (fun z => absurd z.1 h3))⟩⟩
/-- drawBoths: what it draws follows; all BOTH below r, of which the other part was there, are there -/
def s_bothR (N : Nat) (kd fa fb : Nat → Nat) (x d : Nat) (G : Nat → Nat → Prop) : Prop := ∀ b, b < N → kd b = 2 → ((fa b = d ∧ G (x * 7 + 6) (fb b)) ∨ (fb b = d ∧ G (x * 7 + 6) (fa b))) → G (x * 7 + 6) b
def s_bothC (u v : sU) (kd fa fb : Nat → Nat) (x d b : Nat) : Prop := (kd b = 2 → fa b = d → u.1 0 (x * 7 + 6) (fb b) = true → v.1 0 (x * 7 + 6) b = true) ∧ (kd b = 2 → fb b = d → u.1 0 (x * 7 + 6) (fa b) = true → v.1 0 (x * 7 + 6) b = true)
theorem bothC_mono {u v w : sU} {kd fa fb : Nat → Nat} {x d b : Nat} (h : s_bothC u v kd fa fb x d b) (k : s_ext v w) : s_bothC u w kd fa fb x d b := ⟨fun a1 a2 a3 => k.1 _ _ (h.1 a1 a2 a3), fun a1 a2 a3 => k.1 _ _ (h.2 a1 a2 a3)⟩
