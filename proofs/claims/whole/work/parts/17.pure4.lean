/-! Pure rows for drawBoths, drawSomes, drawFromLink, drawFromChains. -/
theorem bothC_no {u v : sU} {kd fa fb : Nat → Nat} {x d r : Nat} (hx : s_ext u v) (h : v.1 0 (x * 7 + 6) (if fa r = d then fb r else fa r) = false) : s_bothC u v kd fa fb x d r := by
  constructor
  · intro _ a2 a3
    rw [if_pos a2] at h
    rw [hx.1 _ _ a3] at h
    cases h
  · intro _ a2 a3
    by_cases q : fa r = d
    · rw [if_pos q, a2, ← q, hx.1 _ _ a3] at h
      cases h
    · rw [if_neg q, hx.1 _ _ a3] at h
      cases h
theorem bothC_yes {u v : sU} {kd fa fb : Nat → Nat} {x d r : Nat} (h : v.1 0 (x * 7 + 6) r = true) : s_bothC u v kd fa fb x d r := ⟨fun _ _ _ => h, fun _ _ _ => h⟩
theorem both_G {fa fb : Nat → Nat} {d r : Nat} {G : Nat → Prop} (h3 : fa r = d ∨ fb r = d) (hG : G (if fa r = d then fb r else fa r)) : (fa r = d ∧ G (fb r)) ∨ (fb r = d ∧ G (fa r)) := by
  by_cases q : fa r = d
  · rw [if_pos q] at hG
    exact Or.inl ⟨q, hG⟩
  · rw [if_neg q] at hG
    exact Or.inr ⟨h3.elim (fun z => absurd z q) id, hG⟩
def s_somes (u v : sU) (N : Nat) (kd fa fb : Nat → Nat) (x d n : Nat) : Prop := ∀ y b, v.1 0 y b = true ↔ u.1 0 y b = true ∨ (b < N ∧ kd b = 3 ∧ fa b < n ∧ fb b = d ∧ ∃ z, z < 160 ∧ y = z * 7 + 6 ∧ u.1 1 (x * 7 + fa b) z = true)
theorem somes_0 (u : sU) (N : Nat) (kd fa fb : Nat → Nat) (x d : Nat) : s_somes u u N kd fa fb x d 0 := fun _ _ => ⟨Or.inl, fun z => z.elim id (fun z => absurd z.2.2.1 (Nat.not_lt_zero _))⟩
theorem somes_no {u v : sU} {N : Nat} {kd fa fb : Nat → Nat} {x d n : Nat} (h : s_somes u v N kd fa fb x d n) (k : ∀ b, b < N → kd b = 3 → ¬ (fa b = n ∧ fb b = d)) : s_somes u v N kd fa fb x d (n + 1) := fun y b => by
  rw [h]
  constructor
  · rintro (z | ⟨z1, z2, z3, z4⟩)
    · exact Or.inl z
    · exact Or.inr ⟨z1, z2, by omega, z4⟩
  · rintro (z | ⟨z1, z2, z3, z4, z5⟩)
    · exact Or.inl z
    · have : ¬ fa b = n := fun e => k b z1 z2 ⟨e, z4⟩
      exact Or.inr ⟨z1, z2, by omega, z4, z5⟩
theorem somes_s {u v w : sU} {N : Nat} {kd fa fb : Nat → Nat} {x d n j : Nat} (htm : s_tm u N kd fa fb) (hx1 : x < 160) (hn : n < 6) (hx : s_ext u v) (h : s_somes u v N kd fa fb x d n) (hj : j < N) (h3 : kd j = 3) (ha : fa j = n) (hb : fb j = d) (k : s_from v w (x * 7 + n) 6 j 160) : s_somes u w N kd fa fb x d (n + 1) := by
  have e : ∀ z, z < 160 → (v.1 1 (x * 7 + n) z = true ↔ u.1 1 (x * 7 + n) z = true) := fun z hz => src_6 hx (fun y b z => ((h y b).mp z).elim Or.inl (fun ⟨_, _, _, _, x, _, e, _⟩ => Or.inr ⟨x, e⟩)) hx1 hn hz
  intro y b
  rw [k, h]
  constructor
  · rintro ((z | ⟨z1, z2, z3, z4⟩) | ⟨z1, z, z2, _, z3, z4⟩)
    · exact Or.inl z
    · exact Or.inr ⟨z1, z2, by omega, z4⟩
    · subst z1
      exact Or.inr ⟨hj, h3, by omega, hb, z, z2, z3, by rw [ha]; exact (e z z2).mp z4⟩
  · rintro (z | ⟨z1, z2, z3, z4, z, z5, z6, z7⟩)
    · exact Or.inl (Or.inl z)
    · by_cases q : fa b = n
      · have e2 : b = j := tm_u htm z1 hj (z2.trans h3.symm) (by omega) (q.trans ha.symm) (z4.trans hb.symm)
        rw [q] at z7
        exact Or.inr ⟨e2, z, z5, z5, z6, (e z z5).mpr z7⟩
      · exact Or.inl (Or.inr ⟨z1, z2, by omega, z4, z, z5, z6, z7⟩)
