/-! A new object, and a new model. -/
theorem inv_0 : s_inv u_0 2 (fun _ => 0) (fun _ => 0) (fun _ => 0) 0 (fun _ => 0) (fun _ => 0) (fun _ => 0) (fun _ => 0) (fun _ => False) 0 (fun _ => 0) := by
  have f : ∀ i y b, ¬ u_0.1 i y b = true := fun i y b z => absurd (show false = true from z) (by decide)
  have nF : ∀ c r d, ¬ FF u_0 c r d := fun c r d z => f _ _ _ z.2
  have kk : ∀ k, k < 2 → u_0.2.1 0 k = nI 0 := fun k hk => by
    rcases Nat.lt_or_ge k 1 with w | w
    · rw [show k = 0 by omega]; rfl
    · rw [show k = 1 by omega]; rfl
  have htm : s_tm u_0 2 (fun _ => 0) (fun _ => 0) (fun _ => 0) := by
    refine ⟨rfl, by decide, by decide, fun k hk => ⟨kk k hk, Nat.zero_le _⟩, fun k _ z => absurd (show (0 : Nat) = 2 from z) (by decide), fun k _ z => absurd (show (0 : Nat) = 3 from z) (by decide), fun d b _ _ => ⟨fun z => absurd z (f _ _ _), fun z => absurd (show (0 : Nat) = 2 from z.2.1) (by decide)⟩, fun i d hi hd => Or.inl ⟨?_, fun k _ z => absurd (show (0 : Nat) = 3 from z) (by decide)⟩, fun i d _ _ => ⟨fun z => absurd z (f _ _ _), fun ⟨k, _, z, _⟩ => absurd (show (0 : Nat) = 3 from z) (by decide)⟩, fun k j _ _ _ z => absurd (show 2 ≤ (0 : Nat) from z) (by decide)⟩
    show (if i * 160 + d < 960 then (-1 : Int32) else _) = -1
    rw [if_pos (by omega)]
  refine ⟨⟨⟨htm, fun c r d _ _ _ => ⟨fun z => absurd z (f _ _ _), fun z => absurd z (f _ _ _)⟩, fun y b z => absurd z (f _ _ _), fun y b z => absurd z (f _ _ _), fun y z => absurd z (f _ _ _), ⟨fun a b z => absurd z (f _ _ _), fun a b z => absurd z (f _ _ _), fun a b z => absurd z (f _ _ _)⟩, fun x r d _ z => absurd z (f _ _ _)⟩, fun y b => f _ _ _, ⟨rfl, by decide, fun k h1 h2 => by omega⟩, by decide, by decide, by decide, fun _ => ⟨?_, fun y b z => absurd z (f _ _ _), fun y b z => absurd z (f _ _ _), fun _ => False, ⟨fun a b => ⟨fun z => absurd z (f _ _ _), fun ⟨k, z, _⟩ => z.elim⟩, fun a b => ⟨fun z => absurd z (f _ _ _), fun ⟨k, z, _⟩ => z.elim⟩, fun a b c _ _ => ⟨fun z => absurd z (f _ _ _), fun ⟨k, z, _⟩ => z.elim⟩⟩, fun k z => z.elim, fun k _ z => ?_⟩⟩, ⟨rfl, rfl⟩, ?_, ?_, fun k => ⟨fun z => ?_, fun z => z.elim⟩, fun k _ => rfl, rfl, by decide, fun i h => absurd h (Nat.not_lt_zero i)⟩
  · exact ⟨fun c a b _ z => absurd z (nF _ _ _), fun c k _ _ z => absurd z (nF _ _ _), fun c k _ _ z => absurd z (nF _ _ _), fun c k _ _ z => absurd z (nF _ _ _), fun c y k _ _ z => absurd z (nF _ _ _), fun c y r q _ _ z => absurd z (nF _ _ _), fun c y z r q t _ _ _ w => absurd w (nF _ _ _), fun c y r _ z => absurd z (nF _ _ _), fun c y r _ z => absurd z (nF _ _ _)⟩
  · have h1 := z.1
    have h2 : k ≤ 0 := z.2.1
    omega
  · exact (cnt_zero (fun _ _ => rfl)).symm
  · exact (cnt_zero (fun _ _ => dB_f.mpr id)).symm
  · have h1 := z.1
    have h2 : k ≤ 0 := z.2.1
    omega
theorem minv_0 : m_inv v_0 2 (fun _ => 0) (fun _ => 0) (fun _ => 0) 0 (fun _ => 0) (fun _ => 0) (fun _ => 0) (fun _ => 0) (fun _ => False) 0 (fun _ => 0) := by
  refine ⟨⟨rfl, by decide, by decide, rfl, by decide, rfl, rfl, fun k hk => ⟨?_, Nat.zero_le _, fun h => by omega⟩, fun k _ z => absurd (show (0 : Nat) = 2 from z) (by decide), fun k _ z => absurd (show (0 : Nat) = 3 from z) (by decide), fun k h1 h2 => by omega⟩, ⟨fun k z => z.elim, fun k h1 h2 => by omega⟩, ⟨fun y b _ => ⟨rfl, rfl⟩, fun y b _ => rfl⟩, by decide, by decide, fun z => absurd (show (0 : Nat) = 1 from z) (by decide), rfl, by decide, fun i h => absurd h (Nat.not_lt_zero i)⟩
  rcases Nat.lt_or_ge k 1 with w | w
  · rw [show k = 0 by omega]; rfl
  · rw [show k = 1 by omega]; rfl
