-- Pure part 1: what follows from what; the least closed pair; saturation with fresh facts; completeness.
-- kinds as the class has them: 1 a name, 2 BOTH, 3 SOME; relation 6 is 'above', 0 .. 5 are roles.

def tm_Cl (n : Nat) (kd fa fb : Nat → Nat) (TA TR : Nat → Nat → Prop) (TC : Nat → Nat → Nat → Prop) (A : Nat → Nat → Prop) (L : Nat → Nat → Nat → Prop) : Prop :=
  (∀ x, x < n → A x x ∧ A x 0) ∧
  (∀ x a b, TA a b → A x a → A x b) ∧
  (∀ r s x y, TR r s → L r x y → L s x y) ∧
  (∀ r s t x y z, TC r s t → L r x y → L s y z → L t x z) ∧
  (∀ k x, k < n → kd k = 2 → A x k → A x (fa k) ∧ A x (fb k)) ∧
  (∀ k x, k < n → kd k = 2 → A x (fa k) → A x (fb k) → A x k) ∧
  (∀ k x, k < n → kd k = 3 → A x k → L (fa k) x (fb k)) ∧
  (∀ k x y, k < n → kd k = 3 → L (fa k) x y → A y (fb k) → A x k) ∧
  (∀ r x y, L r x y → A y 1 → A x 1) ∧
  (∀ x k, A x 1 → k < n → A x k)

def tm_Bel (n : Nat) (kd fa fb : Nat → Nat) (TA TR : Nat → Nat → Prop) (TC : Nat → Nat → Nat → Prop) (d e : Nat) : Prop :=
  ∀ (A : Nat → Nat → Prop) (L : Nat → Nat → Nat → Prop), tm_Cl n kd fa fb TA TR TC A L → A d e

def tm_Lnk (n : Nat) (kd fa fb : Nat → Nat) (TA TR : Nat → Nat → Prop) (TC : Nat → Nat → Nat → Prop) (r d e : Nat) : Prop :=
  ∀ (A : Nat → Nat → Prop) (L : Nat → Nat → Nat → Prop), tm_Cl n kd fa fb TA TR TC A L → L r d e

/-- the least pair is closed itself -/
theorem tm_least (n : Nat) (kd fa fb : Nat → Nat) (TA TR : Nat → Nat → Prop) (TC : Nat → Nat → Nat → Prop) :
    tm_Cl n kd fa fb TA TR TC (tm_Bel n kd fa fb TA TR TC) (tm_Lnk n kd fa fb TA TR TC) := by
  refine ⟨?_, ?_, ?_, ?_, ?_, ?_, ?_, ?_, ?_, ?_⟩
  · intro x hx
    exact ⟨fun A L h => (h.1 x hx).1, fun A L h => (h.1 x hx).2⟩
  · intro x a b ht h1 A L h
    exact h.2.1 x a b ht (h1 A L h)
  · intro r s x y ht h1 A L h
    exact h.2.2.1 r s x y ht (h1 A L h)
  · intro r s t x y z ht h1 h2 A L h
    exact h.2.2.2.1 r s t x y z ht (h1 A L h) (h2 A L h)
  · intro k x hk hd h1
    exact ⟨fun A L h => (h.2.2.2.2.1 k x hk hd (h1 A L h)).1, fun A L h => (h.2.2.2.2.1 k x hk hd (h1 A L h)).2⟩
  · intro k x hk hd h1 h2 A L h
    exact h.2.2.2.2.2.1 k x hk hd (h1 A L h) (h2 A L h)
  · intro k x hk hd h1 A L h
    exact h.2.2.2.2.2.2.1 k x hk hd (h1 A L h)
  · intro k x y hk hd h1 h2 A L h
    exact h.2.2.2.2.2.2.2.1 k x y hk hd (h1 A L h) (h2 A L h)
  · intro r x y h1 h2 A L h
    exact h.2.2.2.2.2.2.2.2.1 r x y (h1 A L h) (h2 A L h)
  · intro x k h1 hk A L h
    exact h.2.2.2.2.2.2.2.2.2 x k (h1 A L h) hk

/-- fewer descriptions, fewer told: fewer follow -/
theorem tm_Cl_mono {n n' : Nat} {kd fa fb kd' fa' fb' : Nat → Nat} {TA TR TA' TR' : Nat → Nat → Prop} {TC TC' : Nat → Nat → Nat → Prop} {A : Nat → Nat → Prop} {L : Nat → Nat → Nat → Prop}
    (hn : n ≤ n') (hk : ∀ k, k < n → kd' k = kd k ∧ fa' k = fa k ∧ fb' k = fb k)
    (ha : ∀ a b, TA a b → TA' a b) (hr : ∀ r s, TR r s → TR' r s) (hc : ∀ r s t, TC r s t → TC' r s t)
    (h : tm_Cl n' kd' fa' fb' TA' TR' TC' A L) : tm_Cl n kd fa fb TA TR TC A L := by
  obtain ⟨h1, h2, h3, h4, h5, h6, h7, h8, h9, h10⟩ := h
  refine ⟨fun x hx => h1 x (Nat.lt_of_lt_of_le hx hn), fun x a b ht => h2 x a b (ha a b ht), fun r s x y ht => h3 r s x y (hr r s ht), fun r s t x y z ht => h4 r s t x y z (hc r s t ht), ?_, ?_, ?_, ?_, h9, fun x k h1 hx => h10 x k h1 (Nat.lt_of_lt_of_le hx hn)⟩
  · intro k x hx hd
    have e := hk k hx
    have := h5 k x (Nat.lt_of_lt_of_le hx hn) (by rw [e.1]; exact hd)
    rw [e.2.1, e.2.2] at this
    exact this
  · intro k x hx hd
    have e := hk k hx
    have := h6 k x (Nat.lt_of_lt_of_le hx hn) (by rw [e.1]; exact hd)
    rw [e.2.1, e.2.2] at this
    exact this
  · intro k x hx hd
    have e := hk k hx
    have := h7 k x (Nat.lt_of_lt_of_le hx hn) (by rw [e.1]; exact hd)
    rw [e.2.1, e.2.2] at this
    exact this
  · intro k x y hx hd
    have e := hk k hx
    have := h8 k x y (Nat.lt_of_lt_of_le hx hn) (by rw [e.1]; exact hd)
    rw [e.2.1, e.2.2] at this
    exact this

theorem tm_Bel_mono {n n' : Nat} {kd fa fb kd' fa' fb' : Nat → Nat} {TA TR TA' TR' : Nat → Nat → Prop} {TC TC' : Nat → Nat → Nat → Prop}
    (hn : n ≤ n') (hk : ∀ k, k < n → kd' k = kd k ∧ fa' k = fa k ∧ fb' k = fb k)
    (ha : ∀ a b, TA a b → TA' a b) (hr : ∀ r s, TR r s → TR' r s) (hc : ∀ r s t, TC r s t → TC' r s t) {d e : Nat}
    (h : tm_Bel n kd fa fb TA TR TC d e) : tm_Bel n' kd' fa' fb' TA' TR' TC' d e :=
  fun A L h' => h A L (tm_Cl_mono hn hk ha hr hc h')

theorem tm_Lnk_mono {n n' : Nat} {kd fa fb kd' fa' fb' : Nat → Nat} {TA TR TA' TR' : Nat → Nat → Prop} {TC TC' : Nat → Nat → Nat → Prop}
    (hn : n ≤ n') (hk : ∀ k, k < n → kd' k = kd k ∧ fa' k = fa k ∧ fb' k = fb k)
    (ha : ∀ a b, TA a b → TA' a b) (hr : ∀ r s, TR r s → TR' r s) (hc : ∀ r s t, TC r s t → TC' r s t) {r d e : Nat}
    (h : tm_Lnk n kd fa fb TA TR TC r d e) : tm_Lnk n' kd' fa' fb' TA' TR' TC' r d e :=
  fun A L h' => h A L (tm_Cl_mono hn hk ha hr hc h')

/-- every fact follows: F c 6 d: d is above c; F c r d with r < 6: a link -/
def tm_Snd (n : Nat) (kd fa fb : Nat → Nat) (TA TR : Nat → Nat → Prop) (TC : Nat → Nat → Nat → Prop) (F : Nat → Nat → Nat → Prop) : Prop :=
  ∀ c d, (F c 6 d → tm_Bel n kd fa fb TA TR TC c d) ∧ ∀ r, r < 6 → F c r d → tm_Lnk n kd fa fb TA TR TC r c d

/-- every rule whose premises are there and not fresh, its source not empty, has its conclusion there -/
def tm_Sat (n : Nat) (kd fa fb : Nat → Nat) (TA TR : Nat → Nat → Prop) (TC : Nat → Nat → Nat → Prop) (F Q : Nat → Nat → Nat → Prop) : Prop :=
  (∀ c a b, TA a b → F c 6 a → ¬ Q c 6 a → ¬ F c 6 1 → F c 6 b) ∧
  (∀ c k, k < n → kd k = 2 → F c 6 k → ¬ Q c 6 k → ¬ F c 6 1 → F c 6 (fa k) ∧ F c 6 (fb k)) ∧
  (∀ c k, k < n → kd k = 2 → F c 6 (fa k) → ¬ Q c 6 (fa k) → F c 6 (fb k) → ¬ Q c 6 (fb k) → ¬ F c 6 1 → F c 6 k) ∧
  (∀ c k, k < n → kd k = 3 → F c 6 k → ¬ Q c 6 k → ¬ F c 6 1 → F c (fa k) (fb k)) ∧
  (∀ c y k, k < n → kd k = 3 → F c (fa k) y → ¬ Q c (fa k) y → F y 6 (fb k) → ¬ Q y 6 (fb k) → ¬ F c 6 1 → ¬ F y 6 1 → F c 6 k) ∧
  (∀ c y r s, r < 6 → TR r s → F c r y → ¬ Q c r y → ¬ F c 6 1 → F c s y) ∧
  (∀ c y z r s t, r < 6 → s < 6 → TC r s t → F c r y → ¬ Q c r y → F y s z → ¬ Q y s z → ¬ F c 6 1 → ¬ F y 6 1 → F c t z) ∧
  (∀ c y r, r < 6 → F c r y → ¬ Q c r y → ¬ F c 6 1 → F y 6 y) ∧
  (∀ c y r, r < 6 → F c r y → ¬ Q c r y → F y 6 1 → ¬ Q y 6 1 → F c 6 1)

/-- new facts are fresh: what was saturated stays so -/
theorem tm_Sat_ext {n : Nat} {kd fa fb : Nat → Nat} {TA TR : Nat → Nat → Prop} {TC : Nat → Nat → Nat → Prop} {F Q F' Q' : Nat → Nat → Nat → Prop}
    (h : tm_Sat n kd fa fb TA TR TC F Q) (hF : ∀ c r d, F c r d → F' c r d) (hQ : ∀ c r d, F' c r d → ¬ Q' c r d → F c r d ∧ ¬ Q c r d) :
    tm_Sat n kd fa fb TA TR TC F' Q' := by
  obtain ⟨h1, h2, h3, h4, h5, h6, h7, h8, h9⟩ := h
  have ne : ∀ c, ¬ F' c 6 1 → ¬ F c 6 1 := fun c hc hf => hc (hF c 6 1 hf)
  refine ⟨?_, ?_, ?_, ?_, ?_, ?_, ?_, ?_, ?_⟩
  · intro c a b ht p q e
    exact hF _ _ _ (h1 c a b ht (hQ _ _ _ p q).1 (hQ _ _ _ p q).2 (ne c e))
  · intro c k hk hd p q e
    have := h2 c k hk hd (hQ _ _ _ p q).1 (hQ _ _ _ p q).2 (ne c e)
    exact ⟨hF _ _ _ this.1, hF _ _ _ this.2⟩
  · intro c k hk hd p q p2 q2 e
    exact hF _ _ _ (h3 c k hk hd (hQ _ _ _ p q).1 (hQ _ _ _ p q).2 (hQ _ _ _ p2 q2).1 (hQ _ _ _ p2 q2).2 (ne c e))
  · intro c k hk hd p q e
    exact hF _ _ _ (h4 c k hk hd (hQ _ _ _ p q).1 (hQ _ _ _ p q).2 (ne c e))
  · intro c y k hk hd p q p2 q2 e e2
    exact hF _ _ _ (h5 c y k hk hd (hQ _ _ _ p q).1 (hQ _ _ _ p q).2 (hQ _ _ _ p2 q2).1 (hQ _ _ _ p2 q2).2 (ne c e) (ne y e2))
  · intro c y r s hr ht p q e
    exact hF _ _ _ (h6 c y r s hr ht (hQ _ _ _ p q).1 (hQ _ _ _ p q).2 (ne c e))
  · intro c y z r s t hr hs ht p q p2 q2 e e2
    exact hF _ _ _ (h7 c y z r s t hr hs ht (hQ _ _ _ p q).1 (hQ _ _ _ p q).2 (hQ _ _ _ p2 q2).1 (hQ _ _ _ p2 q2).2 (ne c e) (ne y e2))
  · intro c y r hr p q e
    exact hF _ _ _ (h8 c y r hr (hQ _ _ _ p q).1 (hQ _ _ _ p q).2 (ne c e))
  · intro c y r hr p q p2 q2
    exact hF _ _ _ (h9 c y r hr (hQ _ _ _ p q).1 (hQ _ _ _ p q).2 (hQ _ _ _ p2 q2).1 (hQ _ _ _ p2 q2).2)

/-- nothing fresh: what is there, of what is begun and not empty, is closed -/
theorem tm_closed {n : Nat} {kd fa fb : Nat → Nat} {TA TR : Nat → Nat → Prop} {TC : Nat → Nat → Nat → Prop} {F Q : Nat → Nat → Nat → Prop}
    (h : tm_Sat n kd fa fb TA TR TC F Q) (hQ : ∀ c r d, ¬ Q c r d) (h0 : ∀ x, F x 6 x → F x 6 0)
    (hR : ∀ r s, TR r s → s < 6) (hC : ∀ r s t, TC r s t → t < 6) (hk : ∀ k, k < n → kd k = 3 → fa k < 6) :
    tm_Cl n kd fa fb TA TR TC (fun x e => F x 6 x → F x 6 1 ∨ F x 6 e) (fun r x y => F x 6 x → F x 6 1 ∨ (r < 6 ∧ F x r y)) := by
  obtain ⟨h1, h2, h3, h4, h5, h6, h7, h8, h9⟩ := h
  refine ⟨?_, ?_, ?_, ?_, ?_, ?_, ?_, ?_, ?_, ?_⟩
  · intro x _
    exact ⟨fun b => Or.inr b, fun b => Or.inr (h0 x b)⟩
  · intro x a b ht p bx
    refine Classical.byCases (fun e1 : F x 6 1 => Or.inl e1) (fun e1 => ?_)
    rcases p bx with p | p
    · exact Or.inl p
    · exact Or.inr (h1 x a b ht p (hQ _ _ _) e1)
  · intro r s x y ht p bx
    refine Classical.byCases (fun e1 : F x 6 1 => Or.inl e1) (fun e1 => ?_)
    rcases p bx with p | p
    · exact Or.inl p
    · exact Or.inr ⟨hR r s ht, h6 x y r s p.1 ht p.2 (hQ _ _ _) e1⟩
  · intro r s t x y z ht p q bx
    refine Classical.byCases (fun e1 : F x 6 1 => Or.inl e1) (fun e1 => ?_)
    rcases p bx with p | p
    · exact Or.inl p
    · have by' := h8 x y r p.1 p.2 (hQ _ _ _) e1
      refine Classical.byCases (fun e2 : F y 6 1 => Or.inl (h9 x y r p.1 p.2 (hQ _ _ _) e2 (hQ _ _ _))) (fun e2 => ?_)
      rcases q by' with q | q
      · exact absurd q e2
      · exact Or.inr ⟨hC r s t ht, h7 x y z r s t p.1 q.1 ht p.2 (hQ _ _ _) q.2 (hQ _ _ _) e1 e2⟩
  · intro k x hx hd p
    constructor
    · intro bx
      refine Classical.byCases (fun e1 : F x 6 1 => Or.inl e1) (fun e1 => ?_)
      rcases p bx with p | p
      · exact Or.inl p
      · exact Or.inr (h2 x k hx hd p (hQ _ _ _) e1).1
    · intro bx
      refine Classical.byCases (fun e1 : F x 6 1 => Or.inl e1) (fun e1 => ?_)
      rcases p bx with p | p
      · exact Or.inl p
      · exact Or.inr (h2 x k hx hd p (hQ _ _ _) e1).2
  · intro k x hx hd p q bx
    refine Classical.byCases (fun e1 : F x 6 1 => Or.inl e1) (fun e1 => ?_)
    rcases p bx with p | p
    · exact Or.inl p
    · rcases q bx with q | q
      · exact Or.inl q
      · exact Or.inr (h3 x k hx hd p (hQ _ _ _) q (hQ _ _ _) e1)
  · intro k x hx hd p bx
    refine Classical.byCases (fun e1 : F x 6 1 => Or.inl e1) (fun e1 => ?_)
    rcases p bx with p | p
    · exact Or.inl p
    · exact Or.inr ⟨hk k hx hd, h4 x k hx hd p (hQ _ _ _) e1⟩
  · intro k x y hx hd p q bx
    refine Classical.byCases (fun e1 : F x 6 1 => Or.inl e1) (fun e1 => ?_)
    rcases p bx with p | p
    · exact Or.inl p
    · have by' := h8 x y (fa k) p.1 p.2 (hQ _ _ _) e1
      refine Classical.byCases (fun e2 : F y 6 1 => Or.inl (h9 x y (fa k) p.1 p.2 (hQ _ _ _) e2 (hQ _ _ _))) (fun e2 => ?_)
      rcases q by' with q | q
      · exact absurd q e2
      · exact Or.inr (h5 x y k hx hd p.2 (hQ _ _ _) q (hQ _ _ _) e1 e2)
  · intro r x y p q bx
    refine Classical.byCases (fun e1 : F x 6 1 => Or.inl e1) (fun e1 => ?_)
    rcases p bx with p | p
    · exact Or.inl p
    · have by' := h8 x y r p.1 p.2 (hQ _ _ _) e1
      rcases q by' with q | q <;> exact Or.inl (h9 x y r p.1 p.2 (hQ _ _ _) q (hQ _ _ _))
  · intro x k p _ bx
    rcases p bx with p | p <;> exact Or.inl p
/-- nothing fresh: for what is begun all that follows is there -/
theorem tm_complete {n : Nat} {kd fa fb : Nat → Nat} {TA TR : Nat → Nat → Prop} {TC : Nat → Nat → Nat → Prop} {F Q : Nat → Nat → Nat → Prop}
    (h : tm_Sat n kd fa fb TA TR TC F Q) (hQ : ∀ c r d, ¬ Q c r d) (h0 : ∀ x, F x 6 x → F x 6 0)
    (hR : ∀ r s, TR r s → s < 6) (hC : ∀ r s t, TC r s t → t < 6) (hk : ∀ k, k < n → kd k = 3 → fa k < 6)
    {d e : Nat} (hd : F d 6 d) (hb : tm_Bel n kd fa fb TA TR TC d e) : F d 6 1 ∨ F d 6 e :=
  hb _ _ (tm_closed h hQ h0 hR hC hk) hd
