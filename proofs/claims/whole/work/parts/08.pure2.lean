
/-- what a draw of the fact (c, rel, d) must have put in: F is what was there before, G what is there after -/
def tm_Drawn (n : Nat) (kd fa fb : Nat → Nat) (TA TR : Nat → Nat → Prop) (TC : Nat → Nat → Nat → Prop) (F G : Nat → Nat → Nat → Prop) (c rel d : Nat) : Prop :=
  (rel = 6 → d = 1 → ∀ x r, r < 6 → F x r c → G x 6 1) ∧
  (rel = 6 → d ≠ 1 → G c 6 1 ∨
    ((∀ b, TA d b → G c 6 b) ∧
     (d < n → kd d = 2 → G c 6 (fa d) ∧ G c 6 (fb d)) ∧
     (∀ k, k < n → kd k = 2 → fa k = d → F c 6 (fb k) → G c 6 k) ∧
     (∀ k, k < n → kd k = 2 → fb k = d → F c 6 (fa k) → G c 6 k) ∧
     (d < n → kd d = 3 → G c (fa d) (fb d)) ∧
     (∀ k x, k < n → kd k = 3 → fb k = d → F x (fa k) c → G x 6 k))) ∧
  (rel < 6 → G c 6 1 ∨
    (G d 6 d ∧ (F d 6 1 → G c 6 1) ∧
     (∀ s, TR rel s → G c s d) ∧
     (∀ k, k < n → kd k = 3 → fa k = rel → F d 6 (fb k) → G c 6 k) ∧
     (∀ s t z, s < 6 → TC rel s t → F d s z → G c t z) ∧
     (∀ s t x, s < 6 → TC s rel t → F x s c → G x t d)))

/-- a fact is taken out of fresh and drawn: saturated as before -/
theorem tm_Sat_draw {n : Nat} {kd fa fb : Nat → Nat} {TA TR : Nat → Nat → Prop} {TC : Nat → Nat → Nat → Prop} {F Q G P : Nat → Nat → Nat → Prop} {c rel d : Nat}
    (h : tm_Sat n kd fa fb TA TR TC F Q) (hf : ∀ x r y, F x r y → G x r y)
    (hq : ∀ x r y, G x r y → ¬ P x r y → F x r y ∧ (¬ Q x r y ∨ (x = c ∧ r = rel ∧ y = d)))
    (hd : tm_Drawn n kd fa fb TA TR TC F G c rel d) (hro : ∀ k, k < n → kd k = 3 → fa k < 6) : tm_Sat n kd fa fb TA TR TC G P := by
  obtain ⟨h1, h2, h3, h4, h5, h6, h7, h8, h9⟩ := h
  obtain ⟨d1, d2, d3⟩ := hd
  have ne : ∀ x, ¬ G x 6 1 → ¬ F x 6 1 := fun x hx hx' => hx (hf x 6 1 hx')
  refine ⟨?_, ?_, ?_, ?_, ?_, ?_, ?_, ?_, ?_⟩
  · intro x a b ht p q e
    obtain ⟨pF, pq⟩ := hq _ _ _ p q
    rcases pq with pq | ⟨rfl, e6, rfl⟩
    · exact hf _ _ _ (h1 x a b ht pF pq (ne x e))
    · rcases d2 e6.symm (fun e1 => e (by rw [← e1]; exact p)) with z | z
      · exact absurd z e
      · exact z.1 b ht
  · intro x k hk hkd p q e
    obtain ⟨pF, pq⟩ := hq _ _ _ p q
    rcases pq with pq | ⟨rfl, e6, rfl⟩
    · have := h2 x k hk hkd pF pq (ne x e)
      exact ⟨hf _ _ _ this.1, hf _ _ _ this.2⟩
    · rcases d2 e6.symm (fun e1 => e (by rw [← e1]; exact p)) with z | z
      · exact absurd z e
      · exact z.2.1 hk hkd
  · intro x k hk hkd p q p2 q2 e
    obtain ⟨pF, pq⟩ := hq _ _ _ p q
    obtain ⟨pF2, pq2⟩ := hq _ _ _ p2 q2
    rcases pq with pq | ⟨rfl, e6, ed⟩
    · rcases pq2 with pq2 | ⟨rfl, e6, ed⟩
      · exact hf _ _ _ (h3 x k hk hkd pF pq pF2 pq2 (ne x e))
      · rcases d2 e6.symm (fun e1 => e (by rw [← e1, ← ed]; exact p2)) with z | z
        · exact absurd z e
        · exact z.2.2.2.1 k hk hkd ed pF
    · rcases d2 e6.symm (fun e1 => e (by rw [← e1, ← ed]; exact p)) with z | z
      · exact absurd z e
      · exact z.2.2.1 k hk hkd ed pF2
  · intro x k hk hkd p q e
    obtain ⟨pF, pq⟩ := hq _ _ _ p q
    rcases pq with pq | ⟨rfl, e6, rfl⟩
    · exact hf _ _ _ (h4 x k hk hkd pF pq (ne x e))
    · rcases d2 e6.symm (fun e1 => e (by rw [← e1]; exact p)) with z | z
      · exact absurd z e
      · exact z.2.2.2.2.1 hk hkd
  · intro x y k hk hkd p q p2 q2 e e2
    obtain ⟨pF, pq⟩ := hq _ _ _ p q
    obtain ⟨pF2, pq2⟩ := hq _ _ _ p2 q2
    rcases pq2 with pq2 | ⟨rfl, e6, ed⟩
    · rcases pq with pq | ⟨rfl, er, rfl⟩
      · exact hf _ _ _ (h5 x y k hk hkd pF pq pF2 pq2 (ne x e) (ne y e2))
      · rcases d3 (by rw [← er]; exact hro k hk hkd) with z | z
        · exact absurd z e
        · exact z.2.2.2.1 k hk hkd er pF2
    · rcases d2 e6.symm (fun e1 => e2 (by rw [← e1, ← ed]; exact p2)) with z | z
      · exact absurd z e2
      · exact z.2.2.2.2.2 k x hk hkd ed pF
  · intro x y r s hr ht p q e
    obtain ⟨pF, pq⟩ := hq _ _ _ p q
    rcases pq with pq | ⟨rfl, er, rfl⟩
    · exact hf _ _ _ (h6 x y r s hr ht pF pq (ne x e))
    · subst er
      rcases d3 hr with z | z
      · exact absurd z e
      · exact z.2.2.1 s ht
  · intro x y z r s t hr hs ht p q p2 q2 e e2
    obtain ⟨pF, pq⟩ := hq _ _ _ p q
    obtain ⟨pF2, pq2⟩ := hq _ _ _ p2 q2
    rcases pq with pq | ⟨rfl, er, rfl⟩
    · rcases pq2 with pq2 | ⟨rfl, er, rfl⟩
      · exact hf _ _ _ (h7 x y z r s t hr hs ht pF pq pF2 pq2 (ne x e) (ne y e2))
      · subst er
        rcases d3 hs with w | w
        · exact absurd w e2
        · exact w.2.2.2.2.2 r t x hr ht pF
    · subst er
      rcases d3 hr with w | w
      · exact absurd w e
      · exact w.2.2.2.2.1 s t z hs ht pF2
  · intro x y r hr p q e
    obtain ⟨pF, pq⟩ := hq _ _ _ p q
    rcases pq with pq | ⟨rfl, er, rfl⟩
    · exact hf _ _ _ (h8 x y r hr pF pq (ne x e))
    · subst er
      rcases d3 hr with w | w
      · exact absurd w e
      · exact w.1
  · intro x y r hr p q p2 q2
    obtain ⟨pF, pq⟩ := hq _ _ _ p q
    obtain ⟨pF2, pq2⟩ := hq _ _ _ p2 q2
    rcases pq2 with pq2 | ⟨rfl, e6, ed⟩
    · rcases pq with pq | ⟨rfl, er, rfl⟩
      · exact hf _ _ _ (h9 x y r hr pF pq pF2 pq2)
      · subst er
        rcases d3 hr with w | w
        · exact w
        · exact w.2.1 pF2
    · exact d1 e6.symm ed.symm x r hr pF

-- sums: the measure of saturate is a sum over the rows
def tm_sum (g : Nat → Nat) : Nat → Nat
  | 0 => 0
  | n + 1 => tm_sum g n + g n
theorem tm_sum_le {g : Nat → Nat} {k : Nat} : ∀ {n : Nat}, (∀ i, i < n → g i ≤ k) → tm_sum g n ≤ n * k
  | 0, _ => Nat.zero_le _
  | n + 1, h => by
    have a := tm_sum_le (n := n) (fun i hi => h i (Nat.lt_succ_of_lt hi))
    have b := h n (Nat.lt_succ_self n)
    have c : (n + 1) * k = n * k + k := Nat.succ_mul n k
    simp only [tm_sum]
    omega
theorem tm_sum_mono {g f : Nat → Nat} : ∀ {n : Nat}, (∀ i, i < n → g i ≤ f i) → tm_sum g n ≤ tm_sum f n
  | 0, _ => Nat.le_refl _
  | n + 1, h => by
    have a := tm_sum_mono (n := n) (fun i hi => h i (Nat.lt_succ_of_lt hi))
    have b := h n (Nat.lt_succ_self n)
    simp only [tm_sum]
    omega
theorem tm_sum_lt {g f : Nat → Nat} : ∀ {n : Nat}, (∀ i, i < n → g i ≤ f i) → (∃ i, i < n ∧ g i < f i) → tm_sum g n < tm_sum f n
  | 0, _, h => by obtain ⟨i, hi, _⟩ := h; omega
  | n + 1, h, ⟨i, hi, hl⟩ => by
    have b := h n (Nat.lt_succ_self n)
    simp only [tm_sum]
    rcases Nat.lt_or_ge i n with hi' | hi'
    · have a := tm_sum_lt (n := n) (fun i hi => h i (Nat.lt_succ_of_lt hi)) ⟨i, hi', hl⟩
      omega
    · have a := tm_sum_mono (n := n) (fun i hi => h i (Nat.lt_succ_of_lt hi))
      have e : i = n := by omega
      subst e
      omega
theorem tm_sum_zero {g : Nat → Nat} : ∀ {n : Nat}, tm_sum g n = 0 → ∀ i, i < n → g i = 0
  | 0, _, i, hi => by omega
  | n + 1, h, i, hi => by
    simp only [tm_sum] at h
    rcases Nat.lt_or_ge i n with hi' | hi'
    · exact tm_sum_zero (n := n) (by omega) i hi'
    · have e : i = n := by omega
      subst e
      omega
/-- how many of the first n -/
def tm_cnt (p : Nat → Bool) (n : Nat) : Nat := tm_sum (fun i => if p i then 1 else 0) n
theorem tm_cnt_le (p : Nat → Bool) (n : Nat) : tm_cnt p n ≤ n := by
  have := tm_sum_le (g := fun i => if p i then 1 else 0) (k := 1) (n := n) (fun i _ => by split <;> omega)
  simpa [tm_cnt] using this

-- why: the kept set. used i: what is still used when i axioms, from the last one N on, have been tried
def tm_used (inf : Nat → Prop) (E : (Nat → Prop) → Prop) (N : Nat) : Nat → Nat → Prop
  | 0 => inf
  | i + 1 => fun j => tm_used inf E N i j ∧ (j = N - i → ¬ E (fun q => tm_used inf E N i q ∧ q ≠ N - i))
/-- what has been tried stays; what hasn't is in force -/
theorem tm_used_lo {inf : Nat → Prop} {E : (Nat → Prop) → Prop} {N : Nat} : ∀ {i j : Nat}, i ≤ N → j ≤ N - i → (tm_used inf E N i j ↔ inf j)
  | 0, _, _, _ => Iff.rfl
  | i + 1, j, hi, hj => by
    have ih := tm_used_lo (inf := inf) (E := E) (N := N) (i := i) (j := j) (by omega) (by omega)
    simp only [tm_used]
    constructor
    · intro h
      exact ih.mp h.1
    · intro h
      exact ⟨ih.mpr h, fun e => by omega⟩
theorem tm_used_hi {inf : Nat → Prop} {E : (Nat → Prop) → Prop} {N : Nat} {i j : Nat} (hj : N - i < j) : ∀ {m : Nat}, i + m ≤ N → (tm_used inf E N (i + m) j ↔ tm_used inf E N i j)
  | 0, _ => Iff.rfl
  | m + 1, h => by
    have ih := tm_used_hi (inf := inf) (E := E) (N := N) hj (m := m) (by omega)
    show (tm_used inf E N (i + m) j ∧ _) ↔ _
    constructor
    · intro h1
      exact ih.mp h1.1
    · intro h1
      exact ⟨ih.mpr h1, fun e => by have e2 : j = N - (i + m) := e; omega⟩
/-- the kept set: the only one with this property -/
def tm_K (inf : Nat → Prop) (E : (Nat → Prop) → Prop) (N k : Nat) : Prop := tm_used inf E N N k
theorem tm_K_iff {inf : Nat → Prop} {E : (Nat → Prop) → Prop} {N k : Nat} (hE : ∀ U V : Nat → Prop, (∀ j, U j ↔ V j) → (E U ↔ E V)) (hi : ∀ j, inf j → j ≤ N) (h1 : 1 ≤ k) (hk : k ≤ N) :
    tm_K inf E N k ↔ inf k ∧ ¬ E (fun j => (j < k ∧ inf j) ∨ (k < j ∧ tm_K inf E N j)) := by
  have e1 : tm_K inf E N k ↔ tm_used inf E N (N - k + 1) k := by
    have := tm_used_hi (inf := inf) (E := E) (N := N) (i := N - k + 1) (j := k) (by omega) (m := k - 1) (by omega)
    rw [show N - k + 1 + (k - 1) = N by omega] at this
    exact this
  rw [e1]
  simp only [tm_used]
  rw [show N - (N - k) = k by omega]
  have lo := tm_used_lo (inf := inf) (E := E) (N := N) (i := N - k) (j := k) (by omega) (by omega)
  have hs : ∀ j, (tm_used inf E N (N - k) j ∧ j ≠ k) ↔ ((j < k ∧ inf j) ∨ (k < j ∧ tm_K inf E N j)) := by
    intro j
    rcases Nat.lt_trichotomy j k with h | h | h
    · have l := tm_used_lo (inf := inf) (E := E) (N := N) (i := N - k) (j := j) (by omega) (by omega)
      constructor
      · intro a
        exact Or.inl ⟨h, l.mp a.1⟩
      · intro a
        rcases a with a | a
        · exact ⟨l.mpr a.2, by omega⟩
        · omega
    · constructor
      · intro a
        exact absurd h a.2
      · intro a
        rcases a with a | a <;> omega
    · have l := tm_used_hi (inf := inf) (E := E) (N := N) (i := N - k) (j := j) (by omega) (m := k) (by omega)
      rw [show N - k + k = N by omega] at l
      constructor
      · intro a
        exact Or.inr ⟨h, l.mpr a.1⟩
      · intro a
        rcases a with a | a
        · omega
        · exact ⟨l.mp a.2, by omega⟩
  constructor
  · intro a
    exact ⟨lo.mp a.1, fun e => a.2 rfl ((hE _ _ hs).mpr e)⟩
  · intro a
    exact ⟨lo.mpr a.1, fun _ e => a.2 ((hE _ _ hs).mp e)⟩
