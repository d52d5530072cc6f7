/-! TermServer: what its readers answer, by the tables of bits; counts. -/
noncomputable def dB (p : Prop) : Bool := @decide p (Classical.propDecidable p)
theorem dB_iff {p : Prop} : dB p = true ↔ p := @decide_eq_true_iff p (Classical.propDecidable p)
theorem dB_eq {p : Prop} {b : Bool} (h : b = true ↔ p) : b = dB p := by
  cases b with
  | true => exact (dB_iff.mpr (h.mp rfl)).symm
  | false =>
    cases hq : dB p with
    | true => exact absurd (h.mpr (dB_iff.mp hq)) (by decide)
    | false => rfl
theorem dB_f {p : Prop} : dB p = false ↔ ¬ p := by
  constructor
  · intro h z
    rw [dB_iff.mpr z] at h
    cases h
  · intro h
    cases hq : dB p with
    | true => exact absurd (dB_iff.mp hq) h
    | false => rfl
theorem dB_congr {p q : Prop} (h : p ↔ q) : dB p = dB q := dB_eq (dB_iff.trans h)
theorem cnt_yes {p : Nat → Bool} {n : Nat} (h : p n = true) : tm_cnt p (n + 1) = tm_cnt p n + 1 := by
  show tm_cnt p n + (if p n then 1 else 0) = _
  rw [h]
  rfl
theorem cnt_no {p : Nat → Bool} {n : Nat} (h : p n = false) : tm_cnt p (n + 1) = tm_cnt p n := by
  show tm_cnt p n + (if p n then 1 else 0) = _
  rw [h]
  rfl
theorem sum_congr {f g : Nat → Nat} : ∀ {n : Nat}, (∀ i, i < n → f i = g i) → tm_sum f n = tm_sum g n
  | 0, _ => rfl
  | n + 1, h => by
    show tm_sum f n + f n = tm_sum g n + g n
    rw [sum_congr (n := n) (fun i hi => h i (by omega)), h n (by omega)]
theorem cnt_congr {p q : Nat → Bool} {n : Nat} (h : ∀ i, i < n → p i = q i) : tm_cnt p n = tm_cnt q n := sum_congr (fun i hi => by rw [h i hi])
theorem cnt_up {p : Nat → Bool} {n m : Nat} (h : n ≤ m) : tm_cnt p n ≤ tm_cnt p m := by
  induction m with
  | zero => rw [show n = 0 by omega]; exact Nat.le_refl _
  | succ m ih =>
    rcases Nat.lt_or_ge m n with z | z
    · rw [show n = m + 1 by omega]; exact Nat.le_refl _
    · refine Nat.le_trans (ih z) ?_
      show _ ≤ tm_cnt p m + _
      omega
theorem cnt_inj {p : Nat → Bool} {j k : Nat} (hj : p j = true) (hk : p k = true) (h : tm_cnt p j = tm_cnt p k) : j = k := by
  rcases Nat.lt_trichotomy j k with z | z | z
  · have := cnt_up (p := p) (show j + 1 ≤ k from z)
    rw [cnt_yes hj] at this
    omega
  · exact z
  · have := cnt_up (p := p) (show k + 1 ≤ j from z)
    rw [cnt_yes hk] at this
    omega
/-- e is above d, by the facts; a name; .. -/
def s_cv (u : sU) (d k : Nat) : Bool := u.1 0 (d * 7 + 6) 1 || u.1 0 (d * 7 + 6) k
def s_nm (u : sU) (k : Nat) : Bool := decide (u.2.1 0 k = nI 1)
def s_na (u : sU) (d k : Nat) : Bool := s_nm u k && s_cv u d k
def s_nb (u : sU) (d d2 k : Nat) : Bool := s_na u d k && s_cv u d2 k
def s_sb (u : sU) (d k : Nat) : Bool := s_cv u d k && !s_cv u k d
noncomputable def s_lo (u : sU) (d d2 k : Nat) : Bool := dB (∀ b, b < u.2.2 0 → (s_nb u d d2 b = true → s_cv u b k = true → ¬ b < k ∧ s_cv u k b = true))
theorem s_lo_t {u : sU} {d d2 k : Nat} (h : ∀ b, b < u.2.2 0 → (s_nb u d d2 b = true → s_cv u b k = true → ¬ b < k ∧ s_cv u k b = true)) : s_lo u d d2 k = true := dB_iff.mpr h
theorem s_lo_f {u : sU} {d d2 k b : Nat} (hb : b < u.2.2 0) (h1 : s_nb u d d2 b = true) (h2 : s_cv u b k = true) (h3 : b < k ∨ s_cv u k b = false) : s_lo u d d2 k = false := dB_f.mpr (fun z => by
  have := z b hb h1 h2
  rcases h3 with q | q
  · exact this.1 q
  · rw [this.2] at q; cases q)
/-- the least one of f: below d, or d itself -/
def q_le (f : Nat → Bool) (d : Nat) : Nat → Nat
  | 0 => d
  | n + 1 => if f (d - (n + 1)) then d - (n + 1) else q_le f d n
theorem q_le_of {f : Nat → Bool} {d k : Nat} (h : ∀ b, b < k → f b = false) (hk : k ≤ d) (he : k = d ∨ f k = true) : ∀ n, d - k ≤ n → n ≤ d → q_le f d n = k
  | 0, h1, _ => by show d = k; omega
  | n + 1, h1, h2 => by
    show (if f (d - (n + 1)) then d - (n + 1) else q_le f d n) = k
    rcases Nat.lt_or_ge n (d - k) with z | z
    · have e : d - (n + 1) = k := by omega
      rw [e]
      rcases he with q | q
      · omega
      · rw [if_pos q]
    · rw [h (d - (n + 1)) (by omega)]
      exact q_le_of h hk he n z (by omega)
def s_le (u : sU) (d : Nat) : Nat := q_le (fun b => s_cv u d b && s_cv u b d) d d
theorem s_le_of {u : sU} {d k : Nat} (h : ∀ b, b < k → ¬ (s_cv u d b = true ∧ s_cv u b d = true)) (hk : k ≤ d) (he : k = d ∨ (s_cv u d k = true ∧ s_cv u k d = true)) : s_le u d = k := by
  refine q_le_of (fun b hb => ?_) hk (he.imp id (fun z => by rw [z.1, z.2]; rfl)) d (by omega) (Nat.le_refl _)
  cases h1 : s_cv u d b with
  | false => rfl
  | true =>
    cases h2 : s_cv u b d with
    | false => rfl
    | true => exact absurd ⟨h1, h2⟩ (h b hb)
theorem q_le_le (f : Nat → Bool) (d : Nat) : ∀ n, q_le f d n ≤ d
  | 0 => Nat.le_refl _
  | n + 1 => by
    show (if f (d - (n + 1)) then d - (n + 1) else q_le f d n) ≤ d
    split
    · omega
    · exact q_le_le f d n
theorem s_le_le (u : sU) (d : Nat) : s_le u d ≤ d := q_le_le _ _ _
