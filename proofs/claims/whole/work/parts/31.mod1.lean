/-! The model: what its tables say; what one step of its drawing does. Its state: tables of bits (above, below, leads), arrays (kinds, firsts, seconds, sorts, as, bs, cs, force, used, reasons), counts (thrown, size, told, closed, more, many). -/
def m_kd (kd : Nat → Nat) (k : Nat) : Nat := if k < 2 then k else kd k + 1
/-- descriptions and axioms, as the model holds them -/
def m_tab (u : sU) (N : Nat) (kd fa fb : Nat → Nat) (T : Nat) (so xa xb xc : Nat → Nat) : Prop :=
  u.2.2 1 = N ∧ 2 ≤ N ∧ N ≤ 160 ∧ u.2.2 2 = T ∧ T ≤ 100 ∧ kd 0 = 0 ∧ kd 1 = 0 ∧
  (∀ k, k < N → u.2.1 0 k = nI (m_kd kd k) ∧ kd k ≤ 3 ∧ (2 ≤ k → 1 ≤ kd k)) ∧
  (∀ k, k < N → kd k = 2 → u.2.1 1 k = nI (fa k) ∧ u.2.1 2 k = nI (fb k) ∧ fa k < N ∧ fb k < N) ∧
  (∀ k, k < N → kd k = 3 → u.2.1 1 k = nI (fa k) ∧ u.2.1 2 k = nI (fb k) ∧ fa k < 6 ∧ fb k < N) ∧
  (∀ k, 1 ≤ k → k ≤ T → (u.2.1 3 k = nI (so k) ∧ so k ≤ 3 ∧ u.2.1 4 k = nI (xa k) ∧ u.2.1 5 k = nI (xb k) ∧ (so k ≤ 1 → xa k < N ∧ xb k < N) ∧ (2 ≤ so k → xa k < 6 ∧ xb k < 6) ∧ (so k = 3 → u.2.1 6 k = nI (xc k) ∧ xc k < 6)))
/-- those used -/
def m_use (u : sU) (T : Nat) (U : Nat → Prop) : Prop := (∀ k, U k → 1 ≤ k ∧ k ≤ T) ∧ ∀ k, 1 ≤ k → k ≤ T → u.2.1 8 k = bI (dB (U k))
def m_rng (u : sU) : Prop := (∀ y b, 160 ≤ y → u.1 0 y b = false ∧ u.1 1 y b = false) ∧ ∀ y b, 960 ≤ y → u.1 2 y b = false
/-- all that is set follows -/
def m_ok (u : sU) (N : Nat) (kd fa fb so xa xb xc : Nat → Nat) (U : Nat → Prop) : Prop :=
  (∀ x y, u.1 0 x y = true → x < N ∧ y < N ∧ b_Bel N kd fa fb so xa xb xc U x y) ∧ (∀ x y, u.1 1 y x = u.1 0 x y) ∧
  (∀ z y, u.1 2 z y = true → z / 160 < 6 ∧ z % 160 < N ∧ y < N ∧ b_Lnk N kd fa fb so xa xb xc U (z / 160) (z % 160) y)
/-- bits that aren't set -/
def m_ms (u : sU) : Nat := tm_sum (fun y => tm_cnt (fun b => !u.1 0 y b) 160) 160 + tm_sum (fun y => tm_cnt (fun b => !u.1 2 y b) 160) 960
/-- more bits; and 'more' says so -/
def m_ext (u v : sU) : Prop := v.2.1 = u.2.1 ∧ (∀ j, ¬ j = 4 → v.2.2 j = u.2.2 j) ∧ (∀ i y b, u.1 i y b = true → v.1 i y b = true) ∧ ((v.1 = u.1 ∧ v.2.2 4 = u.2.2 4) ∨ (v.2.2 4 = 1 ∧ m_ms v < m_ms u))
theorem not_mono {x y : Bool} (h : x = true → y = true) (hy : (!y) = true) : (!x) = true := by
  cases x with
  | false => rfl
  | true => rw [h rfl] at hy; exact hy
theorem ms_lt {u v : sU} (hg : ∀ i y b, u.1 i y b = true → v.1 i y b = true) (hn : (∃ y b, y < 160 ∧ b < 160 ∧ u.1 0 y b = false ∧ v.1 0 y b = true) ∨ (∃ y b, y < 960 ∧ b < 160 ∧ u.1 2 y b = false ∧ v.1 2 y b = true)) : m_ms v < m_ms u := by
  have g0 : ∀ i n, ∀ y, y < n → tm_cnt (fun b => !v.1 i y b) 160 ≤ tm_cnt (fun b => !u.1 i y b) 160 := fun i n y _ => cnt_mono (fun b _ z => not_mono (hg i y b) z)
  have l0 := tm_sum_mono (g0 0 160)
  have l2 := tm_sum_mono (g0 2 960)
  have key : ∀ i n, (∃ y b, y < n ∧ b < 160 ∧ u.1 i y b = false ∧ v.1 i y b = true) → tm_sum (fun y => tm_cnt (fun b => !v.1 i y b) 160) n < tm_sum (fun y => tm_cnt (fun b => !u.1 i y b) 160) n := by
    rintro i n ⟨y, b, h1, h2, h3, h4⟩
    refine tm_sum_lt (g0 i n) ⟨y, h1, cnt_lt (b := b) (fun b _ z => not_mono (hg i y b) z) h2 ?_ ?_⟩
    · show ¬ (!v.1 i y b) = true
      rw [h4]; decide
    · show (!u.1 i y b) = true
      rw [h3]; rfl
  unfold m_ms
  rcases hn with z | z
  · have := key 0 160 z
    omega
  · have := key 2 960 z
    omega
theorem ms_congr {u v : sU} (h : v.1 = u.1) : m_ms v = m_ms u := by unfold m_ms; rw [h]
theorem me_refl (u : sU) : m_ext u u := ⟨rfl, fun _ _ => rfl, fun _ _ _ h => h, Or.inl ⟨rfl, rfl⟩⟩
theorem me_trans {u v w : sU} (h : m_ext u v) (k : m_ext v w) : m_ext u w := by
  obtain ⟨a1, a2, a3, a4⟩ := h
  obtain ⟨b1, b2, b3, b4⟩ := k
  refine ⟨b1.trans a1, fun j z => (b2 j z).trans (a2 j z), fun i y b z => b3 i y b (a3 i y b z), ?_⟩
  rcases b4 with b4 | b4
  · rcases a4 with a4 | a4
    · exact Or.inl ⟨b4.1.trans a4.1, b4.2.trans a4.2⟩
    · exact Or.inr ⟨b4.2.trans a4.1, by rw [ms_congr b4.1]; exact a4.2⟩
  · rcases a4 with a4 | a4
    · exact Or.inr ⟨b4.1, by rw [← ms_congr a4.1]; exact b4.2⟩
    · exact Or.inr ⟨b4.1, Nat.lt_trans b4.2 a4.2⟩
theorem me_sand {u v w : sU} (h : m_ext u v) (k : m_ext v w) (e : w.1 = u.1) : v.1 = u.1 ∧ w.1 = v.1 := by
  have e1 : v.1 = u.1 := by
    funext i y b
    cases hu : u.1 i y b with
    | true => exact h.2.2.1 i y b hu
    | false =>
      cases hv : v.1 i y b with
      | false => rfl
      | true =>
        have := k.2.2.1 i y b hv
        rw [e, hu] at this
        cases this
  exact ⟨e1, e.trans e1.symm⟩
theorem me_4 {u v : sU} (h : m_ext u v) (h4 : u.2.2 4 ≤ 1) : v.2.2 4 ≤ 1 := by
  rcases h.2.2.2 with z | z
  · rw [z.2]; exact h4
  · rw [z.1]; exact Nat.le_refl _
section MOD
variable {u v w : sU} {N : Nat} {kd fa fb : Nat → Nat} {T : Nat} {so xa xb xc : Nat → Nat} {U : Nat → Prop} {x y z k : Nat}
theorem tab_of (h : m_tab u N kd fa fb T so xa xb xc) (e1 : v.2.1 = u.2.1) (e2 : v.2.2 1 = u.2.2 1) (e3 : v.2.2 2 = u.2.2 2) : m_tab v N kd fa fb T so xa xb xc := by
  unfold m_tab
  rw [e1, e2, e3]
  exact h
theorem me_tab (h : m_tab u N kd fa fb T so xa xb xc) (k : m_ext u v) : m_tab v N kd fa fb T so xa xb xc := tab_of h k.1 (k.2.1 1 (by decide)) (k.2.1 2 (by decide))
theorem use_of (h : m_use u T U) (e : v.2.1 = u.2.1) : m_use v T U := by
  unfold m_use
  rw [e]
  exact h
theorem me_use (h : m_use u T U) (k : m_ext u v) : m_use v T U := use_of h k.1
theorem mt_N (h : m_tab u N kd fa fb T so xa xb xc) : u.2.2 1 = N ∧ 2 ≤ N ∧ N ≤ 160 ∧ u.2.2 2 = T ∧ T ≤ 100 := ⟨h.1, h.2.1, h.2.2.1, h.2.2.2.1, h.2.2.2.2.1⟩
theorem mt_k (h : m_tab u N kd fa fb T so xa xb xc) {j : Nat} (hk : k < N) (h1 : 1 ≤ j) (h3 : j ≤ 3) : u.2.1 0 k = nI (j + 1) ↔ kd k = j := by
  obtain ⟨e, h2, h4⟩ := h.2.2.2.2.2.2.2.1 k hk
  rw [e]
  unfold m_kd
  by_cases z : k < 2
  · rw [if_pos z, nI_eq (by omega) (by omega)]
    have e0 : kd k = 0 := by
      rcases Nat.lt_or_ge k 1 with w | w
      · rw [show k = 0 by omega]; exact h.2.2.2.2.2.1
      · rw [show k = 1 by omega]; exact h.2.2.2.2.2.2.1
    omega
  · rw [if_neg z, nI_eq (by omega) (by omega)]
    omega
theorem mt_2 (h : m_tab u N kd fa fb T so xa xb xc) (hk : k < N) (h2 : kd k = 2) : u.2.1 1 k = nI (fa k) ∧ u.2.1 2 k = nI (fb k) ∧ fa k < N ∧ fb k < N := h.2.2.2.2.2.2.2.2.1 k hk h2
theorem mt_3 (h : m_tab u N kd fa fb T so xa xb xc) (hk : k < N) (h2 : kd k = 3) : u.2.1 1 k = nI (fa k) ∧ u.2.1 2 k = nI (fb k) ∧ fa k < 6 ∧ fb k < N := h.2.2.2.2.2.2.2.2.2.1 k hk h2
theorem mt_a (h : m_tab u N kd fa fb T so xa xb xc) (h1 : 1 ≤ k) (h2 : k ≤ T) : u.2.1 3 k = nI (so k) ∧ so k ≤ 3 ∧ u.2.1 4 k = nI (xa k) ∧ u.2.1 5 k = nI (xb k) ∧ (so k ≤ 1 → xa k < N ∧ xb k < N) ∧ (2 ≤ so k → xa k < 6 ∧ xb k < 6) ∧ (so k = 3 → u.2.1 6 k = nI (xc k) ∧ xc k < 6) := h.2.2.2.2.2.2.2.2.2.2 k h1 h2
theorem mo_rng (h : m_ok u N kd fa fb so xa xb xc U) (hN : N ≤ 160) : m_rng u := by
  have a : ∀ y b, 160 ≤ y → u.1 0 y b = false := fun y b z => ts_nt (fun w => by have := (h.1 y b w).1; omega)
  refine ⟨fun y b z => ⟨a y b z, ts_nt (fun w => ?_)⟩, fun y b z => ts_nt (fun w => ?_)⟩
  · rw [h.2.1 b y] at w
    have := (h.1 b y w).2.1
    omega
  · have := (h.2.2 y b w).1
    omega
/-- the row of a link -/
theorem rw_dv {r x : Nat} (h : x < 160) : (160 * r + x) / 160 = r ∧ (160 * r + x) % 160 = x := by omega
theorem mo_l (h : m_ok u N kd fa fb so xa xb xc U) {r : Nat} (hx : x < 160) (hl : u.1 2 (160 * r + x) y = true) : r < 6 ∧ x < N ∧ y < N ∧ b_Lnk N kd fa fb so xa xb xc U r x y := by
  have := h.2.2 _ _ hl
  rw [(rw_dv hx).1, (rw_dv hx).2] at this
  exact this
/-- add -/
def m_put (u : sU) (x y : Nat) : sU := (va_up (va_up u.1 0 (tm_put (u.1 0) x y)) 1 (tm_put (u.1 1) y x), u.2.1, va_up u.2.2 4 1)
def m_add (u v : sU) (x y : Nat) : Prop := (u.1 0 x y = true ∧ v = u) ∨ (u.1 0 x y = false ∧ v = m_put u x y)
theorem add_of (h : m_add u v x y) (hx : x < N) (hy : y < N) (hN : N ≤ 160) (ho : m_ok u N kd fa fb so xa xb xc U) (hb : b_Bel N kd fa fb so xa xb xc U x y) : m_ext u v ∧ m_ok v N kd fa fb so xa xb xc U ∧ (v.1 = u.1 → u.1 0 x y = true) ∧ v.1 0 x y = true ∧ v.1 2 = u.1 2 := by
  rcases h with ⟨h1, h2⟩ | ⟨h1, h2⟩
  · rw [h2]
    exact ⟨me_refl u, ho, fun _ => h1, h1, rfl⟩
  · have hn : v.1 0 x y = true := by
      rw [h2]
      show tm_put (u.1 0) x y x y = true
      exact tm_put_iff.mpr (Or.inr ⟨rfl, rfl⟩)
    have e0 : ∀ x' y', v.1 0 x' y' = true ↔ u.1 0 x' y' = true ∨ (x' = x ∧ y' = y) := fun x' y' => by
      rw [h2]
      exact tm_put_iff
    have e1 : ∀ x' y', v.1 1 x' y' = true ↔ u.1 1 x' y' = true ∨ (x' = y ∧ y' = x) := fun x' y' => by
      rw [h2]
      exact tm_put_iff
    have e2 : v.1 2 = u.1 2 := by rw [h2]; rfl
    have hg : ∀ i y' b, u.1 i y' b = true → v.1 i y' b = true := fun i y' b hz => by
      by_cases i1 : i = 1
      · subst i1
        exact (e1 y' b).mpr (Or.inl hz)
      · by_cases i0 : i = 0
        · subst i0
          exact (e0 y' b).mpr (Or.inl hz)
        · rw [h2]
          show va_up (va_up u.1 0 _) 1 _ i y' b = true
          rw [va_up_ne _ _ i1, va_up_ne _ _ i0]
          exact hz
    refine ⟨⟨by rw [h2]; rfl, fun j hj => by rw [h2]; exact va_up_ne _ _ hj, hg, Or.inr ⟨by rw [h2]; rfl, ms_lt hg (Or.inl ⟨x, y, by omega, by omega, h1, hn⟩)⟩⟩, ⟨fun x' y' hz => ?_, fun x' y' => ?_, by rw [e2]; exact ho.2.2⟩, fun e => ?_, hn, e2⟩
    · rcases (e0 x' y').mp hz with hz | hz
      · exact ho.1 x' y' hz
      · rw [hz.1, hz.2]
        exact ⟨hx, hy, hb⟩
    · have k1 := e0 x' y'
      have k2 := e1 y' x'
      rw [ho.2.1 x' y'] at k2
      cases p0 : v.1 0 x' y' with
      | true =>
        rcases k1.mp p0 with q | q
        · exact k2.mpr (Or.inl q)
        · exact k2.mpr (Or.inr ⟨q.2, q.1⟩)
      | false =>
        refine ts_nt (fun q => ?_)
        rcases k2.mp q with q | q
        · rw [k1.mpr (Or.inl q)] at p0; cases p0
        · rw [k1.mpr (Or.inr ⟨q.2, q.1⟩)] at p0; cases p0
    · rw [← e]
      exact hn
/-- a link is set -/
def m_lk (u : sU) (z y : Nat) : sU := (va_up u.1 2 (tm_put (u.1 2) z y), u.2.1, va_up u.2.2 4 1)
theorem lk_of {r : Nat} (h1 : u.1 2 (160 * r + x) y = false) (hr : r < 6) (hx : x < N) (hy : y < N) (hN : N ≤ 160) (ho : m_ok u N kd fa fb so xa xb xc U) (hb : b_Lnk N kd fa fb so xa xb xc U r x y) : m_ext u (m_lk u (160 * r + x) y) ∧ m_ok (m_lk u (160 * r + x) y) N kd fa fb so xa xb xc U ∧ ¬ (m_lk u (160 * r + x) y).1 = u.1 := by
  have e2 : ∀ z' y', (m_lk u (160 * r + x) y).1 2 z' y' = true ↔ u.1 2 z' y' = true ∨ (z' = 160 * r + x ∧ y' = y) := fun z' y' => tm_put_iff
  have hn : (m_lk u (160 * r + x) y).1 2 (160 * r + x) y = true := (e2 _ _).mpr (Or.inr ⟨rfl, rfl⟩)
  have hg : ∀ i y' b, u.1 i y' b = true → (m_lk u (160 * r + x) y).1 i y' b = true := fun i y' b hz => by
    by_cases i2 : i = 2
    · subst i2
      exact (e2 y' b).mpr (Or.inl hz)
    · show va_up u.1 2 _ i y' b = true
      rw [va_up_ne _ _ i2]
      exact hz
  refine ⟨⟨rfl, fun j hj => va_up_ne _ _ hj, hg, Or.inr ⟨rfl, ms_lt hg (Or.inr ⟨160 * r + x, y, by omega, by omega, h1, hn⟩)⟩⟩, ⟨ho.1, ho.2.1, fun z' y' hz => ?_⟩, fun e => ?_⟩
  · rcases (e2 z' y').mp hz with hz | hz
    · exact ho.2.2 z' y' hz
    · rw [hz.1, hz.2, (rw_dv (show x < 160 by omega)).1, (rw_dv (show x < 160 by omega)).2]
      exact ⟨hr, hx, hy, hb⟩
  · rw [e, h1] at hn
    cases hn
end MOD
/-- join: the first k words -/
def m_jk (B : Nat → Nat → Bool) (z f k : Nat) : Nat → Nat → Bool := fun y b => B y b || (y == z && (decide (b < 64 * k) && B f b))
theorem jk_iff {B : Nat → Nat → Bool} {z f k y b : Nat} : m_jk B z f k y b = true ↔ B y b = true ∨ (y = z ∧ b < 64 * k ∧ B f b = true) := by
  simp [m_jk]
theorem bl_ext {a b : Bool} (h : a = true ↔ b = true) : a = b := by
  cases a with
  | true => exact (h.mp rfl).symm
  | false =>
    cases b with
    | false => rfl
    | true => exact absurd (h.mpr rfl) (by decide)
theorem jk_0 {B : Nat → Nat → Bool} {z f : Nat} : m_jk B z f 0 = B := by
  funext y b
  refine bl_ext (jk_iff.trans ⟨fun h => h.elim id (fun h => by omega), Or.inl⟩)
theorem bw_q {wp : Nat} (B : Nat → Nat → Bool) {r q : Nat} (h : q < wp) : bw wp B (r * wp + q) = tm_w (fun i => B r (q * 64 + i)) := by
  unfold bw
  rw [(bw_dv h).1, (bw_dv h).2]
theorem jk_or {B : Nat → Nat → Bool} {z f k : Nat} {i : Nat} (hk : k < 3) (hi : i < 64) : (bw 3 (m_jk B z f k) (3 * z + k) ||| bw 3 (m_jk B z f k) (3 * f + k)).toBitVec.getLsbD i = m_jk B z f (k + 1) z (k * 64 + i) := by
  rw [Nat.mul_comm 3 z, Nat.mul_comm 3 f, Int64.toBitVec_or, BitVec.getLsbD_or, bw_q _ hk, bw_q _ hk, tm_w_get _ hi, tm_w_get _ hi]
  refine bl_ext ?_
  rw [Bool.or_eq_true, jk_iff, jk_iff, jk_iff]
  constructor
  · rintro ((h | h) | (h | h))
    · exact Or.inl h
    · omega
    · exact Or.inr ⟨rfl, by omega, h⟩
    · omega
  · rintro (h | h)
    · exact Or.inl (Or.inl h)
    · exact Or.inr (Or.inl h.2.2)
theorem jk_s {B : Nat → Nat → Bool} {z f k : Nat} (hk : k < 3) : vp_updL (bw 3 (m_jk B z f k)) (3 * z + k) (bw 3 (m_jk B z f k) (3 * z + k) ||| bw 3 (m_jk B z f k) (3 * f + k)) = bw 3 (m_jk B z f (k + 1)) := by
  have e := fun i hi => jk_or (B := B) (z := z) (f := f) (i := i) hk hi
  generalize bw 3 (m_jk B z f k) (3 * z + k) ||| bw 3 (m_jk B z f k) (3 * f + k) = x at e ⊢
  rw [Nat.mul_comm 3 z]
  refine bw_upd hk e (fun y b hn => bl_ext ?_)
  rw [jk_iff, jk_iff]
  constructor
  · rintro (h | h)
    · exact Or.inl h
    · refine Or.inr ⟨h.1, ?_, h.2.2⟩
      have : ¬ b / 64 = k := fun q => hn ⟨h.1, q⟩
      omega
  · rintro (h | h)
    · exact Or.inl h
    · exact Or.inr ⟨h.1, by omega, h.2.2⟩
theorem jk_eq {B : Nat → Nat → Bool} {z f k : Nat} (hk : k < 3) (h : bw 3 (m_jk B z f k) (3 * z + k) ||| bw 3 (m_jk B z f k) (3 * f + k) = bw 3 (m_jk B z f k) (3 * z + k)) : m_jk B z f (k + 1) = m_jk B z f k := by
  funext y b
  refine bl_ext ?_
  rw [jk_iff, jk_iff]
  constructor
  · rintro (q | ⟨q1, q2, q3⟩)
    · exact Or.inl q
    · by_cases c : b < 64 * k
      · exact Or.inr ⟨q1, c, q3⟩
      · have e := jk_or (B := B) (z := z) (f := f) (k := k) (i := b - k * 64) hk (by omega)
        rw [h, Nat.mul_comm 3 z, bw_q _ hk, tm_w_get _ (by omega), show k * 64 + (b - k * 64) = b by omega] at e
        have e2 : m_jk B z f (k + 1) z b = true := jk_iff.mpr (Or.inr ⟨rfl, q2, q3⟩)
        rw [e2] at e
        rw [q1]
        exact jk_iff.mp e
  · rintro (q | q)
    · exact Or.inl q
    · exact Or.inr ⟨q.1, by omega, q.2.2⟩
theorem jk_ne {B : Nat → Nat → Bool} {z f k : Nat} (hk : k < 3) (h : ¬ bw 3 (m_jk B z f k) (3 * z + k) ||| bw 3 (m_jk B z f k) (3 * f + k) = bw 3 (m_jk B z f k) (3 * z + k)) : ¬ m_jk B z f (k + 1) = m_jk B z f k := fun e => h (by
  have e2 := congrFun (jk_s (B := B) (z := z) (f := f) hk) (3 * z + k)
  rw [e] at e2
  simpa [vp_updL] using e2)
/-- what 'more' is behind k words -/
def m_jm (B : Nat → Nat → Bool) (z f k m0 m : Nat) : Prop := m ≤ 1 ∧ (m_jk B z f k = B → m = m0) ∧ (¬ m_jk B z f k = B → m = 1)
theorem jm_0 {B : Nat → Nat → Bool} {z f m0 : Nat} (h : m0 ≤ 1) : m_jm B z f 0 m0 m0 := ⟨h, fun _ => rfl, fun h => absurd jk_0 h⟩
theorem jm_mono {B : Nat → Nat → Bool} {z f k : Nat} (h : m_jk B z f (k + 1) = B) : m_jk B z f k = B := by
  funext y b
  refine bl_ext (jk_iff.trans ⟨fun q => q.elim id (fun q => ?_), Or.inl⟩)
  rw [← h]
  exact jk_iff.mpr (Or.inr ⟨q.1, by omega, q.2.2⟩)
theorem jm_1 {B : Nat → Nat → Bool} {z f k m0 m : Nat} (h : m_jm B z f k m0 m) (hm : ¬ m = 0) : m_jm B z f (k + 1) m0 1 :=
  ⟨Nat.le_refl _, fun e => by have := h.2.1 (jm_mono e); have := h.1; omega, fun _ => rfl⟩
theorem jm_2 {B : Nat → Nat → Bool} {z f k m0 m : Nat} (h : m_jm B z f k m0 m) (hm : m = 0) (e : m_jk B z f (k + 1) = m_jk B z f k) : m_jm B z f (k + 1) m0 0 := by
  unfold m_jm
  rw [e, ← hm]
  exact h
theorem jm_3 {B : Nat → Nat → Bool} {z f k m0 m : Nat} (h : m_jm B z f k m0 m) (hm : m = 0) (e : ¬ m_jk B z f (k + 1) = m_jk B z f k) : m_jm B z f (k + 1) m0 1 :=
  ⟨Nat.le_refl _, fun q => absurd (q.trans (jm_mono q).symm) e, fun _ => rfl⟩
def m_join (u v : sU) (z f : Nat) : Prop := ∃ m, v = (va_up u.1 2 (m_jk (u.1 2) z f 3), u.2.1, va_up u.2.2 4 m) ∧ m_jm (u.1 2) z f 3 (u.2.2 4) m
theorem up_self {α : Type} {f : Nat → α} {i : Nat} : va_up f i (f i) = f := by
  funext j
  by_cases h : j = i
  · subst h
    exact va_up_self _ _ _
  · exact va_up_ne _ _ h
section MOD2
variable {u v w : sU} {N : Nat} {kd fa fb : Nat → Nat} {T : Nat} {so xa xb xc : Nat → Nat} {U : Nat → Prop} {x y z k : Nat}
theorem join_of {r f : Nat} (h : m_join u v (160 * r + x) f) (hr : r < 6) (hx : x < N) (hN : N ≤ 160) (ho : m_ok u N kd fa fb so xa xb xc U) (hs : ∀ y, u.1 2 f y = true → b_Lnk N kd fa fb so xa xb xc U r x y) : m_ext u v ∧ m_ok v N kd fa fb so xa xb xc U ∧ (v.1 = u.1 → ∀ y, u.1 2 f y = true → u.1 2 (160 * r + x) y = true) := by
  obtain ⟨m, e, h1, h2, h3⟩ := h
  have hx2 : x < 160 := by omega
  have e2 : v.1 2 = m_jk (u.1 2) (160 * r + x) f 3 := by rw [e]; rfl
  have hg : ∀ i y' b, u.1 i y' b = true → v.1 i y' b = true := fun i y' b hz => by
    by_cases i2 : i = 2
    · subst i2
      rw [e2]
      exact jk_iff.mpr (Or.inl hz)
    · rw [e]
      show va_up u.1 2 _ i y' b = true
      rw [va_up_ne _ _ i2]
      exact hz
  have em : v.2.2 4 = m := by rw [e]; rfl
  refine ⟨⟨by rw [e], fun j hj => by rw [e]; exact va_up_ne _ _ hj, hg, ?_⟩, ⟨?_, ?_, fun z' y' hz => ?_⟩, fun q y' hz => ?_⟩
  · by_cases c : m_jk (u.1 2) (160 * r + x) f 3 = u.1 2
    · refine Or.inl ⟨?_, em.trans (h2 c)⟩
      rw [e]
      show va_up u.1 2 _ = u.1
      rw [c]
      exact up_self
    · refine Or.inr ⟨em.trans (h3 c), ms_lt hg (Or.inr (Classical.byContradiction (fun q => c ?_)))⟩
      funext y' b
      refine bl_ext (jk_iff.trans ⟨fun hz => hz.elim id (fun hz => ?_), Or.inl⟩)
      cases p : u.1 2 y' b with
      | true => rfl
      | false =>
        have hz3 := (ho.2.2 _ _ hz.2.2).2.2.1
        refine absurd ⟨y', b, by omega, by omega, p, ?_⟩ q
        rw [e2]
        exact jk_iff.mpr (Or.inr hz)
  · rw [show v.1 0 = u.1 0 by rw [e]; rfl]
    exact ho.1
  · rw [show v.1 0 = u.1 0 by rw [e]; rfl, show v.1 1 = u.1 1 by rw [e]; rfl]
    exact ho.2.1
  · rw [e2] at hz
    rcases jk_iff.mp hz with hz | hz
    · exact ho.2.2 z' y' hz
    · rw [hz.1, (rw_dv hx2).1, (rw_dv hx2).2]
      exact ⟨hr, hx, (ho.2.2 _ _ hz.2.2).2.2.1, hs y' hz.2.2⟩
  · rw [← q, e2]
    have := (ho.2.2 _ _ hz).2.2.1
    exact jk_iff.mpr (Or.inr ⟨rfl, by omega, hz⟩)
/-- meets -/
noncomputable def m_mt (u : sU) (z d : Nat) : Bool := dB (∃ b, b < 192 ∧ u.1 2 z b = true ∧ u.1 1 d b = true)
theorem mt_iff {r d : Nat} (ho : m_ok u N kd fa fb so xa xb xc U) (hN : N ≤ 160) : m_mt u (160 * r + x) d = true ↔ ∃ b, u.1 2 (160 * r + x) b = true ∧ u.1 0 b d = true := by
  refine dB_iff.trans ⟨fun ⟨b, _, h1, h2⟩ => ⟨b, h1, by rw [← ho.2.1]; exact h2⟩, fun ⟨b, h1, h2⟩ => ⟨b, ?_, h1, by rw [ho.2.1]; exact h2⟩⟩
  have := (ho.1 _ _ h2).1
  omega
/-- what each pass sees to, for x -/
def m_cA (B : Nat → Nat → Nat → Bool) (so xa xb xc : Nat → Nat) (x k : Nat) : Prop :=
  (so k ≤ 1 → B 0 x (xa k) = true → B 0 x (xb k) = true) ∧ (so k = 1 → B 0 x (xb k) = true → B 0 x (xa k) = true) ∧
  (so k = 2 → ∀ y, B 2 (160 * xa k + x) y = true → B 2 (160 * xb k + x) y = true) ∧
  (so k = 3 → ∀ y z, B 2 (160 * xa k + x) y = true → B 2 (160 * xb k + y) z = true → B 2 (160 * xc k + x) z = true)
def m_cD (B : Nat → Nat → Nat → Bool) (kd fa fb : Nat → Nat) (x k : Nat) : Prop :=
  (kd k = 2 → (B 0 x k = true → B 0 x (fa k) = true ∧ B 0 x (fb k) = true) ∧ (B 0 x (fa k) = true → B 0 x (fb k) = true → B 0 x k = true)) ∧
  (kd k = 3 → (B 0 x k = true → B 2 (160 * fa k + x) (fb k) = true) ∧ ∀ y, B 2 (160 * fa k + x) y = true → B 0 y (fb k) = true → B 0 x k = true)
def m_cN (B : Nat → Nat → Nat → Bool) (N x : Nat) : Prop := (∀ r y, r < 6 → B 2 (160 * r + x) y = true → B 0 y 1 = true → B 0 x 1 = true) ∧ (B 0 x 1 = true → ∀ k, k < N → B 0 x k = true)
def m_cX (B : Nat → Nat → Nat → Bool) (N : Nat) (kd fa fb so xa xb xc : Nat → Nat) (U : Nat → Prop) (x : Nat) : Prop := (∀ k, U k → m_cA B so xa xb xc x k) ∧ (∀ k, k < N → m_cD B kd fa fb x k) ∧ m_cN B N x
def m_clo (u : sU) (N : Nat) (kd fa fb so xa xb xc : Nat → Nat) (U : Nat → Prop) : Prop := (∀ x, x < N → u.1 0 x x = true ∧ u.1 0 x 0 = true) ∧ ∀ x, x < N → m_cX u.1 N kd fa fb so xa xb xc U x
theorem clo_cl (ht : m_tab v N kd fa fb T so xa xb xc) (hU : ∀ k, U k → 1 ≤ k ∧ k ≤ T) (ho : m_ok u N kd fa fb so xa xb xc U) (h : m_clo u N kd fa fb so xa xb xc U) :
    tm_Cl N kd fa fb (x_TA so xa xb U) (x_TR so xa xb U) (x_TC so xa xb xc U) (fun x y => u.1 0 x y = true) (fun r x y => r < 6 ∧ x < 160 ∧ u.1 2 (160 * r + x) y = true) := by
  have hN := mt_N ht
  have ax := fun k z => mt_a (k := k) ht (hU k z).1 (hU k z).2
  refine ⟨fun x hx => h.1 x hx, ?_, ?_, ?_, ?_, ?_, ?_, ?_, ?_, ?_⟩
  · rintro x a b ⟨k, h1, h2⟩ hz
    have c := (h.2 x (ho.1 _ _ hz).1).1 k h1
    rcases h2 with ⟨q1, q2, q3⟩ | ⟨q1, ⟨q2, q3⟩ | ⟨q2, q3⟩⟩
    · rw [← q3]
      exact c.1 (by omega) (by rw [q2]; exact hz)
    · rw [← q3]
      exact c.1 (by omega) (by rw [q2]; exact hz)
    · rw [← q2]
      exact c.2.1 q1 (by rw [q3]; exact hz)
  · rintro r t x y ⟨k, h1, h2, h3, h4⟩ ⟨z1, z2, z3⟩
    have c := (h.2 x (mo_l ho z2 z3).2.1).1 k h1
    have := (ax k h1).2.2.2.2.2.1 (by omega)
    refine ⟨by omega, z2, ?_⟩
    rw [← h4]
    exact c.2.2.1 h2 y (by rw [h3]; exact z3)
  · rintro r q t x y z ⟨k, h1, h2, h3, h4, h5⟩ ⟨z1, z2, z3⟩ ⟨w1, w2, w3⟩
    have c := (h.2 x (mo_l ho z2 z3).2.1).1 k h1
    have := ((ax k h1).2.2.2.2.2.2 h2).2
    refine ⟨by omega, z2, ?_⟩
    rw [← h5]
    exact c.2.2.2 h2 y z (by rw [h3]; exact z3) (by rw [h4]; exact w3)
  · intro k x hk h2 hz
    exact (((h.2 x (ho.1 _ _ hz).1).2.1 k hk).1 h2).1 hz
  · intro k x hk h2 hz hz2
    exact (((h.2 x (ho.1 _ _ hz).1).2.1 k hk).1 h2).2 hz hz2
  · intro k x hk h3 hz
    have hx := (ho.1 _ _ hz).1
    exact ⟨(mt_3 ht hk h3).2.2.1, by omega, (((h.2 x hx).2.1 k hk).2 h3).1 hz⟩
  · rintro k x y hk h3 ⟨z1, z2, z3⟩ hz
    exact (((h.2 x (mo_l ho z2 z3).2.1).2.1 k hk).2 h3).2 y z3 hz
  · rintro r x y ⟨z1, z2, z3⟩ hz
    exact (h.2 x (mo_l ho z2 z3).2.1).2.2.1 r y z1 z3 hz
  · intro x k hz hk
    exact (h.2 x (ho.1 _ _ hz).1).2.2.2 hz k hk
theorem clo_bel (ht : m_tab v N kd fa fb T so xa xb xc) (hU : ∀ k, U k → 1 ≤ k ∧ k ≤ T) (ho : m_ok u N kd fa fb so xa xb xc U) (h : m_clo u N kd fa fb so xa xb xc U) : u.1 0 x y = true ↔ b_Bel N kd fa fb so xa xb xc U x y :=
  ⟨fun z => (ho.1 x y z).2.2, fun z => z _ _ (clo_cl ht hU ho h)⟩
theorem clo_lnk {r : Nat} (hx : x < 160) (ht : m_tab v N kd fa fb T so xa xb xc) (hU : ∀ k, U k → 1 ≤ k ∧ k ≤ T) (ho : m_ok u N kd fa fb so xa xb xc U) (h : m_clo u N kd fa fb so xa xb xc U) : u.1 2 (160 * r + x) y = true ↔ b_Lnk N kd fa fb so xa xb xc U r x y :=
  ⟨fun z => (mo_l ho hx z).2.2.2, fun z => (z _ _ (clo_cl ht hU ho h)).2.2⟩
/-- one step of a pass: what it sees to, if nothing is new behind it -/
theorem pass_s {C : (Nat → Nat → Nat → Bool) → Nat → Prop} {n0 n : Nat} (g1 : m_ext u v) (hj : m_ext v w) (g3 : v.1 = u.1 → ∀ k, n0 ≤ k → k < n → C u.1 k) (hs : w.1 = v.1 → C v.1 n) : w.1 = u.1 → ∀ k, n0 ≤ k → k < n + 1 → C u.1 k := by
  intro e k h0 hk
  obtain ⟨e1, e2⟩ := me_sand g1 hj e
  by_cases c : k = n
  · subst c
    rw [← e1]
    exact hs e2
  · exact g3 e1 k h0 (by omega)
theorem tfr {i : Nat} (e : w.1 = v.1) (h : w.1 i x y = false) : ¬ v.1 i x y = true := fun z => by
  rw [← e, h] at z
  cases z
theorem tfl {i : Nat} (e : w.1 = v.1) (h : w.1 i x y = true) : v.1 i x y = true := by
  rw [← e]
  exact h
/-- rules, by the axioms used -/
theorem ru_TA {a b : Nat} (h : b_Bel N kd fa fb so xa xb xc U x a) (ht : x_TA so xa xb U a b) : b_Bel N kd fa fb so xa xb xc U x b := (tm_least N kd fa fb _ _ _).2.1 x a b ht h
theorem ru_TR {r t : Nat} (ht : x_TR so xa xb U r t) (h : b_Lnk N kd fa fb so xa xb xc U r x y) : b_Lnk N kd fa fb so xa xb xc U t x y := (tm_least N kd fa fb _ _ _).2.2.1 r t x y ht h
theorem ru_TC {r q t : Nat} (ht : x_TC so xa xb xc U r q t) (h : b_Lnk N kd fa fb so xa xb xc U r x y) (h2 : b_Lnk N kd fa fb so xa xb xc U q y z) : b_Lnk N kd fa fb so xa xb xc U t x z := (tm_least N kd fa fb _ _ _).2.2.2.1 r q t x y z ht h h2
theorem ru_2a (hk : k < N) (h2 : kd k = 2) (h : b_Bel N kd fa fb so xa xb xc U x k) : b_Bel N kd fa fb so xa xb xc U x (fa k) ∧ b_Bel N kd fa fb so xa xb xc U x (fb k) := (tm_least N kd fa fb _ _ _).2.2.2.2.1 k x hk h2 h
theorem ru_2b (hk : k < N) (h2 : kd k = 2) (h : b_Bel N kd fa fb so xa xb xc U x (fa k)) (h' : b_Bel N kd fa fb so xa xb xc U x (fb k)) : b_Bel N kd fa fb so xa xb xc U x k := (tm_least N kd fa fb _ _ _).2.2.2.2.2.1 k x hk h2 h h'
theorem ru_3a (hk : k < N) (h2 : kd k = 3) (h : b_Bel N kd fa fb so xa xb xc U x k) : b_Lnk N kd fa fb so xa xb xc U (fa k) x (fb k) := (tm_least N kd fa fb _ _ _).2.2.2.2.2.2.1 k x hk h2 h
theorem ru_3b (hk : k < N) (h2 : kd k = 3) (h : b_Lnk N kd fa fb so xa xb xc U (fa k) x y) (h' : b_Bel N kd fa fb so xa xb xc U y (fb k)) : b_Bel N kd fa fb so xa xb xc U x k := (tm_least N kd fa fb _ _ _).2.2.2.2.2.2.2.1 k x y hk h2 h h'
theorem ru_n {r : Nat} (h : b_Lnk N kd fa fb so xa xb xc U r x y) (h' : b_Bel N kd fa fb so xa xb xc U y 1) : b_Bel N kd fa fb so xa xb xc U x 1 := (tm_least N kd fa fb _ _ _).2.2.2.2.2.2.2.2.1 r x y h h'
theorem ru_e (h : b_Bel N kd fa fb so xa xb xc U x 1) (hk : k < N) : b_Bel N kd fa fb so xa xb xc U x k := (tm_least N kd fa fb _ _ _).2.2.2.2.2.2.2.2.2 x k h hk
theorem ru_0 (hx : x < N) : b_Bel N kd fa fb so xa xb xc U x x ∧ b_Bel N kd fa fb so xa xb xc U x 0 := (tm_least N kd fa fb _ _ _).1 x hx
/-- all is cleared -/
def bF : Nat → Nat → Bool := fun _ _ => false
def m_zer (u : sU) : sU := (fun _ => bF, u.2.1, u.2.2)
def m_m (u : sU) (t : Nat) : sU := (u.1, u.2.1, va_up u.2.2 4 t)
theorem bz_e {B : Nat → Nat → Bool} {n : Nat} (h : ∀ y b, n ≤ y → B y b = false) : bw_z 3 B (n * 3) = bw 3 bF := by
  rw [bw_ze (by decide)]
  have e : tm_clr B n = bF := by
    funext y b
    refine ts_nt (fun z => ?_)
    have := tm_clr_iff.mp z
    rw [h y b (by omega)] at this
    exact absurd this.2 (by decide)
  rw [e]
theorem ok_zer : m_ok (m_zer u) N kd fa fb so xa xb xc U := ⟨fun _ _ z => absurd (show false = true from z) (by decide), fun _ _ => rfl, fun _ _ z => absurd (show false = true from z) (by decide)⟩
theorem pass_ms (h : m_ext (m_m w 0) v) (h0 : ¬ w.2.2 4 = 0) : 2 * m_ms v + v.2.2 4 < 2 * m_ms w + w.2.2 4 := by
  have e : m_ms (m_m w 0) = m_ms w := rfl
  rcases h.2.2.2 with z | z
  · have e2 : m_ms v = m_ms w := ms_congr z.1
    have e3 : v.2.2 4 = 0 := z.2
    omega
  · have := z.1
    have := z.2
    omega
theorem pass_c (h : m_ext (m_m w 0) v) (g3 : v.1 = w.1 → ∀ x, 0 ≤ x → x < N → m_cX w.1 N kd fa fb so xa xb xc U x) (h0 : v.2.2 4 = 0) : ∀ x, x < N → m_cX v.1 N kd fa fb so xa xb xc U x := by
  rcases h.2.2.2 with z | z
  · have e : v.1 = w.1 := z.1
    intro x hx
    rw [e]
    exact g3 e x (Nat.zero_le _) hx
  · have := z.1
    omega
end MOD2
