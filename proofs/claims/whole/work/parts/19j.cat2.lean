/-! What is taken in: pure rows. so, xa, xb, xc: the axioms' kinds and numbers; U: which of them are told. -/
def x_TA (so xa xb : Nat → Nat) (U : Nat → Prop) (a b : Nat) : Prop := ∃ k, U k ∧ ((so k = 0 ∧ xa k = a ∧ xb k = b) ∨ (so k = 1 ∧ ((xa k = a ∧ xb k = b) ∨ (xa k = b ∧ xb k = a))))
def x_TR (so xa xb : Nat → Nat) (U : Nat → Prop) (r t : Nat) : Prop := ∃ k, U k ∧ so k = 2 ∧ xa k = r ∧ xb k = t
def x_TC (so xa xb xc : Nat → Nat) (U : Nat → Prop) (r q t : Nat) : Prop := ∃ k, U k ∧ so k = 3 ∧ xa k = r ∧ xb k = q ∧ xc k = t
def s_told (u : sU) (so xa xb xc : Nat → Nat) (U : Nat → Prop) : Prop := (∀ a b, u.1 4 a b = true ↔ x_TA so xa xb U a b) ∧ (∀ r t, u.1 5 r t = true ↔ x_TR so xa xb U r t) ∧ ∀ r q t, r < 6 → q < 6 → (u.1 6 (r * 6 + q) t = true ↔ x_TC so xa xb xc U r q t)
def s_mid (v : sU) (N : Nat) (kd fa fb : Nat → Nat) (n : Nat) : Prop := s_bas v N kd fa fb ∧ tm_Sat n kd fa fb (TAu v) (TRu v) (TCu v) (FF v) (QQ v) ∧ (∀ y b, v.1 2 y b = true → v.1 3 0 y = true) ∧ s_sound v N kd fa fb
theorem sat_ext {v w : sU} {n : Nat} {kd fa fb : Nat → Nat} {TA TR : Nat → Nat → Prop} {TC : Nat → Nat → Nat → Prop} (h : tm_Sat n kd fa fb TA TR TC (FF v) (QQ v)) (hx : s_ext v w) : tm_Sat n kd fa fb TA TR TC (FF w) (QQ w) :=
  tm_Sat_ext h (fun c r d z => ⟨z.1, hx.1 _ _ z.2⟩) (fun c r d z1 z2 => ⟨⟨z1.1, Classical.byContradiction (fun q => z2 ⟨z1.1, (hx.2.2.1 _ _).mpr (Or.inr ⟨z1.2, q⟩)⟩)⟩, fun q => z2 ⟨q.1, (hx.2.2.1 _ _).mpr (Or.inl q.2)⟩⟩)
/-- old facts that aren't fresh now weren't fresh before -/
theorem old_of {v w : sU} (hx : s_ext v w) {y b : Nat} (h1 : w.1 0 y b = true) (h2 : ¬ w.1 2 y b = true) : v.1 0 y b = true ∧ ¬ v.1 2 y b = true :=
  ⟨Classical.byContradiction (fun q => h2 ((hx.2.2.1 _ _).mpr (Or.inr ⟨h1, q⟩))), fun q => h2 ((hx.2.2.1 _ _).mpr (Or.inl q))⟩
theorem bas_ext {v w : sU} {N : Nat} {kd fa fb : Nat → Nat} (hb : s_bas v N kd fa fb) (hx : s_ext v w) (hR : ∀ y b, w.1 0 y b = true → y < N * 7 ∧ b < N) (hB : ∀ x r d, r < 7 → w.1 0 (x * 7 + r) d = true → s_beg w x) : s_bas w N kd fa fb := by
  obtain ⟨b1, b2, b3, b4, b5, b6, b7⟩ := hb
  refine ⟨tm_ext b1 hx, tr_ext b2 hx, hR, fun y b z => ?_, fun y z => ?_, ?_, hB⟩
  · rcases (hx.2.2.1 y b).mp z with z | z
    · exact hx.1 y b (b4 y b z)
    · exact z.1
  · rcases (hx.2.2.2.1 y).mp z with z | ⟨b, z⟩
    · obtain ⟨b, z⟩ := b5 y z
      exact ⟨b, hx.1 y b z⟩
    · exact ⟨b, z.1⟩
  · rw [hx.2.2.2.2.2.1 4 (by decide), hx.2.2.2.2.2.1 5 (by decide), hx.2.2.2.2.2.1 6 (by decide)]
    exact b6
theorem fr_ext {v w : sU} (hx : s_ext v w) (h : ∀ y b, v.1 2 y b = true → v.1 3 0 y = true) : ∀ y b, w.1 2 y b = true → w.1 3 0 y = true := fun y b z => by
  rcases (hx.2.2.1 y b).mp z with z | z
  · exact (hx.2.2.2.1 y).mpr (Or.inl (h y b z))
  · exact (hx.2.2.2.1 y).mpr (Or.inr ⟨b, z⟩)
theorem beg_row {v : sU} (h : ∀ x r d, r < 7 → v.1 0 (x * 7 + r) d = true → s_beg v x) : ∀ y b, v.1 0 y b = true → s_beg v (y / 7) := fun y b z =>
  h (y / 7) (y % 7) b (Nat.mod_lt _ (by decide)) (by rw [show y / 7 * 7 + y % 7 = y by omega]; exact z)
/-- more facts come, by a rule that range, beginning and meaning keep -/
theorem mid_ext {v w : sU} {N : Nat} {kd fa fb : Nat → Nat} {n n' : Nat} {rule : (Nat → Nat → Prop) → Prop} (h : s_mid v N kd fa fb n) (hx : s_ext v w) (hs : s_snd v w rule) (r1 : rule (fun y b => y < N * 7 ∧ b < N)) (r2 : rule (fun y _ => s_beg v (y / 7))) (r3 : rule (gB (TAu v) (TRu v) (TCu v) N kd fa fb))
    (hsat : tm_Sat n' kd fa fb (TAu v) (TRu v) (TCu v) (FF w) (QQ w)) : s_mid w N kd fa fb n' := by
  obtain ⟨h1, h2, h3, h4⟩ := h
  have e := tau_gro (gro_ext hx)
  refine ⟨bas_ext h1 hx (hs _ h1.2.2.1 r1) (fun x r d hr z => ?_), ?_, fr_ext hx h3, ?_⟩
  · have := hs _ (beg_row h1.2.2.2.2.2.2) r2 _ _ z
    rw [show (x * 7 + r) / 7 = x by omega] at this
    exact beg_mono hx.1 this
  · rw [e.1, e.2.1, e.2.2]; exact hsat
  · unfold s_sound
    rw [e.1, e.2.1, e.2.2]
    exact hs _ h4 r3
def s_adm (v : sU) (n : Nat) : Prop := ∀ y b, v.1 0 y b = true → ¬ v.1 2 y b = true → b < n
theorem adm_ext {v w : sU} {n : Nat} (h : s_adm v n) (hx : s_ext v w) : s_adm w (n + 1) := fun y b z1 z2 => by
  have := old_of hx z1 z2
  have := h y b this.1 this.2
  omega
theorem sat_skip {n : Nat} {kd fa fb : Nat → Nat} {TA TR : Nat → Nat → Prop} {TC : Nat → Nat → Nat → Prop} {F Q : Nat → Nat → Nat → Prop} (h : tm_Sat n kd fa fb TA TR TC F Q) (h2 : ¬ kd n = 2) (h3 : ¬ kd n = 3) : tm_Sat (n + 1) kd fa fb TA TR TC F Q := by
  have e2 : ∀ k, k < n + 1 → kd k = 2 → k < n := fun k hk e => by
    rcases Nat.lt_or_ge k n with z | z
    · exact z
    · exact absurd (by rw [show n = k by omega]; exact e) h2
  have e3 : ∀ k, k < n + 1 → kd k = 3 → k < n := fun k hk e => by
    rcases Nat.lt_or_ge k n with z | z
    · exact z
    · exact absurd (by rw [show n = k by omega]; exact e) h3
  obtain ⟨a1, a2, a3, a4, a5, a6, a7, a8, a9⟩ := h
  exact ⟨a1, fun c k hk hd => a2 c k (e2 k hk hd) hd, fun c k hk hd => a3 c k (e2 k hk hd) hd, fun c k hk hd => a4 c k (e3 k hk hd) hd, fun c y k hk hd => a5 c y k (e3 k hk hd) hd, a6, a7, a8, a9⟩
theorem sat_2 {n : Nat} {kd fa fb : Nat → Nat} {TA TR : Nat → Nat → Prop} {TC : Nat → Nat → Nat → Prop} {F Q : Nat → Nat → Nat → Prop} (h : tm_Sat n kd fa fb TA TR TC F Q) (h2 : kd n = 2) (k1 : ∀ c, F c 6 n → ¬ Q c 6 n → False) (k2 : ∀ c, F c 6 (fa n) → ¬ Q c 6 (fa n) → F c 6 (fb n) → ¬ Q c 6 (fb n) → F c 6 n) : tm_Sat (n + 1) kd fa fb TA TR TC F Q := by
  have lt : ∀ k, k < n + 1 → ¬ k = n → k < n := fun k hk e => by omega
  obtain ⟨a1, a2, a3, a4, a5, a6, a7, a8, a9⟩ := h
  refine ⟨a1, fun c k hk hd z1 z2 => ?_, fun c k hk hd z1 z2 z3 z4 z5 => ?_, fun c k hk hd => a4 c k (lt k hk (fun e => by rw [e, h2] at hd; cases hd)) hd, fun c y k hk hd => a5 c y k (lt k hk (fun e => by rw [e, h2] at hd; cases hd)) hd, a6, a7, a8, a9⟩
  · by_cases e : k = n
    · subst e; exact absurd (k1 c z1 z2) id
    · exact a2 c k (lt k hk e) hd z1 z2
  · by_cases e : k = n
    · subst e; exact k2 c z1 z2 z3 z4
    · exact a3 c k (lt k hk e) hd z1 z2 z3 z4 z5
theorem sat_3 {n : Nat} {kd fa fb : Nat → Nat} {TA TR : Nat → Nat → Prop} {TC : Nat → Nat → Nat → Prop} {F Q : Nat → Nat → Nat → Prop} (h : tm_Sat n kd fa fb TA TR TC F Q) (h3 : kd n = 3) (k1 : ∀ c, F c 6 n → ¬ Q c 6 n → False) (k2 : ∀ c y, F c (fa n) y → ¬ Q c (fa n) y → F y 6 (fb n) → ¬ Q y 6 (fb n) → F c 6 n) : tm_Sat (n + 1) kd fa fb TA TR TC F Q := by
  have lt : ∀ k, k < n + 1 → ¬ k = n → k < n := fun k hk e => by omega
  obtain ⟨a1, a2, a3, a4, a5, a6, a7, a8, a9⟩ := h
  refine ⟨a1, fun c k hk hd => a2 c k (lt k hk (fun e => by rw [e, h3] at hd; cases hd)) hd, fun c k hk hd => a3 c k (lt k hk (fun e => by rw [e, h3] at hd; cases hd)) hd, fun c k hk hd z1 z2 => ?_, fun c y k hk hd z1 z2 z3 z4 z5 z6 => ?_, a6, a7, a8, a9⟩
  · by_cases e : k = n
    · subst e; exact absurd (k1 c z1 z2) id
    · exact a4 c k (lt k hk e) hd z1 z2
  · by_cases e : k = n
    · subst e; exact k2 c y z1 z2 z3 z4
    · exact a5 c y k (lt k hk e) hd z1 z2 z3 z4 z5 z6
theorem mid_both {v w : sU} {N : Nat} {kd fa fb : Nat → Nat} {n : Nat} (h : s_mid v N kd fa fb n) (ha : s_adm v n) (hn : n < N) (h2 : kd n = 2) (hx : s_ext v w) (hs : s_snd v w (fun (G : Nat → Nat → Prop) => ∀ z, z < 160 → G (z * 7 + 6) (fa n) → G (z * 7 + 6) (fb n) → G (z * 7 + 6) n))
    (hc : ∀ b, b < 160 → (v.1 0 (b * 7 + 6) (fa n) = true → v.1 0 (b * 7 + 6) (fb n) = true → w.1 0 (b * 7 + 6) n = true)) : s_mid w N kd fa fb (n + 1) := by
  refine mid_ext h hx hs (fun z hz g1 g2 => ⟨g1.1, hn⟩) (fun z hz g1 g2 => g1) (fun z hz g1 g2 => (rules_gB h.1).2.2.1 z n hn h2 g1 g2) (sat_2 (sat_ext h.2.1 hx) h2 (fun c z1 z2 => ?_) (fun c z1 z2 z3 z4 => ?_))
  · have := old_of hx z1.2 (fun q => z2 ⟨by decide, q⟩)
    have := ha _ _ this.1 this.2
    omega
  · have o1 := old_of hx z1.2 (fun q => z2 ⟨by decide, q⟩)
    have o2 := old_of hx z3.2 (fun q => z4 ⟨by decide, q⟩)
    have hr := (h.1.2.2.1 _ _ o1.1).1
    have hN := (tm_N h.1.1).2.2
    exact ⟨by decide, hc c (by omega) o1.1 o2.1⟩
theorem mid_some {v w : sU} {N : Nat} {kd fa fb : Nat → Nat} {n : Nat} (h : s_mid v N kd fa fb n) (ha : s_adm v n) (hn : n < N) (h3 : kd n = 3) (hx : s_ext v w) (hs : s_snd v w (fun (G : Nat → Nat → Prop) => ∀ z d, z < 160 → G (z * 7 + fa n) d → G (d * 7 + 6) (fb n) → G (z * 7 + 6) n))
    (hc : ∀ b, b < 160 → (v.1 0 (b * 7 + 6) (fb n) = true → ∀ z, z < 160 → v.1 0 (z * 7 + fa n) b = true → w.1 0 (z * 7 + 6) n = true)) : s_mid w N kd fa fb (n + 1) := by
  have h9 := tm_3 h.1.1 hn h3
  have hN := (tm_N h.1.1).2.2
  refine mid_ext h hx hs (fun z d hz g1 g2 => ⟨by omega, hn⟩) (fun z d hz g1 g2 => ?_) (fun z d hz g1 g2 => (rules_gB h.1).2.2.2.2.1 z d n hn h3 g1 g2) (sat_3 (sat_ext h.2.1 hx) h3 (fun c z1 z2 => ?_) (fun c y z1 z2 z3 z4 => ?_))
  · have g : s_beg v ((z * 7 + fa n) / 7) := g1
    rw [show (z * 7 + fa n) / 7 = z by omega] at g
    show s_beg v ((z * 7 + 6) / 7)
    rw [show (z * 7 + 6) / 7 = z by omega]
    exact g
  · have := old_of hx z1.2 (fun q => z2 ⟨by decide, q⟩)
    have := ha _ _ this.1 this.2
    omega
  · have o1 := old_of hx z1.2 (fun q => z2 ⟨z1.1, q⟩)
    have o2 := old_of hx z3.2 (fun q => z4 ⟨by decide, q⟩)
    have hr1 := (h.1.2.2.1 _ _ o1.1)
    exact ⟨by decide, hc y (by omega) o2.1 c (by omega) o1.1⟩
theorem mid_skip {v : sU} {N : Nat} {kd fa fb : Nat → Nat} {n : Nat} (h : s_mid v N kd fa fb n) (h2 : ¬ kd n = 2) (h3 : ¬ kd n = 3) : s_mid v N kd fa fb (n + 1) := ⟨h.1, sat_skip h.2.1 h2 h3, h.2.2.1, h.2.2.2⟩
/-- more is told -/
theorem sat_told {n : Nat} {kd fa fb : Nat → Nat} {TA TR TA' TR' : Nat → Nat → Prop} {TC TC' : Nat → Nat → Nat → Prop} {F Q : Nat → Nat → Nat → Prop} (h : tm_Sat n kd fa fb TA TR TC F Q)
    (k1 : ∀ a b, TA' a b → TA a b ∨ ∀ c, F c 6 a → ¬ Q c 6 a → F c 6 b) (k2 : ∀ r t, TR' r t → TR r t ∨ ∀ c y, F c r y → ¬ Q c r y → F c t y) (k3 : ∀ r q t, TC' r q t → TC r q t ∨ ∀ c y z, F c r y → ¬ Q c r y → F y q z → ¬ Q y q z → F c t z) : tm_Sat n kd fa fb TA' TR' TC' F Q := by
  obtain ⟨a1, a2, a3, a4, a5, a6, a7, a8, a9⟩ := h
  refine ⟨fun c a b t z1 z2 z3 => ?_, a2, a3, a4, a5, fun c y r t hr ht z1 z2 z3 => ?_, fun c y z r q t hr hq ht z1 z2 z3 z4 z5 z6 => ?_, a8, a9⟩
  · exact (k1 a b t).elim (fun k => a1 c a b k z1 z2 z3) (fun k => k c z1 z2)
  · exact (k2 r t ht).elim (fun k => a6 c y r t hr k z1 z2 z3) (fun k => k c y z1 z2)
  · exact (k3 r q t ht).elim (fun k => a7 c y z r q t hr hq k z1 z2 z3 z4 z5 z6) (fun k => k c y z z1 z2 z3 z4)
