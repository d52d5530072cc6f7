/-! Saturation: the four ways to draw from one fact. -/
def s_drn (v w : sU) (N : Nat) (kd fa fb : Nat → Nat) (x i d : Nat) : Prop :=
  s_ext (s_take v (x * 7 + i) d) w ∧ tm_Drawn N kd fa fb (TAu v) (TRu v) (TCu v) (FF v) (FF w) x i d ∧ (∀ y b, w.1 0 y b = true → y < N * 7 ∧ b < N) ∧ (∀ x r d, r < 7 → w.1 0 (x * 7 + r) d = true → s_beg w x) ∧ s_snd v w (s_rules v N kd fa fb)
theorem beg_mono {u v : sU} {x : Nat} (h : ∀ y b, u.1 0 y b = true → v.1 0 y b = true) (k : s_beg u x) : s_beg v x := ⟨h _ _ k.1, h _ _ k.2⟩
theorem rules_range {v : sU} {N : Nat} {kd fa fb : Nat → Nat} (hb : s_bas v N kd fa fb) : s_rules v N kd fa fb (fun y b => y < N * 7 ∧ b < N) := by
  obtain ⟨b1, b2, b3, b4, b5, ⟨t1, t2, t3⟩, b7⟩ := hb
  have hN := (tm_N b1).2.1
  refine ⟨fun x a b h z => ⟨z.1, (t1 a b h).2⟩, fun x k hk h2 z => ?_, fun x k hk h2 z1 z2 => ⟨z1.1, hk⟩, fun x k hk h3 z => ?_, fun x y k hk h3 z1 z2 => ⟨by omega, hk⟩, fun x y r t hr h z => ?_, fun x y z r q t hr hq h z1 z2 => ?_, fun x y r hr z => ⟨⟨by omega, z.2⟩, by omega, by omega⟩, fun x y r hr z1 z2 => ⟨by omega, by omega⟩⟩
  · have := tm_2 b1 hk h2
    exact ⟨⟨z.1, this.2.2.1⟩, z.1, this.2.2.2⟩
  · have := tm_3 b1 hk h3
    exact ⟨by omega, this.2.2.2⟩
  · have := (t2 r t h).2
    exact ⟨by omega, z.2⟩
  · have := (t3 _ t h).2
    exact ⟨by omega, z2.2⟩
section S2
variable {v : sU} {N : Nat} {kd fa fb : Nat → Nat}
/-- nothing is drawn for an empty one -/
theorem new_D {x i d : Nat} (hi : i < 7) (hb : s_bas v N kd fa fb) (h1 : v.1 0 (x * 7 + 6) 1 = true) (h2 : ¬ (i = 6 ∧ d = 1)) : s_drn v (s_take v (x * 7 + i) d) N kd fa fb x i d := by
  obtain ⟨b1, b2, b3, b4, b5, b6, b7⟩ := hb
  exact ⟨ext_refl _, ⟨fun z1 z2 => absurd ⟨z1, z2⟩ h2, fun _ _ => Or.inl ⟨by decide, h1⟩, fun _ => Or.inl ⟨by decide, h1⟩⟩, b3, b7, fun G h _ => h⟩
/-- an empty one empties what links lead to it from -/
theorem new_A {w : sU} {x : Nat} (hb : s_bas v N kd fa fb) (hf : v.1 0 (x * 7 + 6) 1 = true) (hx : s_ext (s_take v (x * 7 + 6) 1) w) (he : s_empt (s_take v (x * 7 + 6) 1) w x 6) : s_drn v w N kd fa fb x 6 1 := by
  obtain ⟨b1, b2, b3, b4, b5, b6, b7⟩ := hb
  have hN := tm_N b1
  have hx1 : x < 160 := by have := (b3 _ _ hf).1; omega
  have hsrc : ∀ z q, z < 160 → q < 6 → v.1 1 (x * 7 + q) z = true → v.1 0 (z * 7 + q) x = true := fun z q hz hq h => (b2 z q x (by omega) hz hx1).mp h
  refine ⟨hx, ⟨fun _ _ z r hr h => ?_, fun _ z => absurd rfl z, fun z => absurd z (by decide)⟩, fun y b z => ?_, fun X r D hr z => ?_, fun G h1 h2 y b z => ?_⟩
  · have hz : z < 160 := by have := (b3 _ _ h.2).1; omega
    exact ⟨by decide, (he _ _).mpr (Or.inr ⟨rfl, z, hz, rfl, r, hr, (b2 z r x (by omega) hz hx1).mpr h.2⟩)⟩
  · rcases (he y b).mp z with z | ⟨z1, z, z2, z3, q, z4, z5⟩
    · exact b3 y b z
    · have := (b3 _ _ (hsrc z q z2 z4 z5)).1
      exact ⟨by omega, by omega⟩
  · refine beg_mono hx.1 (?_ : s_beg v X)
    rcases (he _ _).mp z with z | ⟨z1, z, z2, z3, q, z4, z5⟩
    · exact b7 X r D hr z
    · obtain ⟨q1, q2⟩ := row_inj hr (show 6 < 7 by decide) z3
      rw [q1]
      exact b7 z q x (by omega) (hsrc z q z2 z4 z5)
  · rcases (he y b).mp z with z | ⟨z1, z, z2, z3, q, z4, z5⟩
    · exact h1 y b z
    · rw [z1, z3]
      exact h2.2.2.2.2.2.2.2.2 z x q z4 (h1 _ _ (hsrc z q z2 z4 z5)) (h1 _ _ hf)
theorem new_B {w1 w2 w3 w : sU} {x d : Nat} (hb : s_bas v N kd fa fb) (hf : v.1 0 (x * 7 + 6) d = true) (hd1 : ¬ d = 1)
    (h1 : s_ext (s_take v (x * 7 + 6) d) w1 ∧ ∀ y b, w1.1 0 y b = true ↔ (s_take v (x * 7 + 6) d).1 0 y b = true ∨ (y = x * 7 + 6 ∧ b < 160 ∧ (s_take v (x * 7 + 6) d).1 4 d b = true))
    (h2 : s_ext w1 w2 ∧ s_parts w1 w2 kd fa fb x d) (h3 : s_ext w2 w3 ∧ s_snd w2 w3 (s_bothR N kd fa fb x d) ∧ ∀ b, b < N → s_bothC w2 w3 kd fa fb x d b) (h4 : s_ext w3 w ∧ s_somes w3 w N kd fa fb x d 6) : s_drn v w N kd fa fb x 6 d := by
  have hb0 := hb
  obtain ⟨b1, b2, b3, b4, b5, b6, b7⟩ := hb
  have hN := tm_N b1
  have hx1 : x < 160 := by have := (b3 _ _ hf).1; omega
  have hdN := (b3 _ _ hf).2
  have m1 : ∀ y b, v.1 0 y b = true → w1.1 0 y b = true := h1.1.1
  have m2 := h2.1.1
  have m3 := h3.1.1
  have m4 := h4.1.1
  have hx : s_ext (s_take v (x * 7 + 6) d) w := ext_trans (ext_trans (ext_trans h1.1 h2.1) h3.1) h4.1
  have htr3 : s_tr w3 := tr_ext (u := s_take v (x * 7 + 6) d) b2 (ext_trans (ext_trans h1.1 h2.1) h3.1)
  -- what any closed set has
  have snd : ∀ G : Nat → Nat → Prop, (∀ y b, v.1 0 y b = true → G y b) → (∀ b, v.1 4 d b = true → G (x * 7 + 6) b) → (kd d = 2 → G (x * 7 + 6) (fa d) ∧ G (x * 7 + 6) (fb d)) → (kd d = 3 → G (x * 7 + fa d) (fb d)) → s_bothR N kd fa fb x d G → (∀ k z, k < N → kd k = 3 → fb k = d → z < 160 → G (z * 7 + fa k) x → G (z * 7 + 6) k) → ∀ y b, w.1 0 y b = true → G y b := by
    intro G g0 g1 g2 g3 g4 g5
    have a1 : ∀ y b, w1.1 0 y b = true → G y b := fun y b z => by
      rcases (h1.2 y b).mp z with z | ⟨z1, _, z3⟩
      · exact g0 y b z
      · rw [z1]; exact g1 b z3
    have a2 : ∀ y b, w2.1 0 y b = true → G y b := fun y b z => by
      rcases (h2.2 y b).mp z with z | ⟨z1, z2, z3 | z3⟩ | ⟨z1, z2, z3⟩
      · exact a1 y b z
      · rw [z2, z3]; exact (g2 z1).1
      · rw [z2, z3]; exact (g2 z1).2
      · rw [z2, z3]; exact g3 z1
    have a3 := h3.2.1 G a2 g4
    intro y b z
    rcases (h4.2 y b).mp z with z | ⟨z1, z2, z3, z4, z, z5, z6, z7⟩
    · exact a3 y b z
    · rw [z6]
      exact g5 b z z1 z2 z4 z5 (a3 _ _ ((htr3 z (fa b) x (by omega) z5 hx1).mp z7))
  have sr : s_snd v w (s_rules v N kd fa fb) := fun G g0 gr => by
    obtain ⟨r1, r2, r3, r4, r5, r6, r7, r8, r9⟩ := gr
    have gd := g0 _ _ hf
    exact snd G g0 (fun b z => r1 x d b z gd) (fun z => r2 x d hdN z gd) (fun z => r4 x d hdN z gd) (fun b hb2 h2 z => r3 x b hb2 h2 (z.elim (fun z => by rw [z.1]; exact gd) (fun z => z.2)) (z.elim (fun z => z.2) (fun z => by rw [z.1]; exact gd))) (fun k z hk h3 e hz g => r5 z x k hk h3 g (by rw [e]; exact gd))
  refine ⟨hx, ⟨fun _ z => absurd z hd1, fun _ _ => Or.inr ⟨fun b z => ?_, fun _ z => ?_, fun k hk h2' e z => ?_, fun k hk h2' e z => ?_, fun _ z => ?_, fun k X hk h3' e z => ?_⟩, fun z => absurd z (by decide)⟩, sr _ b3 (rules_range hb0), ?_, sr⟩
  · exact ⟨by decide, m4 _ _ (m3 _ _ (m2 _ _ ((h1.2 _ _).mpr (Or.inr ⟨rfl, by have := (b6.1 d b z).2; omega, z⟩))))⟩
  · exact ⟨⟨by decide, m4 _ _ (m3 _ _ ((h2.2 _ _).mpr (Or.inr (Or.inl ⟨z, rfl, Or.inl rfl⟩))))⟩, by decide, m4 _ _ (m3 _ _ ((h2.2 _ _).mpr (Or.inr (Or.inl ⟨z, rfl, Or.inr rfl⟩))))⟩
  · exact ⟨by decide, m4 _ _ ((h3.2.2 k hk).1 h2' e (m2 _ _ (m1 _ _ z.2)))⟩
  · exact ⟨by decide, m4 _ _ ((h3.2.2 k hk).2 h2' e (m2 _ _ (m1 _ _ z.2)))⟩
  · have := tm_3 b1 hdN z
    exact ⟨by omega, m4 _ _ (m3 _ _ ((h2.2 _ _).mpr (Or.inr (Or.inr ⟨z, rfl, rfl⟩))))⟩
  · have hz : X < 160 := by have := (b3 _ _ z.2).1; have := z.1; omega
    have := tm_3 b1 hk h3'
    exact ⟨by decide, (h4.2 _ _).mpr (Or.inr ⟨hk, h3', this.2.2.1, e, X, hz, rfl, (htr3 X (fa k) x (by omega) hz hx1).mpr (m3 _ _ (m2 _ _ (m1 _ _ z.2)))⟩)⟩
  · intro X r D hr z
    refine beg_mono hx.1 (?_ : s_beg v X)
    have hbx : s_beg v x := b7 x 6 d (by decide) hf
    have e6 : ∀ r, r < 7 → (x * 7 + r) / 7 = x := fun r hr => by omega
    have := snd (fun y _ => s_beg v (y / 7)) (fun y b z => by
        have := b7 (y / 7) (y % 7) b (Nat.mod_lt _ (by decide)) (by rw [show y / 7 * 7 + y % 7 = y by omega]; exact z)
        exact this) (fun b _ => by rw [e6 6 (by decide)]; exact hbx) (fun _ => by rw [e6 6 (by decide)]; exact ⟨hbx, hbx⟩) (fun h3' => by
          have := tm_3 b1 hdN h3'
          show s_beg v ((x * 7 + fa d) / 7)
          rw [e6 (fa d) (by omega)]; exact hbx) (fun b _ _ _ => by
          show s_beg v ((x * 7 + 6) / 7)
          rw [e6 6 (by decide)]; exact hbx) (fun k z hk h3' _ _ g => by
          have := tm_3 b1 hk h3'
          have g2 : s_beg v ((z * 7 + fa k) / 7) := g
          rw [show (z * 7 + fa k) / 7 = z by omega] at g2
          show s_beg v ((z * 7 + 6) / 7)
          rw [show (z * 7 + 6) / 7 = z by omega]; exact g2) (X * 7 + r) D z
    rw [show (X * 7 + r) / 7 = X by omega] at this
    exact this
theorem new_C {w1 w : sU} {x i d : Nat} (hi : i < 6) (hb : s_bas v N kd fa fb) (hf : v.1 0 (x * 7 + i) d = true)
    (h1 : s_ext (s_take v (x * 7 + i) d) w1 ∧ s_snd (s_take v (x * 7 + i) d) w1 (s_linkR (s_take v (x * 7 + i) d) N kd fa fb x i d) ∧ s_linkC (s_take v (x * 7 + i) d) w1 N kd fa fb x i d)
    (h2 : s_ext w1 w ∧ s_snd w1 w (s_chR w1 x i d) ∧ ∀ q, q < 6 → ∀ t, t < 6 → s_ch1 w1 w x i d q t ∧ s_ch2 w1 w x i d q t) : s_drn v w N kd fa fb x i d := by
  have hb0 := hb
  obtain ⟨b1, b2, b3, b4, b5, b6, b7⟩ := hb
  have hN := tm_N b1
  have hx1 : x < 160 := by have := (b3 _ _ hf).1; omega
  have hdN := (b3 _ _ hf).2
  have m1 : ∀ y b, v.1 0 y b = true → w1.1 0 y b = true := h1.1.1
  have m2 := h2.1.1
  have hx : s_ext (s_take v (x * 7 + i) d) w := ext_trans h1.1 h2.1
  have e5 : w1.1 5 = v.1 5 := h1.1.2.2.2.2.2.1 5 (by decide)
  have e6 : w1.1 6 = v.1 6 := h1.1.2.2.2.2.2.1 6 (by decide)
  have sr : s_snd v w (s_rules v N kd fa fb) := fun G g0 gr => by
    obtain ⟨r1, r2, r3, r4, r5, r6, r7, r8, r9⟩ := gr
    have gd := g0 _ _ hf
    have a1 := h1.2.1 G g0 ⟨(r8 x d i hi gd).1, (r8 x d i hi gd).2, fun z => r9 x d i hi gd z, fun t _ z => r6 x d i t hi z gd, fun k hk h3 e z => r5 x d k hk h3 (by rw [e]; exact gd) z⟩
    refine h2.2.1 G a1 (fun q hq t ht => ⟨fun z b g => ?_, fun z X hX g => ?_⟩)
    · rw [e6] at z
      exact r7 x d b i q t hi hq z gd g
    · rw [e6] at z
      exact r7 X x d q i t hq hi z g gd
  refine ⟨hx, ⟨fun z => absurd z (by omega), fun z => absurd z (by omega), fun _ => ?_⟩, sr _ b3 (rules_range hb0), ?_, sr⟩
  · rcases h1.2.2.2 with z | ⟨c1, c2, c3⟩
    · exact Or.inl ⟨by decide, m2 _ _ z⟩
    · refine Or.inr ⟨⟨by decide, m2 _ _ h1.2.2.1.1⟩, fun z => absurd z.2 c1, fun t z => ?_, fun k hk h3 e z => ?_, fun q t z hq ht h9 => ?_, fun q t X hq ht h9 => ?_⟩
      · have := (b6.2.1 i t z).2
        exact ⟨by omega, m2 _ _ (c2 t this z)⟩
      · exact ⟨by decide, m2 _ _ (c3 k hk h3 e z.2)⟩
      · have h8 := (b6.2.2 _ t ht.2.2).2
        refine ⟨by omega, (h2.2.2 q hq t h8).1 (by rw [e6]; exact ht.2.2) z ?_ (m1 _ _ h9.2)⟩
        have := (b3 _ _ h9.2).2
        omega
      · have h8 := (b6.2.2 _ t ht.2.2).2
        refine ⟨by omega, (h2.2.2 q hq t h8).2 (by rw [e6]; exact ht.2.2) X ?_ (m1 _ _ h9.2)⟩
        have := (b3 _ _ h9.2).1
        omega
  · intro X r D hr z
    refine beg_mono m2 (?_ : s_beg w1 X)
    have hbx : s_beg w1 x := beg_mono m1 (b7 x i d (by omega) hf)
    have hbd : s_beg w1 d := h1.2.2.1
    have e7 : ∀ X r, r < 7 → (X * 7 + r) / 7 = X := fun X r hr => by omega
    have g0 : ∀ y b, v.1 0 y b = true → s_beg w1 (y / 7) := fun y b z => beg_mono m1 (b7 (y / 7) (y % 7) b (Nat.mod_lt _ (by decide)) (by rw [show y / 7 * 7 + y % 7 = y by omega]; exact z))
    have g1 := h1.2.1 (fun y _ => s_beg w1 (y / 7)) g0 ⟨by show s_beg w1 ((d * 7 + 6) / 7); rw [e7 d 6 (by decide)]; exact hbd, by show s_beg w1 ((d * 7 + 6) / 7); rw [e7 d 6 (by decide)]; exact hbd, fun _ => by show s_beg w1 ((x * 7 + 6) / 7); rw [e7 x 6 (by decide)]; exact hbx,
      fun t ht _ => by show s_beg w1 ((x * 7 + t) / 7); rw [e7 x t (by omega)]; exact hbx, fun k _ _ _ _ => by show s_beg w1 ((x * 7 + 6) / 7); rw [e7 x 6 (by decide)]; exact hbx⟩
    have g2 := h2.2.1 (fun y _ => s_beg w1 (y / 7)) g1 (fun q hq t ht => ⟨fun _ b _ => by show s_beg w1 ((x * 7 + t) / 7); rw [e7 x t (by omega)]; exact hbx, fun _ X _ g => by
      have g2 : s_beg w1 ((X * 7 + q) / 7) := g
      rw [e7 X q (by omega)] at g2
      show s_beg w1 ((X * 7 + t) / 7)
      rw [e7 X t (by omega)]; exact g2⟩) (X * 7 + r) D z
    rw [e7 X r hr] at g2
    exact g2
end S2
/-- within one row; between rows; at the end -/
def s_in (u v : sU) (N : Nat) (kd fa fb : Nat → Nat) (tk r M : Nat) : Prop := s_bas v N kd fa fb ∧ s_sat v N kd fa fb ∧ (∀ y b, v.1 2 y b = true → v.1 3 0 y = true ∨ (y = tk ∧ r ≤ b)) ∧ s_mu v ≤ M ∧ s_gro u v ∧ s_snd u v (s_rules u N kd fa fb)
def s_out (u v : sU) (N : Nat) (kd fa fb : Nat → Nat) (M : Nat) : Prop := s_bas v N kd fa fb ∧ s_sat v N kd fa fb ∧ (∀ y b, v.1 2 y b = true → v.1 3 0 y = true) ∧ s_mu v ≤ M ∧ s_gro u v ∧ s_snd u v (s_rules u N kd fa fb)
def s_done (u v : sU) (N : Nat) (kd fa fb : Nat → Nat) : Prop := s_bas v N kd fa fb ∧ s_sat v N kd fa fb ∧ (∀ y b, ¬ v.1 2 y b = true) ∧ (∀ y, y < 1120 → ¬ v.1 3 0 y = true) ∧ s_gro u v ∧ s_snd u v (s_rules u N kd fa fb)
theorem in_step {u v w : sU} {N : Nat} {kd fa fb : Nat → Nat} {x i r r2 M : Nat} (hi : i < 7) (h : s_in u v N kd fa fb (x * 7 + i) r M) (k : s_drn v w N kd fa fb x i r) (hn : tm_nx (w.1 2 (x * 7 + i)) 160 (r + 1) r2) : s_in u w N kd fa fb (x * 7 + i) r2 M := by
  obtain ⟨a1, a2, a3, a4, a5, a6⟩ := h
  obtain ⟨k1, k2, k3, k4, k5⟩ := k
  obtain ⟨c1, c2, c3⟩ := draw_gen hi a1 a2 a3 k1 k2 k3 k4
  have hg := gro_trans (take_gro v (x * 7 + i) r) (gro_ext k1)
  refine ⟨c1, c2, fun y b z => ?_, Nat.le_trans (mu_ext k1) a4, gro_trans a5 hg, fun G g0 gr => k5 G (a6 G g0 gr) ((rules_gro a5).mpr gr)⟩
  rcases c3 y b z with q | q
  · exact Or.inl q
  · refine Or.inr ⟨q.1, ?_⟩
    rcases Nat.lt_or_ge b r2 with z2 | z2
    · have hb : b < 160 := by have := (c1.2.2.1 y b (c1.2.2.2.1 y b z)).2; have := (tm_N c1.1).2.2; omega
      have := hn.2.2.1 b q.2 z2 hb
      rw [q.1, this] at z
      cases z
    · exact z2
theorem in_enter {u v : sU} {N : Nat} {kd fa fb : Nat → Nat} {tk r M : Nat} (h : s_out u v N kd fa fb (M + 1)) (ht : tk < 1120) (hf : v.1 3 0 tk = true) (hn : tm_nx (v.1 2 tk) 160 0 r) : s_in u (s_trow v tk) N kd fa fb tk r M := by
  obtain ⟨⟨b1, b2, b3, b4, b5, b6, b7⟩, a2, a3, a4, a5, a6⟩ := h
  refine ⟨⟨b1, b2, b3, b4, fun y z => b5 y (tm_drop_iff.mp z).1, b6, b7⟩, a2, fun y b z => ?_, ?_, ⟨a5.1, fun i hi => (va_up_ne _ _ (by omega)).trans (a5.2.1 i hi), a5.2.2⟩, a6⟩
  · by_cases q : y = tk
    · refine Or.inr ⟨q, ?_⟩
      rcases Nat.lt_or_ge b r with z2 | z2
      · have hb : b < 160 := by have := (b3 y b (b4 y b z)).2; have := (tm_N b1).2.2; omega
        have e := hn.2.2.1 b (Nat.zero_le _) z2 hb
        have z3 : v.1 2 y b = true := z
        rw [q, e] at z3
        cases z3
      · exact z2
    · exact Or.inl (tm_drop_iff.mpr ⟨a3 y b z, fun w => q w.2⟩)
  · have := mu_trow ht hf
    omega
theorem in_exit {u v : sU} {N : Nat} {kd fa fb : Nat → Nat} {tk r M : Nat} (h : s_in u v N kd fa fb tk r M) (hr : 160 ≤ r) : s_out u v N kd fa fb M := by
  obtain ⟨a1, a2, a3, a4, a5, a6⟩ := h
  refine ⟨a1, a2, fun y b z => (a3 y b z).elim id (fun q => ?_), a4, a5, a6⟩
  have := (a1.2.2.1 y b (a1.2.2.2.1 y b z)).2
  have := (tm_N a1.1).2.2
  omega
theorem out_done {u v : sU} {N : Nat} {kd fa fb : Nat → Nat} {M : Nat} (h : s_out u v N kd fa fb M) (hf : ∀ y, y < 1120 → ¬ v.1 3 0 y = true) : s_done u v N kd fa fb := by
  obtain ⟨a1, a2, a3, a4, a5, a6⟩ := h
  refine ⟨a1, a2, fun y b z => hf y ?_ (a3 y b z), hf, a5, a6⟩
  have := (a1.2.2.1 y b (a1.2.2.2.1 y b z)).1
  have := (tm_N a1.1).2.2
  omega
