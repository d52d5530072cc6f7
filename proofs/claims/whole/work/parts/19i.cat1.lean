/-! What the facts mean: each follows; what is taken in. -/
def gB (TA TR : Nat → Nat → Prop) (TC : Nat → Nat → Nat → Prop) (N : Nat) (kd fa fb : Nat → Nat) (y b : Nat) : Prop :=
  y < N * 7 ∧ b < N ∧ (y % 7 = 6 → tm_Bel N kd fa fb TA TR TC (y / 7) b) ∧ ∀ r, r < 6 → y % 7 = r → tm_Lnk N kd fa fb TA TR TC r (y / 7) b
def s_sound (u : sU) (N : Nat) (kd fa fb : Nat → Nat) : Prop := ∀ y b, u.1 0 y b = true → gB (TAu u) (TRu u) (TCu u) N kd fa fb y b
theorem gB_6 {TA TR : Nat → Nat → Prop} {TC : Nat → Nat → Nat → Prop} {N : Nat} {kd fa fb : Nat → Nat} {x b : Nat} : gB TA TR TC N kd fa fb (x * 7 + 6) b ↔ x < N ∧ b < N ∧ tm_Bel N kd fa fb TA TR TC x b := by
  unfold gB
  rw [show (x * 7 + 6) % 7 = 6 by omega, show (x * 7 + 6) / 7 = x by omega]
  exact ⟨fun z => ⟨by omega, z.2.1, z.2.2.1 rfl⟩, fun z => ⟨by omega, z.2.1, fun _ => z.2.2, fun r hr e => by omega⟩⟩
theorem gB_r {TA TR : Nat → Nat → Prop} {TC : Nat → Nat → Nat → Prop} {N : Nat} {kd fa fb : Nat → Nat} {x r b : Nat} (hr : r < 6) : gB TA TR TC N kd fa fb (x * 7 + r) b ↔ x < N ∧ b < N ∧ tm_Lnk N kd fa fb TA TR TC r x b := by
  unfold gB
  rw [show (x * 7 + r) % 7 = r by omega, show (x * 7 + r) / 7 = x by omega]
  exact ⟨fun z => ⟨by omega, z.2.1, z.2.2.2 r hr rfl⟩, fun z => ⟨by omega, z.2.1, fun e => by omega, fun q _ e => e ▸ z.2.2⟩⟩
theorem gB_mono {TA TR TA' TR' : Nat → Nat → Prop} {TC TC' : Nat → Nat → Nat → Prop} {N N' : Nat} {kd fa fb kd' fa' fb' : Nat → Nat} {y b : Nat} (hn : N ≤ N') (hk : ∀ k, k < N → kd' k = kd k ∧ fa' k = fa k ∧ fb' k = fb k) (ha : ∀ a b, TA a b → TA' a b) (hr : ∀ r s, TR r s → TR' r s) (hc : ∀ r s t, TC r s t → TC' r s t)
    (h : gB TA TR TC N kd fa fb y b) : gB TA' TR' TC' N' kd' fa' fb' y b :=
  ⟨by have := h.1; omega, by have := h.2.1; omega, fun e => tm_Bel_mono hn hk ha hr hc (h.2.2.1 e), fun r hr' e => tm_Lnk_mono hn hk ha hr hc (h.2.2.2 r hr' e)⟩
theorem rules_gB {v : sU} {N : Nat} {kd fa fb : Nat → Nat} (hb : s_bas v N kd fa fb) : s_rules v N kd fa fb (gB (TAu v) (TRu v) (TCu v) N kd fa fb) := by
  obtain ⟨b1, b2, b3, b4, b5, ⟨t1, t2, t3⟩, b7⟩ := hb
  have hN := (tm_N b1).2.1
  obtain ⟨l1, l2, l3, l4, l5, l6, l7, l8, l9, l10⟩ := tm_least N kd fa fb (TAu v) (TRu v) (TCu v)
  refine ⟨fun x a b h z => ?_, fun x k hk h2 z => ?_, fun x k hk h2 z1 z2 => ?_, fun x k hk h3 z => ?_, fun x y k hk h3 z1 z2 => ?_, fun x y r t hr h z => ?_, fun x y z r q t hr hq h z1 z2 => ?_, fun x y r hr z => ?_, fun x y r hr z1 z2 => ?_⟩
  · have z := gB_6.mp z
    exact gB_6.mpr ⟨z.1, (t1 a b h).2, l2 x a b h z.2.2⟩
  · have z := gB_6.mp z
    have h9 := tm_2 b1 hk h2
    have h8 := l5 k x hk h2 z.2.2
    exact ⟨gB_6.mpr ⟨z.1, h9.2.2.1, h8.1⟩, gB_6.mpr ⟨z.1, h9.2.2.2, h8.2⟩⟩
  · have z1 := gB_6.mp z1
    have z2 := gB_6.mp z2
    exact gB_6.mpr ⟨z1.1, hk, l6 k x hk h2 z1.2.2 z2.2.2⟩
  · have z := gB_6.mp z
    have h9 := tm_3 b1 hk h3
    exact (gB_r h9.2.2.1).mpr ⟨z.1, h9.2.2.2, l7 k x hk h3 z.2.2⟩
  · have h9 := tm_3 b1 hk h3
    have z1 := (gB_r h9.2.2.1).mp z1
    have z2 := gB_6.mp z2
    exact gB_6.mpr ⟨z1.1, hk, l8 k x y hk h3 z1.2.2 z2.2.2⟩
  · have z := (gB_r hr).mp z
    exact (gB_r (t2 r t h).2).mpr ⟨z.1, z.2.1, l3 r t x y h z.2.2⟩
  · have z1 := (gB_r hr).mp z1
    have z2 := (gB_r hq).mp z2
    exact (gB_r (t3 _ t h).2).mpr ⟨z1.1, z2.2.1, l4 r q t x y z ⟨hr, hq, h⟩ z1.2.2 z2.2.2⟩
  · have z := (gB_r hr).mp z
    exact ⟨gB_6.mpr ⟨z.2.1, z.2.1, (l1 y z.2.1).1⟩, gB_6.mpr ⟨z.2.1, by omega, (l1 y z.2.1).2⟩⟩
  · have z1 := (gB_r hr).mp z1
    have z2 := gB_6.mp z2
    exact gB_6.mpr ⟨z1.1, by omega, l9 r x y z1.2.2 z2.2.2⟩
theorem tau_gro {u v : sU} (h : s_gro u v) : TAu v = TAu u ∧ TRu v = TRu u ∧ TCu v = TCu u := by
  unfold TAu TRu TCu
  rw [h.2.1 4 (by decide), h.2.1 5 (by decide), h.2.1 6 (by decide)]
  exact ⟨rfl, rfl, rfl⟩
/-- what was drawn follows -/
theorem sound_done {u v : sU} {N : Nat} {kd fa fb : Nat → Nat} (hb : s_bas u N kd fa fb) (hs : s_sound u N kd fa fb) (hg : s_gro u v) (h : s_snd u v (s_rules u N kd fa fb)) : s_sound v N kd fa fb := by
  unfold s_sound
  rw [(tau_gro hg).1, (tau_gro hg).2.1, (tau_gro hg).2.2]
  exact h _ hs (rules_gB hb)
/-- all is drawn: a begun one's facts are all that follows -/
theorem covers_iff {v : sU} {N : Nat} {kd fa fb : Nat → Nat} {d e : Nat} (hb : s_bas v N kd fa fb) (hs : s_sat v N kd fa fb) (hq : ∀ y b, ¬ v.1 2 y b = true) (ho : s_sound v N kd fa fb) (hd : v.1 0 (d * 7 + 6) d = true) (he : e < N) :
    (v.1 0 (d * 7 + 6) 1 = true ∨ v.1 0 (d * 7 + 6) e = true) ↔ tm_Bel N kd fa fb (TAu v) (TRu v) (TCu v) d e := by
  constructor
  · rintro (z | z)
    · exact (tm_least N kd fa fb (TAu v) (TRu v) (TCu v)).2.2.2.2.2.2.2.2.2 d e (gB_6.mp (ho _ _ z)).2.2 he
    · exact (gB_6.mp (ho _ _ z)).2.2
  · intro z
    have := tm_complete hs (fun c r d z => hq _ _ z.2) (fun x z => ⟨by decide, (hb.2.2.2.2.2.2 x 6 x (by decide) z.2).2⟩) (fun r t z => (hb.2.2.2.2.2.1.2.1 r t z).2) (fun r q t z => (hb.2.2.2.2.2.1.2.2 _ t z.2.2).2) (fun k hk h3 => (tm_3 hb.1 hk h3).2.2.1) (d := d) (e := e) ⟨by decide, hd⟩ z
    rcases this with z | z
    · exact Or.inl z.2
    · exact Or.inr z.2
/-- links: what a begun one reaches -/
theorem links_iff {v : sU} {N : Nat} {kd fa fb : Nat → Nat} {x i y : Nat} (hi : i < 6) (hb : s_bas v N kd fa fb) (hs : s_sat v N kd fa fb) (hq : ∀ y b, ¬ v.1 2 y b = true) (ho : s_sound v N kd fa fb) (hx : v.1 0 (x * 7 + 6) x = true) :
    (v.1 0 (x * 7 + 6) 1 = true ∨ ∃ d, d < 160 ∧ v.1 0 (x * 7 + i) d = true ∧ v.1 0 (d * 7 + 6) y = true) ↔ (tm_Bel N kd fa fb (TAu v) (TRu v) (TCu v) x 1 ∨ ∃ d, tm_Lnk N kd fa fb (TAu v) (TRu v) (TCu v) i x d ∧ tm_Bel N kd fa fb (TAu v) (TRu v) (TCu v) d y) := by
  have hN := tm_N hb.1
  constructor
  · rintro (z | ⟨d, _, z1, z2⟩)
    · exact Or.inl (gB_6.mp (ho _ _ z)).2.2
    · exact Or.inr ⟨d, ((gB_r hi).mp (ho _ _ z1)).2.2, (gB_6.mp (ho _ _ z2)).2.2⟩
  · intro z
    by_cases h1 : v.1 0 (x * 7 + 6) 1 = true
    · exact Or.inl h1
    · refine Or.inr ?_
      rcases z with z | ⟨d, z1, z2⟩
      · have := (covers_iff hb hs hq ho hx (show 1 < N by omega)).mpr z
        exact absurd (this.elim id id) h1
      · -- the pair of what is there is closed; so a link that follows is there
        have key := z1 (fun x e => FF v x 6 x → FF v x 6 1 ∨ FF v x 6 e) (fun r x y => FF v x 6 x → FF v x 6 1 ∨ (r < 6 ∧ FF v x r y)) (tm_closed hs (fun c r d z => hq _ _ z.2) (fun x z => ⟨by decide, (hb.2.2.2.2.2.2 x 6 x (by decide) z.2).2⟩) (fun r t z => (hb.2.2.2.2.2.1.2.1 r t z).2) (fun r q t z => (hb.2.2.2.2.2.1.2.2 _ t z.2.2).2) (fun k hk h3 => (tm_3 hb.1 hk h3).2.2.1)) ⟨by decide, hx⟩
        rcases key with k | ⟨_, k⟩
        · exact absurd k.2 h1
        · have hdx := hb.2.2.1 _ _ k.2
          have hbd : FF v d 6 d := hs.2.2.2.2.2.2.2.1 x d i hi k (fun z => hq _ _ z.2) (fun z => h1 z.2)
          have hne : ¬ v.1 0 (d * 7 + 6) 1 = true := fun z => h1 (hs.2.2.2.2.2.2.2.2 x d i hi k (fun z => hq _ _ z.2) ⟨by decide, z⟩ (fun z => hq _ _ z.2)).2
          have hyN : y < N := by
            refine Classical.byContradiction (fun hy => ?_)
            have := tm_complete hs (fun c r d z => hq _ _ z.2) (fun x z => ⟨by decide, (hb.2.2.2.2.2.2 x 6 x (by decide) z.2).2⟩) (fun r t z => (hb.2.2.2.2.2.1.2.1 r t z).2) (fun r q t z => (hb.2.2.2.2.2.1.2.2 _ t z.2.2).2) (fun k hk h3 => (tm_3 hb.1 hk h3).2.2.1) hbd z2
            rcases this with z | z
            · exact hne z.2
            · exact hy (hb.2.2.1 _ _ z.2).2
          have := (covers_iff hb hs hq ho hbd.2 hyN).mpr z2
          exact ⟨d, by omega, k.2, this.elim (fun z => absurd z hne) id⟩
