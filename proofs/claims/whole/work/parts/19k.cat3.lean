/-! What is taken in: an axiom is heard. -/
theorem mid_hear {v v1 w : sU} {N : Nat} {kd fa fb : Nat → Nat} {n : Nat} {rule : (Nat → Nat → Prop) → Prop} (h : s_mid v N kd fa fb n) (e0 : v1.1 0 = v.1 0) (e1 : v1.1 1 = v.1 1) (e2 : v1.1 2 = v.1 2) (e3 : v1.1 3 = v.1 3) (e7 : v1.1 7 = v.1 7) (e8 : v1.1 8 = v.1 8) (e9 : v1.2 = v.2)
    (t4 : ∀ a b, v.1 4 a b = true → v1.1 4 a b = true) (t5 : ∀ a b, v.1 5 a b = true → v1.1 5 a b = true) (t6 : ∀ a b, v.1 6 a b = true → v1.1 6 a b = true)
    (rg : (∀ a b, v1.1 4 a b = true → a < N ∧ b < N) ∧ (∀ r t, v1.1 5 r t = true → r < 6 ∧ t < 6) ∧ (∀ q t, v1.1 6 q t = true → q < 36 ∧ t < 6)) (hx : s_ext v1 w) (hs : s_snd v1 w rule)
    (r1 : rule (fun y b => y < N * 7 ∧ b < N)) (r2 : rule (fun y _ => s_beg v1 (y / 7))) (r3 : s_bas v1 N kd fa fb → rule (gB (TAu v1) (TRu v1) (TCu v1) N kd fa fb))
    (k1 : ∀ a b, TAu v1 a b → TAu v a b ∨ ∀ c, FF w c 6 a → ¬ QQ w c 6 a → FF w c 6 b) (k2 : ∀ r t, TRu v1 r t → TRu v r t ∨ ∀ c y, FF w c r y → ¬ QQ w c r y → FF w c t y) (k3 : ∀ r q t, TCu v1 r q t → TCu v r q t ∨ ∀ c y z, FF w c r y → ¬ QQ w c r y → FF w y q z → ¬ QQ w y q z → FF w c t z) : s_mid w N kd fa fb n := by
  obtain ⟨⟨b1, b2, b3, b4, b5, b6, b7⟩, h2, h3, h4⟩ := h
  have tm1 : s_tm v1 N kd fa fb := by unfold s_tm; rw [e9, e7, e8]; exact b1
  have tr1 : s_tr v1 := by unfold s_tr; rw [e0, e1]; exact b2
  have bas1 : s_bas v1 N kd fa fb := ⟨tm1, tr1, by rw [e0]; exact b3, by rw [e0, e2]; exact b4, by rw [e0, e3]; exact b5, rg, by unfold s_beg; rw [e0]; exact b7⟩
  have snd1 : s_sound v1 N kd fa fb := by
    unfold s_sound
    rw [e0]
    exact fun y b z => gB_mono (Nat.le_refl _) (fun k _ => ⟨rfl, rfl, rfl⟩) t4 t5 (fun r q t z => ⟨z.1, z.2.1, t6 _ _ z.2.2⟩) (h4 y b z)
  have ef : FF v1 = FF v := by unfold FF; rw [e0]
  have eq : QQ v1 = QQ v := by unfold QQ; rw [e2]
  have fr1 : ∀ y b, v1.1 2 y b = true → v1.1 3 0 y = true := by rw [e2, e3]; exact h3
  have sat1 : tm_Sat n kd fa fb (TAu v) (TRu v) (TCu v) (FF v1) (QQ v1) := by rw [ef, eq]; exact h2
  have e := tau_gro (gro_ext hx)
  refine ⟨bas_ext bas1 hx (hs _ bas1.2.2.1 r1) (fun x r d hr z => ?_), ?_, fr_ext hx fr1, ?_⟩
  · have := hs _ (beg_row bas1.2.2.2.2.2.2) r2 _ _ z
    rw [show (x * 7 + r) / 7 = x by omega] at this
    exact beg_mono hx.1 this
  · rw [e.1, e.2.1, e.2.2]
    exact sat_told (sat_ext sat1 hx) k1 k2 k3
  · unfold s_sound
    rw [e.1, e.2.1, e.2.2]
    exact hs _ snd1 (r3 bas1)
section HE
variable {v w : sU} {N : Nat} {kd fa fb : Nat → Nat} {n x y : Nat}
theorem beg_6 {u : sU} {z : Nat} {b b' : Nat} (h : (fun y (_ : Nat) => s_beg u (y / 7)) (z * 7 + 6) b) : (fun y (_ : Nat) => s_beg u (y / 7)) (z * 7 + 6) b' := h
theorem mid_hear0 (h : s_mid v N kd fa fb n) (hx1 : x < N) (hy1 : y < N) (hw : s_ext (s_put v 4 x y) w ∧ s_from (s_put v 4 x y) w (x * 7 + 6) 6 y 160) : s_mid w N kd fa fb n := by
  have hN := (tm_N h.1.1).2.2
  have tr1 : s_tr (s_put v 4 x y) := h.1.2.1
  have hs := from_snd (rule := fun (G : Nat → Nat → Prop) => ∀ z, z < 160 → G (z * 7 + 6) x → G (z * 7 + 6) y) (show x < 160 by omega) (show 6 < 7 by decide) tr1 snd_refl hw.2 (fun G hr _ z hz g => hr z hz g)
  refine mid_hear (v1 := s_put v 4 x y) h rfl rfl rfl rfl rfl rfl rfl (fun a b z => tm_put_iff.mpr (Or.inl z)) (fun a b z => z) (fun a b z => z) ⟨fun a b z => ?_, h.1.2.2.2.2.2.1.2.1, h.1.2.2.2.2.2.1.2.2⟩ hw.1 hs (fun z _ g => ⟨g.1, hy1⟩) (fun z _ g => g) (fun bas1 z _ g => (rules_gB bas1).1 z x y (tm_put_iff.mpr (Or.inr ⟨rfl, rfl⟩)) g) (fun a b z => ?_) (fun r t z => Or.inl z) (fun r q t z => Or.inl z)
  · rcases tm_put_iff.mp z with z | z
    · exact h.1.2.2.2.2.2.1.1 a b z
    · exact ⟨by omega, by omega⟩
  · rcases tm_put_iff.mp z with z | z
    · exact Or.inl z
    · refine Or.inr (fun c z1 z2 => ⟨by decide, ?_⟩)
      rw [z.1] at z1 z2
      have o := old_of hw.1 z1.2 (fun q => z2 ⟨by decide, q⟩)
      have hr := (h.1.2.2.1 _ _ o.1).1
      rw [z.2]
      exact from_all (show x < 160 by omega) (by decide) tr1 (ext_refl _) hw.2 (show c < 160 by omega) o.1
theorem mid_hear1 (h : s_mid v N kd fa fb n) (hx1 : x < N) (hy1 : y < N) (hw : ∃ v', (s_ext (s_put2 v x y) v' ∧ s_from (s_put2 v x y) v' (x * 7 + 6) 6 y 160) ∧ s_ext v' w ∧ s_from v' w (y * 7 + 6) 6 x 160) : s_mid w N kd fa fb n ∧ s_ext (s_put2 v x y) w := by
  obtain ⟨v', hv, hw⟩ := hw
  have hN := (tm_N h.1.1).2.2
  have tr1 : s_tr (s_put2 v x y) := h.1.2.1
  have tr2 := tr_ext tr1 hv.1
  have hx := ext_trans hv.1 hw.1
  have hp : ∀ a b, tm_put (tm_put (v.1 4) x y) y x a b = true ↔ v.1 4 a b = true ∨ (a = x ∧ b = y) ∨ (a = y ∧ b = x) := fun a b => by
    rw [tm_put_iff, tm_put_iff]
    exact ⟨fun z => z.elim (fun z => z.elim Or.inl (fun z => Or.inr (Or.inl z))) (fun z => Or.inr (Or.inr z)), fun z => z.elim (fun z => Or.inl (Or.inl z)) (fun z => z.elim (fun z => Or.inl (Or.inr z)) Or.inr)⟩
  have hs := from_snd (rule := fun (G : Nat → Nat → Prop) => ∀ z, z < 160 → (G (z * 7 + 6) x → G (z * 7 + 6) y) ∧ (G (z * 7 + 6) y → G (z * 7 + 6) x)) (show y < 160 by omega) (show 6 < 7 by decide) tr2 (from_snd (show x < 160 by omega) (show 6 < 7 by decide) tr1 snd_refl hv.2 (fun G hr _ z hz g => (hr z hz).1 g)) hw.2 (fun G hr _ z hz g => (hr z hz).2 g)
  refine ⟨mid_hear (v1 := s_put2 v x y) h rfl rfl rfl rfl rfl rfl rfl (fun a b z => (hp a b).mpr (Or.inl z)) (fun a b z => z) (fun a b z => z) ⟨fun a b z => ?_, h.1.2.2.2.2.2.1.2.1, h.1.2.2.2.2.2.1.2.2⟩ hx hs (fun z _ => ⟨fun g => ⟨g.1, hy1⟩, fun g => ⟨g.1, hx1⟩⟩) (fun z _ => ⟨fun g => g, fun g => g⟩)
    (fun bas1 z _ => ⟨fun g => (rules_gB bas1).1 z x y ((hp x y).mpr (Or.inr (Or.inl ⟨rfl, rfl⟩))) g, fun g => (rules_gB bas1).1 z y x ((hp y x).mpr (Or.inr (Or.inr ⟨rfl, rfl⟩))) g⟩) (fun a b z => ?_) (fun r t z => Or.inl z) (fun r q t z => Or.inl z), hx⟩
  · rcases (hp a b).mp z with z | z | z
    · exact h.1.2.2.2.2.2.1.1 a b z
    · exact ⟨by omega, by omega⟩
    · exact ⟨by omega, by omega⟩
  · rcases (hp a b).mp z with z | z | z
    · exact Or.inl z
    · refine Or.inr (fun c z1 z2 => ⟨by decide, ?_⟩)
      rw [z.1] at z1 z2
      have o := old_of hx z1.2 (fun q => z2 ⟨by decide, q⟩)
      have hr := (h.1.2.2.1 _ _ o.1).1
      rw [z.2]
      exact hw.1.1 _ _ (from_all (show x < 160 by omega) (by decide) tr1 (ext_refl _) hv.2 (show c < 160 by omega) o.1)
    · refine Or.inr (fun c z1 z2 => ⟨by decide, ?_⟩)
      rw [z.1] at z1 z2
      have o := old_of hx z1.2 (fun q => z2 ⟨by decide, q⟩)
      have hr := (h.1.2.2.1 _ _ o.1).1
      rw [z.2]
      exact from_all (show y < 160 by omega) (by decide) tr2 hv.1 hw.2 (show c < 160 by omega) o.1
theorem beg_q {u : sU} {z q t b b' : Nat} (hq : q < 7) (ht : t < 7) (h : s_beg u ((z * 7 + q) / 7)) : s_beg u ((z * 7 + t) / 7) := by
  rw [show (z * 7 + q) / 7 = z by omega] at h
  rw [show (z * 7 + t) / 7 = z by omega]
  exact h
theorem mid_hear2 (h : s_mid v N kd fa fb n) (hx1 : x < 6) (hy1 : y < 6) (hw : s_ext (s_put v 5 x y) w ∧ s_snd (s_put v 5 x y) w (fun (G : Nat → Nat → Prop) => ∀ z d, z < 160 → G (z * 7 + x) d → G (z * 7 + y) d) ∧ ∀ b, b < N → ∀ z, z < 160 → v.1 0 (z * 7 + x) b = true → w.1 0 (z * 7 + y) b = true) : s_mid w N kd fa fb n := by
  have hN := (tm_N h.1.1).2.2
  refine mid_hear (v1 := s_put v 5 x y) h rfl rfl rfl rfl rfl rfl rfl (fun a b z => z) (fun a b z => tm_put_iff.mpr (Or.inl z)) (fun a b z => z) ⟨h.1.2.2.2.2.2.1.1, fun r t z => ?_, h.1.2.2.2.2.2.1.2.2⟩ hw.1 hw.2.1 (fun z d _ g => ⟨by omega, g.2⟩) (fun z d _ g => beg_q (b := 0) (b' := 0) (by omega) (by omega) g) (fun bas1 z d _ g => (rules_gB bas1).2.2.2.2.2.1 z d x y hx1 (tm_put_iff.mpr (Or.inr ⟨rfl, rfl⟩)) g) (fun a b z => Or.inl z) (fun r t z => ?_) (fun r q t z => Or.inl z)
  · rcases tm_put_iff.mp z with z | z
    · exact h.1.2.2.2.2.2.1.2.1 r t z
    · exact ⟨by omega, by omega⟩
  · rcases tm_put_iff.mp z with z | z
    · exact Or.inl z
    · refine Or.inr (fun c d z1 z2 => ?_)
      rw [z.1] at z1 z2
      have o := old_of hw.1 z1.2 (fun q => z2 ⟨z1.1, q⟩)
      have hr := h.1.2.2.1 _ _ o.1
      rw [z.2]
      exact ⟨by omega, hw.2.2 d hr.2 c (by omega) o.1⟩
theorem mid_hear3 {t : Nat} (h : s_mid v N kd fa fb n) (hx1 : x < 6) (hy1 : y < 6) (ht1 : t < 6) (hw : s_ext (s_put v 6 (x * 6 + y) t) w ∧ s_snd (s_put v 6 (x * 6 + y) t) w (fun (G : Nat → Nat → Prop) => ∀ z d b, z < 160 → G (z * 7 + x) d → G (d * 7 + y) b → G (z * 7 + t) b) ∧ ∀ d, d < N → ∀ b, b < 160 → v.1 0 (d * 7 + y) b = true → ∀ z, z < 160 → v.1 0 (z * 7 + x) d = true → w.1 0 (z * 7 + t) b = true) : s_mid w N kd fa fb n := by
  have hN := (tm_N h.1.1).2.2
  refine mid_hear (v1 := s_put v 6 (x * 6 + y) t) h rfl rfl rfl rfl rfl rfl rfl (fun a b z => z) (fun a b z => z) (fun a b z => tm_put_iff.mpr (Or.inl z)) ⟨h.1.2.2.2.2.2.1.1, h.1.2.2.2.2.2.1.2.1, fun r q z => ?_⟩ hw.1 hw.2.1 (fun z d b _ g1 g2 => ⟨by omega, g2.2⟩) (fun z d b _ g1 g2 => beg_q (b := 0) (b' := 0) (by omega) (by omega) g1) (fun bas1 z d b _ g1 g2 => (rules_gB bas1).2.2.2.2.2.2.1 z d b x y t hx1 hy1 (tm_put_iff.mpr (Or.inr ⟨rfl, rfl⟩)) g1 g2) (fun a b z => Or.inl z) (fun r t z => Or.inl z) (fun r q t' z => ?_)
  · rcases tm_put_iff.mp z with z | z
    · exact h.1.2.2.2.2.2.1.2.2 r q z
    · exact ⟨by omega, by omega⟩
  · obtain ⟨a1, a2, z⟩ := z
    rcases tm_put_iff.mp z with z | z
    · exact Or.inl ⟨a1, a2, z⟩
    · have e1 : r = x := by omega
      have e2 : q = y := by omega
      subst e1 e2
      refine Or.inr (fun c d b z1 z2 z3 z4 => ?_)
      have o1 := old_of hw.1 z1.2 (fun q => z2 ⟨z1.1, q⟩)
      have o2 := old_of hw.1 z3.2 (fun q => z4 ⟨z3.1, q⟩)
      have hr1 := h.1.2.2.1 _ _ o1.1
      have hr2 := h.1.2.2.1 _ _ o2.1
      rw [z.2]
      exact ⟨by omega, hw.2.2 d hr1.2 b (by omega) o2.1 c (by omega) o1.1⟩
end HE
/-- the told tables behind it -/
def x_or (U : Nat → Prop) (k0 : Nat) : Nat → Prop := fun k => U k ∨ k = k0
section TO
variable {so xa xb xc : Nat → Nat} {U : Nat → Prop} {k0 : Nat}
theorem or_TA {a b : Nat} : x_TA so xa xb (x_or U k0) a b ↔ x_TA so xa xb U a b ∨ ((so k0 = 0 ∧ xa k0 = a ∧ xb k0 = b) ∨ (so k0 = 1 ∧ ((xa k0 = a ∧ xb k0 = b) ∨ (xa k0 = b ∧ xb k0 = a)))) := by
  constructor
  · rintro ⟨k, z | z, h⟩
    · exact Or.inl ⟨k, z, h⟩
    · subst z; exact Or.inr h
  · rintro (⟨k, z, h⟩ | h)
    · exact ⟨k, Or.inl z, h⟩
    · exact ⟨k0, Or.inr rfl, h⟩
theorem or_TR {r t : Nat} : x_TR so xa xb (x_or U k0) r t ↔ x_TR so xa xb U r t ∨ (so k0 = 2 ∧ xa k0 = r ∧ xb k0 = t) := by
  constructor
  · rintro ⟨k, z | z, h⟩
    · exact Or.inl ⟨k, z, h⟩
    · subst z; exact Or.inr h
  · rintro (⟨k, z, h⟩ | h)
    · exact ⟨k, Or.inl z, h⟩
    · exact ⟨k0, Or.inr rfl, h⟩
theorem or_TC {r q t : Nat} : x_TC so xa xb xc (x_or U k0) r q t ↔ x_TC so xa xb xc U r q t ∨ (so k0 = 3 ∧ xa k0 = r ∧ xb k0 = q ∧ xc k0 = t) := by
  constructor
  · rintro ⟨k, z | z, h⟩
    · exact Or.inl ⟨k, z, h⟩
    · subst z; exact Or.inr h
  · rintro (⟨k, z, h⟩ | h)
    · exact ⟨k, Or.inl z, h⟩
    · exact ⟨k0, Or.inr rfl, h⟩
theorem told_0 {v w : sU} (h : s_told v so xa xb xc U) (e : so k0 = 0) (hx : s_ext (s_put v 4 (xa k0) (xb k0)) w) : s_told w so xa xb xc (x_or U k0) := by
  unfold s_told
  rw [hx.2.2.2.2.2.1 4 (by decide), hx.2.2.2.2.2.1 5 (by decide), hx.2.2.2.2.2.1 6 (by decide)]
  refine ⟨fun a b => ?_, fun r t => ?_, fun r q t h1 h2 => ?_⟩
  · show tm_put (v.1 4) _ _ a b = true ↔ _
    rw [tm_put_iff, h.1, or_TA, e]
    exact ⟨fun z => z.elim Or.inl (fun z => Or.inr (Or.inl ⟨rfl, z.1.symm, z.2.symm⟩)), fun z => z.elim Or.inl (fun z => z.elim (fun z => Or.inr ⟨z.2.1.symm, z.2.2.symm⟩) (fun z => absurd z.1 (by decide)))⟩
  · show v.1 5 r t = true ↔ _
    rw [h.2.1, or_TR, e]
    exact ⟨Or.inl, fun z => z.elim id (fun z => absurd z.1 (by decide))⟩
  · show v.1 6 _ t = true ↔ _
    rw [h.2.2 r q t h1 h2, or_TC, e]
    exact ⟨Or.inl, fun z => z.elim id (fun z => absurd z.1 (by decide))⟩
theorem told_1 {v w : sU} (h : s_told v so xa xb xc U) (e : so k0 = 1) (hx : s_ext (s_put2 v (xa k0) (xb k0)) w) : s_told w so xa xb xc (x_or U k0) := by
  unfold s_told
  rw [hx.2.2.2.2.2.1 4 (by decide), hx.2.2.2.2.2.1 5 (by decide), hx.2.2.2.2.2.1 6 (by decide)]
  refine ⟨fun a b => ?_, fun r t => ?_, fun r q t h1 h2 => ?_⟩
  · show tm_put (tm_put (v.1 4) _ _) _ _ a b = true ↔ _
    rw [tm_put_iff, tm_put_iff, h.1, or_TA, e]
    constructor
    · rintro ((z | z) | z)
      · exact Or.inl z
      · exact Or.inr (Or.inr ⟨rfl, Or.inl ⟨z.1.symm, z.2.symm⟩⟩)
      · exact Or.inr (Or.inr ⟨rfl, Or.inr ⟨z.2.symm, z.1.symm⟩⟩)
    · rintro (z | ⟨z, _⟩ | ⟨_, z | z⟩)
      · exact Or.inl (Or.inl z)
      · exact absurd z (by decide)
      · exact Or.inl (Or.inr ⟨z.1.symm, z.2.symm⟩)
      · exact Or.inr ⟨z.2.symm, z.1.symm⟩
  · show v.1 5 r t = true ↔ _
    rw [h.2.1, or_TR, e]
    exact ⟨Or.inl, fun z => z.elim id (fun z => absurd z.1 (by decide))⟩
  · show v.1 6 _ t = true ↔ _
    rw [h.2.2 r q t h1 h2, or_TC, e]
    exact ⟨Or.inl, fun z => z.elim id (fun z => absurd z.1 (by decide))⟩
theorem told_2 {v w : sU} (h : s_told v so xa xb xc U) (e : so k0 = 2) (hx : s_ext (s_put v 5 (xa k0) (xb k0)) w) : s_told w so xa xb xc (x_or U k0) := by
  unfold s_told
  rw [hx.2.2.2.2.2.1 4 (by decide), hx.2.2.2.2.2.1 5 (by decide), hx.2.2.2.2.2.1 6 (by decide)]
  refine ⟨fun a b => ?_, fun r t => ?_, fun r q t h1 h2 => ?_⟩
  · show v.1 4 a b = true ↔ _
    rw [h.1, or_TA, e]
    exact ⟨Or.inl, fun z => z.elim id (fun z => z.elim (fun z => absurd z.1 (by decide)) (fun z => absurd z.1 (by decide)))⟩
  · show tm_put (v.1 5) _ _ r t = true ↔ _
    rw [tm_put_iff, h.2.1, or_TR, e]
    exact ⟨fun z => z.elim Or.inl (fun z => Or.inr ⟨rfl, z.1.symm, z.2.symm⟩), fun z => z.elim Or.inl (fun z => Or.inr ⟨z.2.1.symm, z.2.2.symm⟩)⟩
  · show v.1 6 _ t = true ↔ _
    rw [h.2.2 r q t h1 h2, or_TC, e]
    exact ⟨Or.inl, fun z => z.elim id (fun z => absurd z.1 (by decide))⟩
theorem told_3 {v w : sU} (h : s_told v so xa xb xc U) (e : so k0 = 3) (ha : xa k0 < 6) (hb : xb k0 < 6) (hx : s_ext (s_put v 6 (xa k0 * 6 + xb k0) (xc k0)) w) : s_told w so xa xb xc (x_or U k0) := by
  unfold s_told
  rw [hx.2.2.2.2.2.1 4 (by decide), hx.2.2.2.2.2.1 5 (by decide), hx.2.2.2.2.2.1 6 (by decide)]
  refine ⟨fun a b => ?_, fun r t => ?_, fun r q t h1 h2 => ?_⟩
  · show v.1 4 a b = true ↔ _
    rw [h.1, or_TA, e]
    exact ⟨Or.inl, fun z => z.elim id (fun z => z.elim (fun z => absurd z.1 (by decide)) (fun z => absurd z.1 (by decide)))⟩
  · show v.1 5 r t = true ↔ _
    rw [h.2.1, or_TR, e]
    exact ⟨Or.inl, fun z => z.elim id (fun z => absurd z.1 (by decide))⟩
  · show tm_put (v.1 6) _ _ _ t = true ↔ _
    rw [tm_put_iff, h.2.2 r q t h1 h2, or_TC, e]
    refine ⟨fun z => z.elim Or.inl (fun z => Or.inr ⟨rfl, by omega, by omega, z.2.symm⟩), fun z => z.elim Or.inl (fun z => Or.inr ⟨by rw [z.2.1, z.2.2.1], z.2.2.2.symm⟩)⟩
end TO
