/-! All is drawn: what the tables then say. -/
def s_full (u v : sU) (N : Nat) (kd fa fb : Nat → Nat) (T : Nat) (so xa xb xc : Nat → Nat) : Prop :=
  s_bas v N kd fa fb ∧ s_sat v N kd fa fb ∧ (∀ y b, ¬ v.1 2 y b = true) ∧ s_sound v N kd fa fb ∧ s_told v so xa xb xc (x_inf u) ∧ v.2.1 = u.2.1 ∧ (∀ j, ¬ j = 4 → ¬ j = 5 → ¬ j = 6 → v.2.2 j = u.2.2 j) ∧ v.2.2 4 = N ∧ v.2.2 5 = T ∧ v.2.2 6 = 0
def b_begin (u v : sU) (d : Nat) : Prop := s_ext u v ∧ ∀ x b, v.1 0 x b = true ↔ u.1 0 x b = true ∨ (¬ u.1 0 (d * 7 + 6) d = true ∧ x = d * 7 + 6 ∧ (b = d ∨ b = 0))
section CF
variable {u v w x : sU} {N : Nat} {kd fa fb : Nat → Nat} {T : Nat} {so xa xb xc : Nat → Nat}
theorem mid_begin {n d : Nat} (h : s_mid v N kd fa fb n) (hd : d < N) (k : b_begin v w d) : s_mid w N kd fa fb n := by
  obtain ⟨h1, h2, h3, h4⟩ := h
  have e := tau_gro (gro_ext k.1)
  have hN := (tm_N h1.1).2.1
  have l1 := (tm_least N kd fa fb (TAu v) (TRu v) (TCu v)).1 d hd
  have bd : s_beg w d := begin_0 k.2 (fun z => (h1.2.2.2.2.2.2 d 6 d (by decide) z).2)
  refine ⟨bas_ext h1 k.1 (fun y b z => ?_) (fun X r D hr z => ?_), by rw [e.1, e.2.1, e.2.2]; exact sat_ext h2 k.1, fr_ext k.1 h3, fun y b z => ?_⟩
  · rcases (k.2 y b).mp z with z | ⟨_, z1, z2 | z2⟩
    · exact h1.2.2.1 y b z
    · exact ⟨by omega, by omega⟩
    · exact ⟨by omega, by omega⟩
  · rcases (k.2 _ _).mp z with z | ⟨_, z1, _⟩
    · exact beg_mono k.1.1 (h1.2.2.2.2.2.2 X r D hr z)
    · rw [(row_inj hr (show 6 < 7 by decide) z1).1]
      exact bd
  · rw [e.1, e.2.1, e.2.2]
    rcases (k.2 y b).mp z with z | ⟨_, z1, z2 | z2⟩
    · exact h4 y b z
    · rw [z1, z2]; exact gB_6.mpr ⟨hd, hd, l1.1⟩
    · rw [z1, z2]; exact gB_6.mpr ⟨hd, by omega, l1.2⟩
theorem told_gro {U : Nat → Prop} (h : s_told v so xa xb xc U) (hg : s_gro v w) : s_told w so xa xb xc U := by
  unfold s_told
  rw [hg.2.1 4 (by decide), hg.2.1 5 (by decide), hg.2.1 6 (by decide)]
  exact h
/-- caught up, more begun, all drawn -/
theorem full_of (h1 : s_caught u v N kd fa fb T so xa xb xc) (hm : s_mid w N kd fa fb N) (hg : s_gro v w) (h3 : s_done w x N kd fa fb) : s_full u x N kd fa fb T so xa xb xc := by
  obtain ⟨a1, a2, a3, a4, a5, a6, a7⟩ := h1
  obtain ⟨c1, c2, c3, c4, c5, c6⟩ := h3
  have e := (gro_trans hg c5).2.2
  exact ⟨c1, c2, c3, sound_done hm.1 hm.2.2.2 c5 c6, told_gro a2 (gro_trans hg c5), by rw [e]; exact a3, by rw [e]; exact a4, by rw [e]; exact a5, by rw [e]; exact a6, by rw [e]; exact a7⟩
theorem full_mid (h : s_full u v N kd fa fb T so xa xb xc) : s_mid v N kd fa fb N := ⟨h.1, h.2.1, fun y b z => absurd z (h.2.2.1 y b), h.2.2.2.1⟩
theorem full_caught (h : s_full u v N kd fa fb T so xa xb xc) : s_caught u v N kd fa fb T so xa xb xc := ⟨full_mid h, h.2.2.2.2.1, h.2.2.2.2.2.1, h.2.2.2.2.2.2.1, h.2.2.2.2.2.2.2.1, h.2.2.2.2.2.2.2.2.1, h.2.2.2.2.2.2.2.2.2⟩
theorem inf_of (e1 : v.2.1 = u.2.1) (e2 : v.2.2 2 = u.2.2 2) : x_inf v = x_inf u := by
  unfold x_inf
  rw [e1, e2]
theorem full_cinv (hc : s_cinv u N kd fa fb T so xa xb xc) (h : s_full u v N kd fa fb T so xa xb xc) : s_cinv v N kd fa fb T so xa xb xc := by
  obtain ⟨a1, a2, a3, a4, a5, a6, a7, a8, a9, a10⟩ := h
  have e2 := a7 2 (by decide) (by decide) (by decide)
  refine ⟨a1, a3, ax_of hc.2.2.1 a6 e2, Nat.le_of_eq a8, Nat.le_of_eq a9, by omega, fun _ => ⟨by rw [a8]; exact a2, fun y b z _ => by rw [a8]; exact (a1.2.2.1 y b z).2, a4, x_inf u, a5, fun k z => by rw [inf_of a6 e2]; exact z, fun k _ z => by rw [inf_of a6 e2] at z; exact z⟩⟩
/-- what is below what, by the descriptions and the axioms U -/
def b_Bel (N : Nat) (kd fa fb : Nat → Nat) (so xa xb xc : Nat → Nat) (U : Nat → Prop) (d k : Nat) : Prop := tm_Bel N kd fa fb (x_TA so xa xb U) (x_TR so xa xb U) (x_TC so xa xb xc U) d k
def b_Lnk (N : Nat) (kd fa fb : Nat → Nat) (so xa xb xc : Nat → Nat) (U : Nat → Prop) (r d k : Nat) : Prop := tm_Lnk N kd fa fb (x_TA so xa xb U) (x_TR so xa xb U) (x_TC so xa xb xc U) r d k
theorem told_eq {U : Nat → Prop} (h : s_told v so xa xb xc U) (hr : ∀ k, U k → so k = 3 → xa k < 6 ∧ xb k < 6) : TAu v = x_TA so xa xb U ∧ TRu v = x_TR so xa xb U ∧ TCu v = x_TC so xa xb xc U := by
  refine ⟨funext fun a => funext fun b => propext (h.1 a b), funext fun a => funext fun b => propext (h.2.1 a b), funext fun r => funext fun q => funext fun t => propext ⟨fun z => (h.2.2 r q t z.1 z.2.1).mp z.2.2, fun z => ?_⟩⟩
  obtain ⟨k, z1, z2, z3, z4, z5⟩ := z
  have := hr k z1 z2
  exact ⟨by omega, by omega, (h.2.2 r q t (by omega) (by omega)).mpr ⟨k, z1, z2, z3, z4, z5⟩⟩
theorem ax_rng (h : s_ax u T N so xa xb xc) : ∀ k, x_inf u k → so k = 3 → xa k < 6 ∧ xb k < 6 := fun k z e => (h.2.2 k z.1 (by have := z.2.1; have := h.1; omega)).2.2.2.2.2.1 (by omega)
theorem full_bel {d k : Nat} (hc : s_cinv u N kd fa fb T so xa xb xc) (h : s_full u v N kd fa fb T so xa xb xc) (hd : v.1 0 (d * 7 + 6) d = true) (hk : k < N) : (v.1 0 (d * 7 + 6) 1 || v.1 0 (d * 7 + 6) k) = true ↔ b_Bel N kd fa fb so xa xb xc (x_inf u) d k := by
  have e := told_eq h.2.2.2.2.1 (ax_rng hc.2.2.1)
  have := covers_iff h.1 h.2.1 h.2.2.1 h.2.2.2.1 hd hk
  rw [e.1, e.2.1, e.2.2] at this
  rw [Bool.or_eq_true]
  exact this
theorem full_lnk {X i y : Nat} (hi : i < 6) (hc : s_cinv u N kd fa fb T so xa xb xc) (h : s_full u v N kd fa fb T so xa xb xc) (hd : v.1 0 (X * 7 + 6) X = true) :
    (v.1 0 (X * 7 + 6) 1 = true ∨ ∃ d, d < 160 ∧ v.1 0 (X * 7 + i) d = true ∧ v.1 0 (d * 7 + 6) y = true) ↔ (b_Bel N kd fa fb so xa xb xc (x_inf u) X 1 ∨ ∃ d, b_Lnk N kd fa fb so xa xb xc (x_inf u) i X d ∧ b_Bel N kd fa fb so xa xb xc (x_inf u) d y) := by
  have e := told_eq h.2.2.2.2.1 (ax_rng hc.2.2.1)
  have := links_iff (y := y) hi h.1 h.2.1 h.2.2.1 h.2.2.2.1 hd
  rw [e.1, e.2.1, e.2.2] at this
  exact this
end CF
