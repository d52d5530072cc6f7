/-! why: pure rows. -/
theorem TA_mono {so xa xb : Nat → Nat} {U V : Nat → Prop} (h : ∀ k, U k → V k) : ∀ a b, x_TA so xa xb U a b → x_TA so xa xb V a b := fun _ _ ⟨k, z1, z2⟩ => ⟨k, h k z1, z2⟩
theorem TR_mono {so xa xb : Nat → Nat} {U V : Nat → Prop} (h : ∀ k, U k → V k) : ∀ a b, x_TR so xa xb U a b → x_TR so xa xb V a b := fun _ _ ⟨k, z1, z2⟩ => ⟨k, h k z1, z2⟩
theorem TC_mono {so xa xb xc : Nat → Nat} {U V : Nat → Prop} (h : ∀ k, U k → V k) : ∀ a b t, x_TC so xa xb xc U a b t → x_TC so xa xb xc V a b t := fun _ _ _ ⟨k, z1, z2⟩ => ⟨k, h k z1, z2⟩
theorem bel_mono {N : Nat} {kd fa fb so xa xb xc : Nat → Nat} {U V : Nat → Prop} {d k : Nat} (h : ∀ k, U k → V k) (hb : b_Bel N kd fa fb so xa xb xc U d k) : b_Bel N kd fa fb so xa xb xc V d k :=
  tm_Bel_mono (Nat.le_refl _) (fun _ _ => ⟨rfl, rfl, rfl⟩) (TA_mono h) (TR_mono h) (TC_mono h) hb
theorem bel_congr {N : Nat} {kd fa fb so xa xb xc : Nat → Nat} {U V : Nat → Prop} {d k : Nat} (h : ∀ k, U k ↔ V k) : b_Bel N kd fa fb so xa xb xc U d k ↔ b_Bel N kd fa fb so xa xb xc V d k :=
  ⟨bel_mono (fun k => (h k).mp), bel_mono (fun k => (h k).mpr)⟩
/-- nothing fresh, d begun, U told -/
def s_good (v : sU) (N : Nat) (kd fa fb so xa xb xc : Nat → Nat) (U : Nat → Prop) (d : Nat) : Prop :=
  s_mid v N kd fa fb N ∧ (∀ y b, ¬ v.1 2 y b = true) ∧ s_told v so xa xb xc U ∧ v.1 0 (d * 7 + 6) d = true
section GD
variable {u v w : sU} {N : Nat} {kd fa fb : Nat → Nat} {T : Nat} {so xa xb xc : Nat → Nat} {U : Nat → Prop} {d k : Nat}
theorem good_of (hm : s_mid v N kd fa fb N) (ht : s_told v so xa xb xc U) (hd : v.1 0 (d * 7 + 6) d = true) (h : s_done v w N kd fa fb) : s_good w N kd fa fb so xa xb xc U d := by
  obtain ⟨a1, a2, a3, a4, a5, a6⟩ := h
  exact ⟨⟨a1, a2, fun y b z => absurd z (a3 y b), sound_done hm.1 hm.2.2.2 a5 a6⟩, a3, told_gro ht a5, a5.1 _ _ hd⟩
theorem good_bel (h : s_good v N kd fa fb so xa xb xc U d) (hr : ∀ k, U k → so k = 3 → xa k < 6 ∧ xb k < 6) (hk : k < N) : s_cv v d k = true ↔ b_Bel N kd fa fb so xa xb xc U d k := by
  obtain ⟨h1, h2, h3, h4⟩ := h
  have e := told_eq h3 hr
  have := covers_iff (e := k) h1.1 h1.2.1 h2 h1.2.2.2 h4 hk
  rw [e.1, e.2.1, e.2.2] at this
  unfold s_cv
  rw [Bool.or_eq_true]
  exact this
theorem good_f (h : s_good v N kd fa fb so xa xb xc U d) (hr : ∀ k, U k → so k = 3 → xa k < 6 ∧ xb k < 6) (hk : k < N) (hf : s_cv v d k = false) : ¬ b_Bel N kd fa fb so xa xb xc U d k := fun z => by
  rw [(good_bel h hr hk).mpr z] at hf
  cases hf
theorem good_cinv (hc : s_cinv u N kd fa fb T so xa xb xc) (h : s_good v N kd fa fb so xa xb xc U d) (hU : ∀ k, U k → x_inf u k) (he : v.2 = (s_forget u).2) : s_cinv v N kd fa fb T so xa xb xc := by
  obtain ⟨h1, h2, h3, h4⟩ := h
  have e0 : v.2.1 = (s_forget u).2.1 := congrArg Prod.fst he
  have e1 : v.2.1 = u.2.1 := e0
  have e2 : ∀ j, v.2.2 j = (s_forget u).2.2 j := fun j => congrFun (congrArg Prod.snd he) j
  have e3 : v.2.2 2 = u.2.2 2 := e2 2
  have e4 : v.2.2 4 = N := (e2 4).trans (tm_N hc.1.1).1
  have ei : x_inf v = x_inf u := inf_of e1 e3
  refine ⟨h1.1, h2, ax_of hc.2.2.1 e1 e3, by omega, by rw [e2]; exact Nat.zero_le _, by rw [e2]; exact Nat.zero_le _, fun _ => ⟨by rw [e4]; exact h1.2.1, fun y b z _ => by rw [e4]; exact (h1.1.2.2.1 y b z).2, h1.2.2.2, U, h3, fun k z => by rw [ei]; exact hU k z, fun k z1 z2 => ?_⟩⟩
  rw [e2] at z1
  have := z2.1
  have e5 : (s_forget u).2.2 5 = 0 := rfl
  omega
/-- the numbers that a row of n numbers holds -/
def x_rs (rs : Nat → Nat) (n : Nat) : Nat → Prop := fun k => ∃ i, i < n ∧ rs i = k
theorem rs_0 {rs : Nat → Nat} (h : s_told v so xa xb xc (fun _ => False)) : s_told v so xa xb xc (x_rs rs 0) := told_congr h (fun k => ⟨fun z => z.elim, fun ⟨i, z, _⟩ => absurd z (Nat.not_lt_zero i)⟩)
theorem rs_s {rs : Nat → Nat} {n : Nat} (h : s_told v so xa xb xc (x_or (x_rs rs n) (rs n))) : s_told v so xa xb xc (x_rs rs (n + 1)) := told_congr h (fun k => by
  constructor
  · rintro (⟨i, z1, z2⟩ | z)
    · exact ⟨i, by omega, z2⟩
    · exact ⟨n, by omega, z.symm⟩
  · rintro ⟨i, z1, z2⟩
    by_cases q : i = n
    · subst q
      exact Or.inr z2.symm
    · exact Or.inl ⟨i, by omega, z2⟩)
theorem good_congr {V : Nat → Prop} (h : s_good v N kd fa fb so xa xb xc U d) (e : ∀ k, U k ↔ V k) : s_good v N kd fa fb so xa xb xc V d := ⟨h.1, h.2.1, told_congr h.2.2.1 e, h.2.2.2⟩
theorem upto_inf {R : Nat → Prop} {q : Nat} (hR : ∀ k, R k → x_inf u k) : ∀ k, x_upto u R 0 q k → x_inf u k := fun k z => z.elim (hR k) (fun z => z.2.2)
theorem upto_1 {R : Nat → Prop} : ∀ k, R k ↔ x_upto u R 0 1 k := fun k => ⟨Or.inl, fun z => z.elim id (fun z => by omega)⟩
theorem upto_n {R : Nat → Prop} {q : Nat} (hq : ¬ x_inf u q) : ∀ k, x_upto u R 0 q k ↔ x_upto u R 0 (q + 1) k := fun k => ⟨fun z => z.imp id (fun z => ⟨z.1, by omega, z.2.2⟩), fun z => z.imp id (fun z => ⟨z.1, by
  by_cases e : k = q
  · subst e
    exact absurd z.2.2 hq
  · omega, z.2.2⟩)⟩
/-- what one search answers -/
def q_rb (u : sU) (N : Nat) (kd fa fb so xa xb xc : Nat → Nat) (R : Nat → Prop) (L d k : Nat) (r : Int32) : Prop :=
  (r = -1 ∧ b_Bel N kd fa fb so xa xb xc R d k) ∨ (∃ q, 1 ≤ q ∧ q < L ∧ x_inf u q ∧ ¬ b_Bel N kd fa fb so xa xb xc (x_upto u R 0 q) d k ∧ b_Bel N kd fa fb so xa xb xc (x_upto u R 0 (q + 1)) d k ∧ r = nI q)
end GD
/-- counting -/
theorem cnt_zero {p : Nat → Bool} : ∀ {n : Nat}, (∀ k, k < n → p k = false) → tm_cnt p n = 0
  | 0, _ => rfl
  | n + 1, h => by rw [cnt_no (h n (by omega))]; exact cnt_zero (fun k z => h k (by omega))
theorem cnt_gap {p : Nat → Bool} {x : Nat} : ∀ {n : Nat}, x ≤ n → (∀ k, x ≤ k → k < n → p k = false) → tm_cnt p n = tm_cnt p x
  | 0, h, _ => by rw [show x = 0 by omega]
  | n + 1, h, hg => by
    by_cases q : x = n + 1
    · rw [q]
    · rw [cnt_no (hg n (by omega) (by omega))]
      exact cnt_gap (by omega) (fun k z1 z2 => hg k z1 (by omega))
theorem used_inf {inf : Nat → Prop} {E : (Nat → Prop) → Prop} {N : Nat} : ∀ {i j : Nat}, tm_used inf E N i j → inf j
  | 0, _, h => h
  | i + 1, _, h => used_inf (i := i) h.1
/-- those kept, for d below k -/
noncomputable def q_K (N : Nat) (kd fa fb so xa xb xc : Nat → Nat) (F : Nat → Prop) (T d k : Nat) (j : Nat) : Bool := dB (tm_K F (fun U => b_Bel N kd fa fb so xa xb xc U d k) T j)
section WY
variable {u v w : sU} {N : Nat} {kd fa fb : Nat → Nat} {T : Nat} {so xa xb xc : Nat → Nat} {d k : Nat}
theorem K_inf {F : Nat → Prop} {j : Nat} (h : q_K N kd fa fb so xa xb xc F T d k j = true) : F j := used_inf (dB_iff.mp h)
theorem K_iff {F : Nat → Prop} (hF : ∀ j, F j → 1 ≤ j ∧ j ≤ T) {j : Nat} : q_K N kd fa fb so xa xb xc F T d k j = true ↔ F j ∧ ¬ b_Bel N kd fa fb so xa xb xc (fun i => (i < j ∧ F i) ∨ (j < i ∧ q_K N kd fa fb so xa xb xc F T d k i = true)) d k := by
  by_cases hj : 1 ≤ j ∧ j ≤ T
  · rw [show (q_K N kd fa fb so xa xb xc F T d k j = true) ↔ _ from dB_iff, tm_K_iff (E := fun U => b_Bel N kd fa fb so xa xb xc U d k) (fun U V h => bel_congr h) (fun j z => (hF j z).2) hj.1 hj.2]
    refine and_congr Iff.rfl (not_congr (bel_congr (fun i => or_congr Iff.rfl (and_congr Iff.rfl dB_iff.symm))))
  · exact ⟨fun z => absurd (hF j (K_inf z)) hj, fun z => absurd (hF j z.1) hj⟩
/-- n reasons were found, from the last one on; what is left lies below L -/
def q_wy (u v : sU) (N : Nat) (kd fa fb so xa xb xc : Nat → Nat) (T d k n L : Nat) (rs : Nat → Nat) : Prop :=
  v.2.2 7 = n ∧ (∀ j, j < n → v.2.1 9 j = nI (rs j) ∧ q_K N kd fa fb so xa xb xc (x_inf u) T d k (rs j) = true ∧ tm_cnt (q_K N kd fa fb so xa xb xc (x_inf u) T d k) (rs j) + j + 1 = tm_cnt (q_K N kd fa fb so xa xb xc (x_inf u) T d k) (T + 1)) ∧
  tm_cnt (q_K N kd fa fb so xa xb xc (x_inf u) T d k) L + n = tm_cnt (q_K N kd fa fb so xa xb xc (x_inf u) T d k) (T + 1)
def q_wyL (u : sU) (N : Nat) (kd fa fb so xa xb xc : Nat → Nat) (T d k n L : Nat) (rs : Nat → Nat) : Prop :=
  1 ≤ L ∧ L ≤ T + 1 ∧ (∀ j, x_rs rs n j ↔ L ≤ j ∧ q_K N kd fa fb so xa xb xc (x_inf u) T d k j = true) ∧ b_Bel N kd fa fb so xa xb xc (x_upto u (x_rs rs n) 0 L) d k
theorem inf_rng (hT : u.2.2 2 = T) : ∀ j, x_inf u j → 1 ≤ j ∧ j ≤ T := fun j z => ⟨z.1, by have := z.2.1; omega⟩
theorem wy_0 {rs : Nat → Nat} (hT : u.2.2 2 = T) (hb : b_Bel N kd fa fb so xa xb xc (x_inf u) d k) : q_wyL u N kd fa fb so xa xb xc T d k 0 (T + 1) rs := by
  refine ⟨by omega, Nat.le_refl _, fun j => ⟨fun ⟨i, z, _⟩ => absurd z (Nat.not_lt_zero i), fun z => ?_⟩, bel_mono (fun j z => Or.inr ⟨z.1, ?_, z⟩) hb⟩
  · have := inf_rng hT j (K_inf z.2)
    omega
  · have := inf_rng hT j z
    omega
/-- a further reason -/
theorem wy_s {n L q : Nat} {rs : Nat → Nat} (hT : u.2.2 2 = T) (h2 : q_wyL u N kd fa fb so xa xb xc T d k n L rs) (h3 : tm_cnt (q_K N kd fa fb so xa xb xc (x_inf u) T d k) L + n = tm_cnt (q_K N kd fa fb so xa xb xc (x_inf u) T d k) (T + 1)) (hq1 : 1 ≤ q) (hq : q < L) (hi : x_inf u q)
    (hn : ¬ b_Bel N kd fa fb so xa xb xc (x_upto u (x_rs rs n) 0 q) d k) (hy : b_Bel N kd fa fb so xa xb xc (x_upto u (x_rs rs n) 0 (q + 1)) d k) :
    q_K N kd fa fb so xa xb xc (x_inf u) T d k q = true ∧ tm_cnt (q_K N kd fa fb so xa xb xc (x_inf u) T d k) q + (n + 1) = tm_cnt (q_K N kd fa fb so xa xb xc (x_inf u) T d k) (T + 1) ∧ q_wyL u N kd fa fb so xa xb xc T d k (n + 1) q (va_up rs n q) := by
  obtain ⟨a1, a2, a3, a4⟩ := h2
  have hF := inf_rng (u := u) hT
  have gap : ∀ j, q + 1 ≤ j → j < L → q_K N kd fa fb so xa xb xc (x_inf u) T d k j = false := fun j z1 z2 => by
    cases e : q_K N kd fa fb so xa xb xc (x_inf u) T d k j with
    | false => rfl
    | true =>
      refine absurd (bel_mono (fun i z => ?_) hy) ((K_iff hF).mp e).2
      rcases z with z | z
      · have := (a3 i).mp z
        exact Or.inr ⟨by omega, this.2⟩
      · exact Or.inl ⟨by omega, z.2.2⟩
  have hK : q_K N kd fa fb so xa xb xc (x_inf u) T d k q = true := (K_iff hF).mpr ⟨hi, fun z => hn (bel_mono (fun i z => by
    rcases z with z | z
    · exact Or.inr ⟨(hF i z.2).1, z.1, z.2⟩
    · refine Or.inl ((a3 i).mpr ⟨?_, z.2⟩)
      rcases Nat.lt_or_ge i L with w | w
      · rw [gap i (by omega) w] at z
        exact absurd z.2 (by decide)
      · exact w) z)⟩
  have e1 : tm_cnt (q_K N kd fa fb so xa xb xc (x_inf u) T d k) L = tm_cnt (q_K N kd fa fb so xa xb xc (x_inf u) T d k) q + 1 := by
    rw [cnt_gap (x := q + 1) (by omega) gap, cnt_yes hK]
  have hrs : ∀ j, x_rs (va_up rs n q) (n + 1) j ↔ x_rs rs n j ∨ j = q := fun j => by
    constructor
    · rintro ⟨i, z1, z2⟩
      by_cases e : i = n
      · subst e
        exact Or.inr (z2.symm.trans (va_up_self _ _ _))
      · rw [va_up_ne _ _ e] at z2
        exact Or.inl ⟨i, by omega, z2⟩
    · rintro (⟨i, z1, z2⟩ | z)
      · exact ⟨i, by omega, by rw [va_up_ne _ _ (by omega)]; exact z2⟩
      · exact ⟨n, by omega, by rw [va_up_self]; exact z.symm⟩
  refine ⟨hK, by omega, hq1, by omega, fun j => ?_, bel_mono (fun i z => ?_) hy⟩
  · rw [hrs, a3]
    constructor
    · rintro (z | z)
      · exact ⟨by omega, z.2⟩
      · subst z
        exact ⟨Nat.le_refl _, hK⟩
    · rintro ⟨z1, z2⟩
      by_cases e : j = q
      · exact Or.inr e
      · refine Or.inl ⟨?_, z2⟩
        rcases Nat.lt_or_ge j L with w | w
        · rw [gap j (by omega) w] at z2
          exact absurd z2 (by decide)
        · exact w
  · rcases z with z | z
    · exact Or.inl ((hrs i).mpr (Or.inl z))
    · by_cases e : i = q
      · exact Or.inl ((hrs i).mpr (Or.inr e))
      · exact Or.inr ⟨z.1, by omega, z.2.2⟩
/-- those found are enough -/
theorem wy_e {n L : Nat} {rs : Nat → Nat} (hT : u.2.2 2 = T) (h2 : q_wyL u N kd fa fb so xa xb xc T d k n L rs) (hb : b_Bel N kd fa fb so xa xb xc (x_rs rs n) d k) : tm_cnt (q_K N kd fa fb so xa xb xc (x_inf u) T d k) L = 0 := by
  obtain ⟨a1, a2, a3, a4⟩ := h2
  refine cnt_zero (fun j z => ?_)
  cases e : q_K N kd fa fb so xa xb xc (x_inf u) T d k j with
  | false => rfl
  | true =>
    refine absurd (bel_mono (fun i w => ?_) hb) ((K_iff (inf_rng hT)).mp e).2
    have := (a3 i).mp w
    exact Or.inr ⟨by omega, this.2⟩
end WY
section WZ
variable {u v w : sU} {N : Nat} {kd fa fb : Nat → Nat} {T : Nat} {so xa xb xc : Nat → Nat} {d k : Nat}
theorem cinv_79 {f : Nat → Int32} {x : Nat} (h : s_cinv u N kd fa fb T so xa xb xc) : s_cinv (u.1, va_up u.2.1 9 f, va_up u.2.2 7 x) N kd fa fb T so xa xb xc := h
theorem cinv_7 {x : Nat} (h : s_cinv u N kd fa fb T so xa xb xc) : s_cinv (u.1, u.2.1, va_up u.2.2 7 x) N kd fa fb T so xa xb xc := h
def s_keep (u v : sU) : Prop := (∀ i, ¬ i = 9 → v.2.1 i = u.2.1 i) ∧ (∀ j, ¬ j = 4 → ¬ j = 5 → ¬ j = 6 → ¬ j = 7 → v.2.2 j = u.2.2 j)
theorem keep_inf (h : s_keep u v) : x_inf v = x_inf u := by
  funext j
  unfold x_inf
  rw [h.1 8 (by decide), h.2 2 (by decide) (by decide) (by decide) (by decide)]
theorem keep_full (h : s_full (u.1, u.2.1, va_up u.2.2 7 0) v N kd fa fb T so xa xb xc) : s_keep u v ∧ v.2.2 7 = 0 := by
  obtain ⟨_, _, _, _, _, h6, h7, _⟩ := h
  refine ⟨⟨fun i _ => congrFun h6 i, fun j a1 a2 a3 a4 => ?_⟩, h7 7 (by decide) (by decide) (by decide)⟩
  rw [h7 j a1 a2 a3]
  exact va_up_ne _ _ a4
theorem keep_forget (h : s_keep u v) (e : w.2 = (s_forget v).2) : s_keep u w ∧ w.2.2 7 = v.2.2 7 ∧ w.2.1 9 = v.2.1 9 := by
  have e0 : w.2.1 = (s_forget v).2.1 := congrArg Prod.fst e
  have e1 : w.2.1 = v.2.1 := e0
  have e2 : ∀ j, w.2.2 j = (s_forget v).2.2 j := fun j => congrFun (congrArg Prod.snd e) j
  refine ⟨⟨fun i z => by rw [e1]; exact h.1 i z, fun j a1 a2 a3 a4 => ?_⟩, e2 7, congrFun e1 9⟩
  rw [e2 j]
  show va_up (va_up (va_up v.2.2 4 _) 5 0) 6 0 j = _
  rw [va_up_ne _ _ a3, va_up_ne _ _ a2, va_up_ne _ _ a1]
  exact h.2 j a1 a2 a3 a4
theorem keep_79 {f : Nat → Int32} {x : Nat} (h : s_keep u v) : s_keep u (v.1, va_up v.2.1 9 f, va_up v.2.2 7 x) :=
  ⟨fun i z => (va_up_ne _ _ z).trans (h.1 i z), fun j a1 a2 a3 a4 => (va_up_ne _ _ a4).trans (h.2 j a1 a2 a3 a4)⟩
/-- all found -/
def q_wf (u v : sU) (N : Nat) (kd fa fb so xa xb xc : Nat → Nat) (T d k : Nat) : Prop :=
  v.2.2 7 = tm_cnt (q_K N kd fa fb so xa xb xc (x_inf u) T d k) (T + 1) ∧ ∀ j, j < tm_cnt (q_K N kd fa fb so xa xb xc (x_inf u) T d k) (T + 1) → ∃ q, v.2.1 9 j = nI q ∧ q_K N kd fa fb so xa xb xc (x_inf u) T d k q = true ∧ tm_cnt (q_K N kd fa fb so xa xb xc (x_inf u) T d k) q + j + 1 = tm_cnt (q_K N kd fa fb so xa xb xc (x_inf u) T d k) (T + 1)
/-- at the head of why's loop -/
def q_wh (u v : sU) (N : Nat) (kd fa fb so xa xb xc : Nat → Nat) (T d k n : Nat) (x : Int32) : Prop :=
  (∃ L rs, x = nI L ∧ q_wy u v N kd fa fb so xa xb xc T d k n L rs ∧ q_wyL u N kd fa fb so xa xb xc T d k n L rs) ∨ (x = -1 ∧ q_wf u v N kd fa fb so xa xb xc T d k)
theorem wf_of {n L : Nat} {rs : Nat → Nat} (h : q_wy u v N kd fa fb so xa xb xc T d k n L rs) (h0 : tm_cnt (q_K N kd fa fb so xa xb xc (x_inf u) T d k) L = 0) : q_wf u v N kd fa fb so xa xb xc T d k := by
  obtain ⟨a1, a2, a3⟩ := h
  refine ⟨by omega, fun j hj => ?_⟩
  have := a2 j (by omega)
  exact ⟨rs j, this⟩
theorem K_cnt_le (hT : u.2.2 2 = T) : tm_cnt (q_K N kd fa fb so xa xb xc (x_inf u) T d k) (T + 1) ≤ T := by
  have h0 : q_K N kd fa fb so xa xb xc (x_inf u) T d k 0 = false := by
    cases e : q_K N kd fa fb so xa xb xc (x_inf u) T d k 0 with
    | false => rfl
    | true => have := inf_rng hT 0 (K_inf e); omega
  have key : ∀ n, tm_cnt (q_K N kd fa fb so xa xb xc (x_inf u) T d k) (n + 1) ≤ n := by
    intro n
    induction n with
    | zero => rw [cnt_no h0]; exact Nat.le_refl _
    | succ n ih =>
      have h1 : tm_cnt (q_K N kd fa fb so xa xb xc (x_inf u) T d k) (n + 1 + 1) ≤ tm_cnt (q_K N kd fa fb so xa xb xc (x_inf u) T d k) (n + 1) + 1 := by
        show tm_cnt (q_K N kd fa fb so xa xb xc (x_inf u) T d k) (n + 1) + (if _ then 1 else 0) ≤ _
        split <;> omega
      omega
  exact key T
theorem wh_fin1 {n : Nat} {x : Int32} (hT : u.2.2 2 = T) (hT2 : T ≤ 100) (h : q_wh u v N kd fa fb so xa xb xc T d k n x) (hn : 100 ≤ n) : q_wf u v N kd fa fb so xa xb xc T d k := by
  rcases h with ⟨L, rs, _, h1, _⟩ | h
  · have := K_cnt_le (N := N) (kd := kd) (fa := fa) (fb := fb) (so := so) (xa := xa) (xb := xb) (xc := xc) (d := d) (k := k) hT
    have := h1.2.2
    exact wf_of h1 (by omega)
  · exact h.2
theorem wh_fin2 {n : Nat} {x : Int32} (hT2 : T ≤ 100) (h : q_wh u v N kd fa fb so xa xb xc T d k n x) (hx : x = -1) : q_wf u v N kd fa fb so xa xb xc T d k := by
  rcases h with ⟨L, rs, e, _, h2⟩ | h
  · have := h2.2.1
    exact absurd (e.symm.trans hx) (tm_m1 (by omega))
  · exact h.2
theorem wh_L {n : Nat} {x : Int32} (h : q_wh u v N kd fa fb so xa xb xc T d k n x) (hx : ¬ x = -1) : ∃ L rs, x = nI L ∧ q_wy u v N kd fa fb so xa xb xc T d k n L rs ∧ q_wyL u N kd fa fb so xa xb xc T d k n L rs := by
  rcases h with h | h
  · exact h
  · exact absurd h.1 hx
theorem wh_pre {n L : Nat} {rs : Nat → Nat} (hk : s_keep u v) (h1 : q_wy u v N kd fa fb so xa xb xc T d k n L rs) (h2 : q_wyL u N kd fa fb so xa xb xc T d k n L rs) : (∀ i, i < v.2.2 7 → v.2.1 9 i = nI (rs i) ∧ x_inf v (rs i)) ∧ b_Bel N kd fa fb so xa xb xc (x_upto v (x_rs rs (v.2.2 7)) 0 L) d k := by
  unfold x_upto
  rw [keep_inf hk, h1.1]
  exact ⟨fun i z => ⟨(h1.2.1 i z).1, K_inf (h1.2.1 i z).2.1⟩, h2.2.2.2⟩
theorem wh_stop {n L : Nat} {rs : Nat → Nat} {r : Int32} (hT : u.2.2 2 = T) (hT2 : T ≤ 100) (hk : s_keep u v) (h1 : q_wy u v N kd fa fb so xa xb xc T d k n L rs) (h2 : q_wyL u N kd fa fb so xa xb xc T d k n L rs) (hr : q_rb v N kd fa fb so xa xb xc (x_rs rs (v.2.2 7)) L d k r) (e7 : w.2.2 7 = v.2.2 7) (e9 : w.2.1 9 = v.2.1 9) (hx : r = -1) : q_wh u w N kd fa fb so xa xb xc T d k (n + 1) r := by
  rcases hr with ⟨_, hb⟩ | ⟨q, b1, b2, b3, _, _, b6⟩
  · rw [h1.1] at hb
    refine Or.inr ⟨hx, wf_of (L := L) (rs := rs) (n := n) ⟨e7.trans h1.1, fun j z => ?_, h1.2.2⟩ (wy_e hT h2 hb)⟩
    rw [e9]
    exact h1.2.1 j z
  · have := h2.2.1
    exact absurd (b6.symm.trans hx) (tm_m1 (by omega))
theorem wh_q {L : Nat} {R : Nat → Prop} {r : Int32} (hr : q_rb v N kd fa fb so xa xb xc R L d k r) (hx : ¬ r = -1) : ∃ q, 1 ≤ q ∧ q < L ∧ x_inf v q ∧ ¬ b_Bel N kd fa fb so xa xb xc (x_upto v R 0 q) d k ∧ b_Bel N kd fa fb so xa xb xc (x_upto v R 0 (q + 1)) d k ∧ r = nI q := by
  rcases hr with ⟨z, _⟩ | h
  · exact absurd z hx
  · exact h
theorem wh_next {n L q : Nat} {rs : Nat → Nat} (hT : u.2.2 2 = T) (hk : s_keep u v) (h1 : q_wy u v N kd fa fb so xa xb xc T d k n L rs) (h2 : q_wyL u N kd fa fb so xa xb xc T d k n L rs) (e7 : w.2.2 7 = v.2.2 7) (e9 : w.2.1 9 = v.2.1 9) (hq1 : 1 ≤ q) (hq : q < L) (hi : x_inf v q)
    (hn : ¬ b_Bel N kd fa fb so xa xb xc (x_upto v (x_rs rs (v.2.2 7)) 0 q) d k) (hy : b_Bel N kd fa fb so xa xb xc (x_upto v (x_rs rs (v.2.2 7)) 0 (q + 1)) d k) :
    q_wh u (w.1, va_up w.2.1 9 (upd (w.2.1 9) (w.2.2 7) (nI q)), va_up w.2.2 7 (w.2.2 7 + 1)) N kd fa fb so xa xb xc T d k (n + 1) (nI q) := by
  unfold x_upto at hn hy
  rw [keep_inf hk, h1.1] at hn hy
  rw [keep_inf hk] at hi
  obtain ⟨k1, k2, k3⟩ := wy_s hT h2 h1.2.2 hq1 hq hi hn hy
  have en : w.2.2 7 = n := e7.trans h1.1
  refine Or.inl ⟨q, va_up rs n q, rfl, ⟨?_, fun j hj => ?_, k2⟩, k3⟩
  · show w.2.2 7 + 1 = n + 1
    omega
  · show upd (w.2.1 9) (w.2.2 7) (nI q) j = _ ∧ _
    rw [en, e9]
    by_cases z : j = n
    · subst z
      rw [va_up_self]
      refine ⟨?_, k1, by omega⟩
      simp [upd]
    · rw [va_up_ne _ _ z]
      refine ⟨?_, (h1.2.1 j (by omega)).2⟩
      rw [show upd (v.2.1 9) n (nI q) j = v.2.1 9 j by simp [upd, z]]
      exact (h1.2.1 j (by omega)).1
end WZ
