/-! The class's answers and the model's, by what follows. -/
section CV
variable {u v w : sU} {N : Nat} {kd fa fb : Nat → Nat} {T : Nat} {so xa xb xc : Nat → Nat} {F : Nat → Prop} {M : Nat} {rs : Nat → Nat} {d d2 k : Nat}
theorem inv_F (h : s_inv u N kd fa fb T so xa xb xc F M rs) : x_inf u = F := funext (fun j => propext (h.2.2.2.2.1 j))
theorem inv_N (h : s_inv u N kd fa fb T so xa xb xc F M rs) : u.2.2 0 = N ∧ 2 ≤ N ∧ N ≤ 160 ∧ u.2.2 2 = T ∧ T ≤ 100 ∧ (∀ k, F k → 1 ≤ k ∧ k ≤ T) ∧ u.2.2 1 ≤ 160 ∧ u.2.2 3 ≤ 100 := by
  have hN := tm_N h.1.1.1
  have hT := h.1.2.2.1
  have e := inv_F h
  have hF : ∀ k, F k → 1 ≤ k ∧ k ≤ T := fun k z => by
    rw [← e] at z
    have := z.1
    have := z.2.1
    have := hT.1
    omega
  refine ⟨hN.1, hN.2.1, hN.2.2, hT.1, hT.2.1, hF, ?_, ?_⟩
  · rw [h.2.2.1]
    have := tm_cnt_le (fun k => decide (kd k = 1)) N
    omega
  · rw [h.2.2.2.1]
    have := cnt_le1 (p := fun k => dB (F k)) (dB_f.mpr (fun z => by have := hF 0 z; omega)) T
    have := hT.2.1
    omega
theorem cv_B (h : s_inv u N kd fa fb T so xa xb xc F M rs) (hf : s_full u v N kd fa fb T so xa xb xc) (hd : v.1 0 (d * 7 + 6) d = true) (hk : k < N) : s_cv v d k = z_B N kd fa fb so xa xb xc F d k := by
  have := full_bel h.1 hf hd hk
  rw [inv_F h] at this
  exact dB_eq this
theorem nm_B (hf : s_full u v N kd fa fb T so xa xb xc) (hk : k < N) : s_nm v k = decide (kd k = 1) := by
  unfold s_nm
  exact decide_eq_decide.mpr (tm_k hf.1.1 hk (by decide))
theorem na_B (h : s_inv u N kd fa fb T so xa xb xc F M rs) (hf : s_full u v N kd fa fb T so xa xb xc) (hd : v.1 0 (d * 7 + 6) d = true) (hk : k < N) : s_na v d k = z_na kd (z_B N kd fa fb so xa xb xc F) d k := by
  unfold s_na z_na
  rw [nm_B hf hk, cv_B h hf hd hk]
theorem nb_B (h : s_inv u N kd fa fb T so xa xb xc F M rs) (hf : s_full u v N kd fa fb T so xa xb xc) (hd : v.1 0 (d * 7 + 6) d = true) (hd2 : v.1 0 (d2 * 7 + 6) d2 = true) (hk : k < N) : s_nb v d d2 k = z_cm kd (z_B N kd fa fb so xa xb xc F) d d2 k := by
  unfold s_nb z_cm
  rw [na_B h hf hd hk, cv_B h hf hd2 hk]
  rfl
theorem sb_B (h : s_inv u N kd fa fb T so xa xb xc F M rs) (hf : s_full u v N kd fa fb T so xa xb xc) (hdN : d < N) (hd : v.1 0 (d * 7 + 6) d = true) (hk : k < N) (hb : z_B N kd fa fb so xa xb xc F d k = true → v.1 0 (k * 7 + 6) k = true) : s_sb v d k = z_st (z_B N kd fa fb so xa xb xc F) d k := by
  unfold s_sb z_st
  rw [cv_B h hf hd hk]
  cases q : z_B N kd fa fb so xa xb xc F d k with
  | false => rfl
  | true => rw [cv_B h hf (hb q) hdN]
theorem ab_B (h : s_inv u N kd fa fb T so xa xb xc F M rs) (ha : ∀ b, b < N → b_Bel N kd fa fb so xa xb xc (x_inf u) d b → v.1 0 (b * 7 + 6) b = true) : ∀ b, b < N → z_B N kd fa fb so xa xb xc F d b = true → v.1 0 (b * 7 + 6) b = true := by
  rw [inv_F h] at ha
  exact fun b hb z => ha b hb (dB_iff.mp z)
theorem dir_B (h : s_inv u N kd fa fb T so xa xb xc F M rs) (hf : s_full u v N kd fa fb T so xa xb xc) (hdN : d < N) (hd2N : d2 < N) (hd : v.1 0 (d * 7 + 6) d = true) (ha : ∀ b, b < N → b_Bel N kd fa fb so xa xb xc (x_inf u) d b → v.1 0 (b * 7 + 6) b = true) : s_dir v d d2 = z_dir N (z_B N kd fa fb so xa xb xc F) d d2 := by
  have ab := ab_B h ha
  unfold s_dir z_dir
  have e1 := sb_B h hf hdN hd hd2N (ab d2 hd2N)
  rw [e1]
  cases q : z_st (z_B N kd fa fb so xa xb xc F) d d2 with
  | false => rfl
  | true =>
    have q1 : z_B N kd fa fb so xa xb xc F d d2 = true := by
      unfold z_st at q
      rw [Bool.and_eq_true] at q
      exact q.1
    have hd2 := ab d2 hd2N q1
    have eN : v.2.2 0 = N := (tm_N hf.1.1).1
    rw [eN]
    congr 1
    refine dB_congr (forall_congr' (fun b => forall_congr' (fun hb => not_congr ?_)))
    rw [sb_B h hf hdN hd hb (ab b hb)]
    refine and_congr_right (fun z => ?_)
    have z1 : z_B N kd fa fb so xa xb xc F d b = true := by
      unfold z_st at z
      rw [Bool.and_eq_true] at z
      exact z.1
    rw [sb_B h hf hb (ab b hb z1) hd2N (fun _ => hd2)]
theorem qle_congr {f g : Nat → Bool} {d : Nat} (h : ∀ b, b < d → f b = g b) : ∀ n, n ≤ d → q_le f d n = q_le g d n
  | 0, _ => rfl
  | n + 1, hn => by
    show (if f (d - (n + 1)) then d - (n + 1) else q_le f d n) = (if g (d - (n + 1)) then d - (n + 1) else q_le g d n)
    rw [h (d - (n + 1)) (by omega), qle_congr h n (by omega)]
theorem le_B (h : s_inv u N kd fa fb T so xa xb xc F M rs) (hf : s_full u v N kd fa fb T so xa xb xc) (hdN : d < N) (hd : v.1 0 (d * 7 + 6) d = true) (ab : ∀ b, b < N → z_B N kd fa fb so xa xb xc F d b = true → v.1 0 (b * 7 + 6) b = true) : s_le v d = z_le (z_B N kd fa fb so xa xb xc F) d := by
  unfold s_le z_le
  refine qle_congr (fun b hb => ?_) d (Nat.le_refl _)
  show (s_cv v d b && s_cv v b d) = (_ && _)
  rw [cv_B h hf hd (show b < N by omega)]
  cases q : z_B N kd fa fb so xa xb xc F d b with
  | false => rfl
  | true => rw [cv_B h hf (ab b (by omega) q) hdN]
theorem cm_1 {B : Nat → Nat → Bool} (h : z_cm kd B d d2 k = true) : B d k = true := by
  unfold z_cm at h
  rw [Bool.and_eq_true, Bool.and_eq_true] at h
  exact h.1.2
theorem co_B (h : s_inv u N kd fa fb T so xa xb xc F M rs) (hf : s_full u v N kd fa fb T so xa xb xc) (hd : v.1 0 (d * 7 + 6) d = true) (hd2 : v.1 0 (d2 * 7 + 6) d2 = true) (ab : ∀ b, b < N → z_B N kd fa fb so xa xb xc F d b = true → v.1 0 (b * 7 + 6) b = true) (hk : k < N) : (s_nb v d d2 k && s_lo v d d2 k) = z_co N kd (z_B N kd fa fb so xa xb xc F) d d2 k := by
  unfold z_co
  rw [nb_B h hf hd hd2 hk]
  cases q : z_cm kd (z_B N kd fa fb so xa xb xc F) d d2 k with
  | false => rfl
  | true =>
    have hbk := ab k hk (cm_1 q)
    have eN : v.2.2 0 = N := (tm_N hf.1.1).1
    unfold s_lo
    rw [eN]
    congr 1
    refine dB_congr (forall_congr' (fun b => forall_congr' (fun hb => ?_)))
    rw [nb_B h hf hd hd2 hb]
    refine imp_congr_right (fun z => ?_)
    rw [cv_B h hf (ab b hb (cm_1 z)) hk, cv_B h hf hbk hb]
theorem has_B {x i y : Nat} {b : Bool} (h : s_inv u N kd fa fb T so xa xb xc F M rs) (hf : s_full u v N kd fa fb T so xa xb xc) (hx : v.1 0 (x * 7 + 6) x = true) (hi : i < 6) (hb : b = true ↔ v.1 0 (x * 7 + 6) 1 = true ∨ ∃ d, d < 160 ∧ v.1 0 (x * 7 + i) d = true ∧ v.1 0 (d * 7 + 6) y = true) : b = z_has N kd fa fb so xa xb xc F x i y := by
  have := full_lnk (y := y) hi h.1 hf hx
  rw [inv_F h] at this
  exact dB_eq (hb.trans this)
/-- the model -/
theorem mB (h : m_inv u N kd fa fb T so xa xb xc F M rs) (hc : u.2.2 3 = 1) : u.1 0 = z_B N kd fa fb so xa xb xc F := by
  obtain ⟨q1, q2, q3⟩ := h.2.2.2.2.2.1 hc
  funext x y
  exact dB_eq (clo_bel h.1 h.2.1.1 q2 q3)
theorem mNm (h : m_inv u N kd fa fb T so xa xb xc F M rs) (hk : k < N) : m_nm u k = decide (kd k = 1) := by
  unfold m_nm
  exact decide_eq_decide.mpr (mt_k (j := 1) h.1 hk (by decide) (by decide))
theorem mNa (h : m_inv u N kd fa fb T so xa xb xc F M rs) (hc : u.2.2 3 = 1) (hk : k < N) : m_na u d k = z_na kd (z_B N kd fa fb so xa xb xc F) d k := by
  unfold m_na z_na
  rw [mNm h hk, mB h hc]
theorem mCm (h : m_inv u N kd fa fb T so xa xb xc F M rs) (hc : u.2.2 3 = 1) (hk : k < N) : m_cm u d d2 k = z_cm kd (z_B N kd fa fb so xa xb xc F) d d2 k := by
  unfold m_cm z_cm
  rw [mNm h hk, mB h hc]
theorem mDir (h : m_inv u N kd fa fb T so xa xb xc F M rs) (hc : u.2.2 3 = 1) : m_dir u N d d2 = z_dir N (z_B N kd fa fb so xa xb xc F) d d2 := by
  unfold m_dir z_dir m_st z_st
  rw [mB h hc]
theorem mLe (h : m_inv u N kd fa fb T so xa xb xc F M rs) (hc : u.2.2 3 = 1) : m_le u d = z_le (z_B N kd fa fb so xa xb xc F) d := by
  unfold m_le z_le
  rw [mB h hc]
theorem mCo (h : m_inv u N kd fa fb T so xa xb xc F M rs) (hc : u.2.2 3 = 1) (hk : k < N) : m_co u N d d2 k = z_co N kd (z_B N kd fa fb so xa xb xc F) d d2 k := by
  unfold m_co z_co
  rw [mCm h hc hk]
  congr 1
  refine dB_congr (forall_congr' (fun b => forall_congr' (fun hb => ?_)))
  rw [mCm h hc hb]
  refine imp_congr_right (fun _ => ?_)
  unfold m_lw m_st
  rw [mB h hc]
  generalize z_B N kd fa fb so xa xb xc F b k = p1
  generalize z_B N kd fa fb so xa xb xc F k b = p2
  cases p1 <;> cases p2 <;> simp
theorem mHas {x i y : Nat} (h : m_inv u N kd fa fb T so xa xb xc F M rs) (hc : u.2.2 3 = 1) (hx : x < N) : (u.1 0 x 1 || m_mt u (160 * i + x) y) = z_has N kd fa fb so xa xb xc F x i y := by
  obtain ⟨q1, q2, q3⟩ := h.2.2.2.2.2.1 hc
  have hN := mt_N h.1
  refine dB_eq ?_
  rw [Bool.or_eq_true, mt_iff q2 hN.2.2.1]
  refine or_congr (clo_bel h.1 h.2.1.1 q2 q3) (exists_congr (fun b => and_congr (clo_lnk (by omega) h.1 h.2.1.1 q2 q3) (clo_bel h.1 h.2.1.1 q2 q3)))
end CV
