/-! The model between calls: what each change does to what its tables say. -/
section MI
variable {u v w : sU} {N : Nat} {kd fa fb : Nat → Nat} {T : Nat} {so xa xb xc : Nat → Nat} {F : Nat → Prop} {M : Nat} {rs : Nat → Nat}
theorem minv_thr {t : Nat} (h : m_inv u N kd fa fb T so xa xb xc F M rs) : m_inv (m_thr u t) N kd fa fb T so xa xb xc F M rs := h
theorem minv_new {g x y : Nat} (h : m_inv u N kd fa fb T so xa xb xc F M rs) (hN : N < 160) (hg : 1 ≤ g) (hg3 : g ≤ 3) (h2 : g = 2 → x < N ∧ y < N) (h3 : g = 3 → x < 6 ∧ y < N) {fa' fb' : Nat → Nat} (ha : ∀ k, k < N → fa' k = fa k ∧ fb' k = fb k) (hb : 2 ≤ g → fa' N = x ∧ fb' N = y) :
    m_inv (m_new u (g + 1) x y) (N + 1) (va_up kd N g) fa' fb' T so xa xb xc F M rs := by
  obtain ⟨⟨t1, t2, t3, t4, t5, t6, t7, t8, t9, t10, t11⟩, h2', h3', h4', h5', h6', h7', h8', h9'⟩ := h
  have e0 : va_up kd N g N = g := va_up_self _ _ _
  have lt : ∀ k, k < N + 1 → ¬ k = N → k < N := fun k a b => by omega
  refine ⟨⟨?_, by omega, by omega, t4, t5, ?_, ?_, fun k hk => ?_, fun k hk q => ?_, fun k hk q => ?_, fun k k1 k2 => ?_⟩, h2', h3', Nat.zero_le _, h5', fun z => absurd (show (0 : Nat) = 1 from z) (by decide), h7', h8', h9'⟩
  · show u.2.2 1 + 1 = N + 1
    omega
  · rw [up_old (by omega)]; exact t6
  · rw [up_old (by omega)]; exact t7
  · show upd (u.2.1 0) (u.2.2 1) (nI (g + 1)) k = _ ∧ _
    rw [t1]
    by_cases z : k = N
    · rw [z, upd_self]
      unfold m_kd
      rw [if_neg (by omega), e0]
      exact ⟨rfl, hg3, fun _ => hg⟩
    · rw [upd_ne z]
      unfold m_kd
      rw [up_old (lt k hk z)]
      exact t8 k (lt k hk z)
  · show upd (u.2.1 1) (u.2.2 1) (nI x) k = _ ∧ upd (u.2.1 2) (u.2.2 1) (nI y) k = _ ∧ _
    rw [t1]
    by_cases z : k = N
    · rw [z, e0] at q
      rw [z, upd_self, upd_self, (hb (by omega)).1, (hb (by omega)).2]
      have := h2 q
      exact ⟨rfl, rfl, by omega, by omega⟩
    · obtain ⟨a1, a2⟩ := ha k (lt k hk z)
      rw [up_old (lt k hk z)] at q
      rw [upd_ne z, upd_ne z, a1, a2]
      have := t9 k (lt k hk z) q
      exact ⟨this.1, this.2.1, by omega, by omega⟩
  · show upd (u.2.1 1) (u.2.2 1) (nI x) k = _ ∧ upd (u.2.1 2) (u.2.2 1) (nI y) k = _ ∧ _
    rw [t1]
    by_cases z : k = N
    · rw [z, e0] at q
      rw [z, upd_self, upd_self, (hb (by omega)).1, (hb (by omega)).2]
      have := h3 q
      exact ⟨rfl, rfl, by omega, by omega⟩
    · obtain ⟨a1, a2⟩ := ha k (lt k hk z)
      rw [up_old (lt k hk z)] at q
      rw [upd_ne z, upd_ne z, a1, a2]
      have := t10 k (lt k hk z) q
      exact ⟨this.1, this.2.1, by omega, by omega⟩
  · obtain ⟨d1, d2, d3, d4, d5, d6, d7⟩ := t11 k k1 k2
    exact ⟨d1, d2, d3, d4, fun z => by have := d5 z; omega, d6, d7⟩
theorem minv_tell {g x y z : Nat} {z' : Int32} (h : m_inv u N kd fa fb T so xa xb xc F M rs) (hT : T < 100) (hg : g ≤ 3) (h01 : g ≤ 1 → x < N ∧ y < N) (h23 : 2 ≤ g → x < 6 ∧ y < 6) (h3z : g = 3 → z' = nI z ∧ z < 6) :
    m_inv (m_tell u (nI g) (nI x) (nI y) z') N kd fa fb (T + 1) (va_up so (T + 1) g) (va_up xa (T + 1) x) (va_up xb (T + 1) y) (va_up xc (T + 1) z) (fun k => F k ∨ k = T + 1) M rs := by
  obtain ⟨⟨t1, t2, t3, t4, t5, t6, t7, t8, t9, t10, t11⟩, h2', h3', h4', h5', h6', h7', h8', h9'⟩ := h
  refine ⟨⟨t1, t2, t3, ?_, by omega, t6, t7, t8, t9, t10, fun k k1 k2 => ?_⟩, ⟨fun k q => ?_, fun k k1 k2 => ?_⟩, h3', Nat.zero_le _, h5', fun z => absurd (show (0 : Nat) = 1 from z) (by decide), h7', h8', h9'⟩
  · show u.2.2 2 + 1 = T + 1
    omega
  · show upd (u.2.1 3) (u.2.2 2 + 1) (nI g) k = _ ∧ _ ∧ upd (u.2.1 4) (u.2.2 2 + 1) (nI x) k = _ ∧ upd (u.2.1 5) (u.2.2 2 + 1) (nI y) k = _ ∧ _ ∧ _ ∧ (_ → upd (u.2.1 6) (u.2.2 2 + 1) z' k = _ ∧ _)
    rw [t4]
    by_cases q : k = T + 1
    · rw [q, upd_self, upd_self, upd_self, upd_self, va_up_self, va_up_self, va_up_self, va_up_self]
      exact ⟨rfl, hg, rfl, rfl, h01, h23, h3z⟩
    · rw [upd_ne q, upd_ne q, upd_ne q, upd_ne q, va_up_ne _ _ q, va_up_ne _ _ q, va_up_ne _ _ q, va_up_ne _ _ q]
      exact t11 k k1 (by omega)
  · rcases q with q | q
    · have := h2'.1 k q
      omega
    · omega
  · show upd (u.2.1 7) (u.2.2 2 + 1) (nI 1) k = _
    rw [t4]
    by_cases q : k = T + 1
    · rw [q, upd_self, dB_iff.mpr (Or.inr rfl)]
      rfl
    · rw [upd_ne q, h2'.2 k k1 (by omega)]
      exact congrArg bI (dB_congr ⟨Or.inl, fun z => z.elim id (fun z => absurd z q)⟩)
theorem minv_back {k : Nat} (h : m_inv u N kd fa fb T so xa xb xc F M rs) (hk : F k) : m_inv (m_back u k) N kd fa fb T so xa xb xc (fun j => F j ∧ ¬ j = k) M rs := by
  obtain ⟨h1, h2', h3', h4', h5', h6', h7', h8', h9'⟩ := h
  refine ⟨h1, ⟨fun j q => h2'.1 j q.1, fun j k1 k2 => ?_⟩, h3', Nat.zero_le _, h5', fun z => absurd (show (0 : Nat) = 1 from z) (by decide), h7', h8', h9'⟩
  show upd (u.2.1 7) k (nI 0) j = _
  by_cases q : j = k
  · rw [q, upd_self, dB_f.mpr (fun z => z.2 rfl)]
    rfl
  · rw [upd_ne q, h2'.2 j k1 k2]
    exact congrArg bI (dB_congr ⟨fun z => ⟨z, q⟩, fun z => z.1⟩)
end MI
/-! What is answered, by the descriptions, the axioms in force and the reasons. -/
noncomputable def z_B (N : Nat) (kd fa fb so xa xb xc : Nat → Nat) (F : Nat → Prop) (d k : Nat) : Bool := dB (b_Bel N kd fa fb so xa xb xc F d k)
def z_na (kd : Nat → Nat) (B : Nat → Nat → Bool) (d k : Nat) : Bool := decide (kd k = 1) && B d k
def z_st (B : Nat → Nat → Bool) (d k : Nat) : Bool := B d k && !B k d
noncomputable def z_dir (N : Nat) (B : Nat → Nat → Bool) (d d2 : Nat) : Bool := z_st B d d2 && dB (∀ b, b < N → ¬ (z_st B d b = true ∧ z_st B b d2 = true))
def z_le (B : Nat → Nat → Bool) (d : Nat) : Nat := q_le (fun b => B d b && B b d) d d
def z_cm (kd : Nat → Nat) (B : Nat → Nat → Bool) (d d2 k : Nat) : Bool := decide (kd k = 1) && B d k && B d2 k
noncomputable def z_co (N : Nat) (kd : Nat → Nat) (B : Nat → Nat → Bool) (d d2 k : Nat) : Bool := z_cm kd B d d2 k && dB (∀ b, b < N → z_cm kd B d d2 b = true → B b k = true → ¬ b < k ∧ B k b = true)
noncomputable def z_has (N : Nat) (kd fa fb so xa xb xc : Nat → Nat) (F : Nat → Prop) (x i y : Nat) : Bool := dB (b_Bel N kd fa fb so xa xb xc F x 1 ∨ ∃ d, b_Lnk N kd fa fb so xa xb xc F i x d ∧ b_Bel N kd fa fb so xa xb xc F d y)
def z_pr (N : Nat) (B : Nat → Nat → Bool) : Nat := tm_sum (fun n => tm_cnt (fun e => !(n == e) && B n e) N) N
def z_em (N : Nat) (B : Nat → Nat → Bool) : Nat := tm_cnt (fun k => B k 1) N
def z_cl (N : Nat) (B : Nat → Nat → Bool) : Nat := tm_cnt (fun k => z_le B k == k) N
def z_mk (N : Nat) (kd fa fb : Nat → Nat) (g x y : Nat) (r : Int32) (N' : Nat) (kd' fa' fb' : Nat → Nat) : Prop :=
  (∃ k, k < N ∧ kd k = g ∧ fa k = x ∧ fb k = y ∧ r = nI k ∧ N' = N ∧ kd' = kd ∧ fa' = fa ∧ fb' = fb) ∨
  ((∀ k, k < N → kd k = g → ¬ (fa k = x ∧ fb k = y)) ∧ ((N < 160 ∧ r = nI N ∧ N' = N + 1 ∧ kd' = va_up kd N g ∧ fa' = va_up fa N x ∧ fb' = va_up fb N y) ∨ (¬ N < 160 ∧ r = -1 ∧ N' = N ∧ kd' = kd ∧ fa' = fa ∧ fb' = fb)))
def z_nm (N : Nat) (kd : Nat → Nat) (r : Int32) (N' : Nat) (kd' : Nat → Nat) : Prop := (N < 160 ∧ r = nI N ∧ N' = N + 1 ∧ kd' = va_up kd N 1) ∨ (¬ N < 160 ∧ r = -1 ∧ N' = N ∧ kd' = kd)
def z_tl (T : Nat) (so xa xb xc : Nat → Nat) (F : Nat → Prop) (g x y z : Nat) (r : Int32) (T' : Nat) (so' xa' xb' xc' : Nat → Nat) (F' : Nat → Prop) : Prop :=
  (T < 100 ∧ r = nI (T + 1) ∧ T' = T + 1 ∧ so' = va_up so (T + 1) g ∧ xa' = va_up xa (T + 1) x ∧ xb' = va_up xb (T + 1) y ∧ xc' = va_up xc (T + 1) z ∧ F' = (fun k => F k ∨ k = T + 1)) ∨ (¬ T < 100 ∧ r = -1 ∧ T' = T ∧ so' = so ∧ xa' = xa ∧ xb' = xb ∧ xc' = xc ∧ F' = F)
def z_rt (F : Nat → Prop) (x r : Int32) (F' : Nat → Prop) : Prop := ((∀ k, x = nI k → ¬ F k) ∧ r = bI false ∧ F' = F) ∨ (∃ k, x = nI k ∧ F k ∧ r = bI true ∧ F' = fun j => F j ∧ ¬ j = k)
def z_rs (M : Nat) (rs : Nat → Nat) (x r : Int32) : Prop := (∃ k, k < M ∧ x = nI k ∧ r = nI (rs k)) ∨ (r = -1 ∧ ∀ k, k < M → ¬ x = nI k)
def z_wy (N : Nat) (kd fa fb so xa xb xc : Nat → Nat) (F : Nat → Prop) (T d d2 : Nat) (r : Int32) (M' : Nat) (rs' : Nat → Nat) : Prop :=
  (¬ b_Bel N kd fa fb so xa xb xc F d d2 ∧ r = -1 ∧ M' = 0) ∨ (b_Bel N kd fa fb so xa xb xc F d d2 ∧ r = nI M' ∧ M' = tm_cnt (q_K N kd fa fb so xa xb xc F T d d2) (T + 1) ∧ m_rsn (q_K N kd fa fb so xa xb xc F T d d2) M' rs')
theorem mk_uniq {N : Nat} {kd fa fb : Nat → Nat} {g x y : Nat} {r r2 : Int32} {N1 N2 : Nat} {kd1 fa1 fb1 kd2 fa2 fb2 : Nat → Nat} (hu : ∀ k j, k < N → j < N → kd k = kd j → 2 ≤ kd k → fa k = fa j → fb k = fb j → k = j) (hg : 2 ≤ g) (h : z_mk N kd fa fb g x y r N1 kd1 fa1 fb1) (h2 : z_mk N kd fa fb g x y r2 N2 kd2 fa2 fb2) : r = r2 ∧ N1 = N2 ∧ kd1 = kd2 ∧ fa1 = fa2 ∧ fb1 = fb2 := by
  rcases h with ⟨k, a1, a2, a3, a4, a5, a6, a7, a8, a9⟩ | ⟨a0, a⟩
  · rcases h2 with ⟨j, b1, b2, b3, b4, b5, b6, b7, b8, b9⟩ | ⟨b0, _⟩
    · have e := hu k j a1 b1 (by rw [a2, b2]) (by omega) (by rw [a3, b3]) (by rw [a4, b4])
      rw [a5, b5, e, a6, b6, a7, b7, a8, b8, a9, b9]
      exact ⟨rfl, rfl, rfl, rfl, rfl⟩
    · exact absurd ⟨a3, a4⟩ (b0 k a1 a2)
  · rcases h2 with ⟨j, b1, b2, b3, b4, b5, b6, b7, b8, b9⟩ | ⟨_, b⟩
    · exact absurd ⟨b3, b4⟩ (a0 j b1 b2)
    · rcases a with ⟨a1, a2, a3, a4, a5, a6⟩ | ⟨a1, a2, a3, a4, a5, a6⟩
      · rcases b with ⟨b1, b2, b3, b4, b5, b6⟩ | ⟨b1, b2, b3, b4, b5, b6⟩
        · rw [a2, b2, a3, b3, a4, b4, a5, b5, a6, b6]
          exact ⟨rfl, rfl, rfl, rfl, rfl⟩
        · exact absurd a1 b1
      · rcases b with ⟨b1, b2, b3, b4, b5, b6⟩ | ⟨b1, b2, b3, b4, b5, b6⟩
        · exact absurd b1 a1
        · rw [a2, b2, a3, b3, a4, b4, a5, b5, a6, b6]
          exact ⟨rfl, rfl, rfl, rfl, rfl⟩
theorem nm_uniq {N : Nat} {kd : Nat → Nat} {r r2 : Int32} {N1 N2 : Nat} {kd1 kd2 : Nat → Nat} (h : z_nm N kd r N1 kd1) (h2 : z_nm N kd r2 N2 kd2) : r = r2 ∧ N1 = N2 ∧ kd1 = kd2 := by
  rcases h with ⟨a1, a2, a3, a4⟩ | ⟨a1, a2, a3, a4⟩
  · rcases h2 with ⟨b1, b2, b3, b4⟩ | ⟨b1, b2, b3, b4⟩
    · rw [a2, b2, a3, b3, a4, b4]
      exact ⟨rfl, rfl, rfl⟩
    · exact absurd a1 b1
  · rcases h2 with ⟨b1, b2, b3, b4⟩ | ⟨b1, b2, b3, b4⟩
    · exact absurd b1 a1
    · rw [a2, b2, a3, b3, a4, b4]
      exact ⟨rfl, rfl, rfl⟩
theorem tl_uniq {T : Nat} {so xa xb xc : Nat → Nat} {F : Nat → Prop} {g x y z : Nat} {r r2 : Int32} {T1 T2 : Nat} {so1 xa1 xb1 xc1 so2 xa2 xb2 xc2 : Nat → Nat} {F1 F2 : Nat → Prop} (h : z_tl T so xa xb xc F g x y z r T1 so1 xa1 xb1 xc1 F1) (h2 : z_tl T so xa xb xc F g x y z r2 T2 so2 xa2 xb2 xc2 F2) : r = r2 ∧ T1 = T2 ∧ so1 = so2 ∧ xa1 = xa2 ∧ xb1 = xb2 ∧ xc1 = xc2 ∧ F1 = F2 := by
  rcases h with ⟨a1, a2, a3, a4, a5, a6, a7, a8⟩ | ⟨a1, a2, a3, a4, a5, a6, a7, a8⟩
  · rcases h2 with ⟨b1, b2, b3, b4, b5, b6, b7, b8⟩ | ⟨b1, b2, b3, b4, b5, b6, b7, b8⟩
    · rw [a2, b2, a3, b3, a4, b4, a5, b5, a6, b6, a7, b7, a8, b8]
      exact ⟨rfl, rfl, rfl, rfl, rfl, rfl, rfl⟩
    · exact absurd a1 b1
  · rcases h2 with ⟨b1, b2, b3, b4, b5, b6, b7, b8⟩ | ⟨b1, b2, b3, b4, b5, b6, b7, b8⟩
    · exact absurd b1 a1
    · rw [a2, b2, a3, b3, a4, b4, a5, b5, a6, b6, a7, b7, a8, b8]
      exact ⟨rfl, rfl, rfl, rfl, rfl, rfl, rfl⟩
theorem rt_uniq {F F1 F2 : Nat → Prop} {x r r2 : Int32} (hF : ∀ k, F k → k ≤ 100) (h : z_rt F x r F1) (h2 : z_rt F x r2 F2) : r = r2 ∧ F1 = F2 := by
  rcases h with ⟨a1, a2, a3⟩ | ⟨k, a1, a2, a3, a4⟩
  · rcases h2 with ⟨b1, b2, b3⟩ | ⟨j, b1, b2, b3, b4⟩
    · rw [a2, b2, a3, b3]
      exact ⟨rfl, rfl⟩
    · exact absurd b2 (a1 j b1)
  · rcases h2 with ⟨b1, b2, b3⟩ | ⟨j, b1, b2, b3, b4⟩
    · exact absurd a2 (b1 k a1)
    · have := hF k a2
      have := hF j b2
      have e := (nI_eq (by omega) (by omega)).mp (a1.symm.trans b1)
      rw [a3, b3, a4, b4, e]
      exact ⟨rfl, rfl⟩
theorem rs_uniq {M : Nat} {rs : Nat → Nat} {x r r2 : Int32} (hM : M ≤ 100) (h : z_rs M rs x r) (h2 : z_rs M rs x r2) : r = r2 := by
  rcases h with ⟨k, a1, a2, a3⟩ | ⟨a1, a2⟩
  · rcases h2 with ⟨j, b1, b2, b3⟩ | ⟨b1, b2⟩
    · have e := (nI_eq (by omega) (by omega)).mp (a2.symm.trans b2)
      rw [a3, b3, e]
    · exact absurd a2 (b2 k a1)
  · rcases h2 with ⟨j, b1, b2, b3⟩ | ⟨b1, b2⟩
    · exact absurd b2 (a2 j b1)
    · rw [a1, b1]
theorem wy_uniq {N : Nat} {kd fa fb so xa xb xc : Nat → Nat} {F : Nat → Prop} {T d d2 : Nat} {r r2 : Int32} {M1 M2 : Nat} {rs1 rs2 : Nat → Nat} (h : z_wy N kd fa fb so xa xb xc F T d d2 r M1 rs1) (h2 : z_wy N kd fa fb so xa xb xc F T d d2 r2 M2 rs2) : r = r2 ∧ M1 = M2 ∧ ∀ i, i < M1 → rs1 i = rs2 i := by
  rcases h with ⟨a1, a2, a3⟩ | ⟨a1, a2, a3, a4⟩
  · rcases h2 with ⟨b1, b2, b3⟩ | ⟨b1, b2, b3, b4⟩
    · exact ⟨a2.trans b2.symm, a3.trans b3.symm, fun i hi => by omega⟩
    · exact absurd b1 a1
  · rcases h2 with ⟨b1, b2, b3⟩ | ⟨b1, b2, b3, b4⟩
    · exact absurd a1 b1
    · have e : M1 = M2 := a3.trans b3.symm
      refine ⟨by rw [a2, b2, e], e, fun i hi => cnt_inj (a4 i hi).1 (b4 i (by omega)).1 ?_⟩
      rw [(a4 i hi).2, (b4 i (by omega)).2]
