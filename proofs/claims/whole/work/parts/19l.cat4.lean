/-! Axioms as the tables have them; hearing any axiom; forgetting. -/
theorem tq_mono {l : Launch} {y : MethodName} {ws : List Cond} {rm : Room} {Pc : Array Value → State → Prop} {Qc Qc' : Array Value → State → Outcome → State → Prop} {mc ms : Nat} {free : Addr → Prop} (hM : Met l y ws rm Pc Qc mc ms free) (h : ∀ a st o t, Qc a st o t → Qc' a st o t) : Met l y ws rm Pc Qc' mc ms free :=
  fun p e ha hc hk s m args below hf happ hP hK => by
    obtain ⟨n, o, h1, h2, h3, h4, h5⟩ := hM p e ha hc hk s m args below hf happ hP hK
    exact ⟨n, o, h1, h2, h3, h _ _ _ _ h4, h5⟩
theorem tq_monoV {S : Type} {post post' : S → Prop} {B : S → State → Prop} {A : Nat → Prop} (h : ∀ u, post u → post' u) : ∀ (a : Array Value) (st : State) (o : Outcome) (t : State), va_Qv post B A a st o t → va_Qv post' B A a st o t :=
  fun _ _ _ _ z => ⟨by obtain ⟨u, z1, z2, z3⟩ := z.1; exact ⟨u, z1, h u z2, z3⟩, z.2⟩
theorem tq_monoI {S : Type} {post post' : Int32 → S → Prop} {B : S → State → Prop} {A : Nat → Prop} (h : ∀ r u, post r u → post' r u) : ∀ (a : Array Value) (st : State) (o : Outcome) (t : State), va_Qi post B A a st o t → va_Qi post' B A a st o t :=
  fun _ _ _ _ z => ⟨by obtain ⟨r, u, z1, z2, z3⟩ := z.1; exact ⟨r, u, z1, h r u z2, z3⟩, z.2⟩
def s_ax (u : sU) (T N : Nat) (so xa xb xc : Nat → Nat) : Prop := u.2.2 2 = T ∧ T ≤ 100 ∧ ∀ k, 1 ≤ k → k ≤ T → (u.2.1 4 (k - 1) = nI (so k) ∧ so k ≤ 3 ∧ u.2.1 5 (k - 1) = nI (xa k) ∧ u.2.1 6 (k - 1) = nI (xb k) ∧ (so k ≤ 1 → xa k < N ∧ xb k < N) ∧ (2 ≤ so k → xa k < 6 ∧ xb k < 6) ∧ (so k = 3 → u.2.1 7 (k - 1) = nI (xc k) ∧ xc k < 6))
def x_inf (u : sU) (k : Nat) : Prop := 1 ≤ k ∧ k ≤ u.2.2 2 ∧ u.2.1 8 (k - 1) = 0
theorem told_congr {u : sU} {so xa xb xc : Nat → Nat} {U V : Nat → Prop} (h : s_told u so xa xb xc U) (e : ∀ k, U k ↔ V k) : s_told u so xa xb xc V := by
  have : U = V := funext (fun k => propext (e k))
  rw [← this]; exact h
def s_heard (u v : sU) (N : Nat) (kd fa fb : Nat → Nat) (n : Nat) (so xa xb xc : Nat → Nat) (U : Nat → Prop) (k : Nat) : Prop := s_mid v N kd fa fb n ∧ s_told v so xa xb xc (x_or U k) ∧ v.2 = u.2 ∧ (∀ y b, u.1 0 y b = true → v.1 0 y b = true)
theorem c_hearK (l : Launch) (D : va_G) (a : Nat → Nat) (kI kL kZ : ClassId) (u : sU) (N : Nat) (kd fa fb : Nat → Nat) (n T : Nat) (so xa xb xc : Nat → Nat) (U : Nat → Prop) (hm : s_mid u N kd fa fb n) (ht : s_told u so xa xb xc U) (hax : s_ax u T N so xa xb xc) (k : Nat) (h1 : 1 ≤ k) (h2 : k ≤ T) :
    Met l yC_hear (wC_hear :: wA) ({ frames := 3, cells := 0, slots := 0, locals := 74 }) (va_Pc [.ref (a 3), .int (nI k)] (tq_wB D vwA (sW a kI kL kZ u) (sT kI kL kZ))) (va_Qv (fun (u' : sU) => s_heard u u' N kd fa fb n so xa xb xc U k) (fun u' t => va_P D vwA (sW a kI kL kZ u') t.heap) (sA a)) 0 0 (sA a) := by
  obtain ⟨e4, e3, e5, e6, b1, b2, b3⟩ := hax.2.2 k h1 h2
  have hT := hax.2.1
  have hN := tm_N hm.1.1
  have hk : so k = 0 ∨ so k = 1 ∨ so k = 2 ∨ so k = 3 := by omega
  rcases hk with e | e | e | e
  · have hb := b1 (by omega)
    exact tq_mono (c_hear0 l D a kI kL kZ u k (xa k) (xb k) h1 (by omega) (by rw [e4, e]) e5 e6 hm.1.2.1 (by omega) (by omega)) (tq_monoV (fun v z => ⟨mid_hear0 hm hb.1 hb.2 z, told_0 ht e z.1, z.1.2.2.2.2.2.2, z.1.1⟩))
  · have hb := b1 (by omega)
    exact tq_mono (c_hear1 l D a kI kL kZ u k (xa k) (xb k) h1 (by omega) (by rw [e4, e]) e5 e6 hm.1.2.1 (by omega) (by omega)) (tq_monoV (fun v z => by
      have h9 := mid_hear1 hm hb.1 hb.2 z
      exact ⟨h9.1, told_1 ht e h9.2, h9.2.2.2.2.2.2.2, h9.2.1⟩))
  · have hb := b2 (by omega)
    exact tq_mono (c_hear2 l D a kI kL kZ u N kd fa fb hm.1.1 hm.1.2.1 k (xa k) (xb k) h1 (by omega) (by rw [e4, e]) e5 e6 (by omega) (by omega)) (tq_monoV (fun v z => ⟨mid_hear2 hm hb.1 hb.2 z, told_2 ht e z.1, z.1.2.2.2.2.2.2, z.1.1⟩))
  · have hb := b2 (by omega)
    have hc := b3 e
    exact tq_mono (c_hear3 l D a kI kL kZ u N kd fa fb hm.1.1 hm.1.2.1 (xc k) k (xa k) (xb k) h1 (by omega) (by rw [e4, e]) e5 e6 hc.1 (by omega) (by omega) hc.2) (tq_monoV (fun v z => ⟨mid_hear3 hm hb.1 hb.2 hc.2 z, told_3 ht e hb.1 hb.2 z.1, z.1.2.2.2.2.2.2, z.1.1⟩))
/-- after forgetting nothing is there -/
theorem forget_0 {u : sU} {N : Nat} {kd fa fb : Nat → Nat} (hb : s_bas u N kd fa fb) : (∀ y b, ¬ (s_forget u).1 0 y b = true) ∧ (∀ y b, ¬ (s_forget u).1 2 y b = true) ∧ (∀ y, ¬ (s_forget u).1 3 0 y = true) ∧ (∀ c r d, r < 7 → c < 160 → d < 160 → ¬ (s_forget u).1 1 (d * 7 + r) c = true) ∧ (∀ y b, ¬ (s_forget u).1 4 y b = true) ∧ (∀ y b, ¬ (s_forget u).1 5 y b = true) ∧ (∀ y b, ¬ (s_forget u).1 6 y b = true) := by
  obtain ⟨b1, b2, b3, b4, b5, b6, b7⟩ := hb
  have hN := tm_N b1
  have e : u.2.2 0 = N := hN.1
  refine ⟨fun y b z => ?_, fun y b z => ?_, fun y z => ?_, fun c r d h1 h2 h3 z => ?_, fun y b z => ?_, fun y b z => ?_, fun y b z => ?_⟩
  · have z := tm_clr_iff.mp (z : tm_clr (u.1 0) (u.2.2 0 * 7) y b = true)
    have := (b3 y b z.2).1
    omega
  · have z := tm_clr_iff.mp (z : tm_clr (u.1 2) (u.2.2 0 * 7) y b = true)
    have := (b3 y b (b4 y b z.2)).1
    omega
  · have z2 : tm_clr (u.1 3) 1 0 y = true := z
    have := (tm_clr_iff.mp z2).1
    omega
  · have z := tm_clr_iff.mp (z : tm_clr (u.1 1) (u.2.2 0 * 7) (d * 7 + r) c = true)
    have := (b3 _ _ ((b2 c r d h1 h2 h3).mp z.2)).2
    omega
  · have z := tm_clr_iff.mp (z : tm_clr (u.1 4) (u.2.2 0) y b = true)
    have := (b6.1 y b z.2).1
    omega
  · have z := tm_clr_iff.mp (z : tm_clr (u.1 5) 6 y b = true)
    have := (b6.2.1 y b z.2).1
    omega
  · have z := tm_clr_iff.mp (z : tm_clr (u.1 6) 36 y b = true)
    have := (b6.2.2 y b z.2).1
    omega
theorem forget_mid {u : sU} {N : Nat} {kd fa fb : Nat → Nat} (hb : s_bas u N kd fa fb) (n : Nat) : s_mid (s_forget u) N kd fa fb n := by
  obtain ⟨f0, f2, f3, f1, f4, f5, f6⟩ := forget_0 hb
  have htm : s_tm (s_forget u) N kd fa fb := hb.1
  have nF : ∀ c r d, ¬ FF (s_forget u) c r d := fun c r d z => f0 _ _ z.2
  refine ⟨⟨htm, fun c r d h1 h2 h3 => ⟨fun z => absurd z (f1 c r d h1 h2 h3), fun z => absurd z (f0 _ _)⟩, fun y b z => absurd z (f0 _ _), fun y b z => absurd z (f2 _ _), fun y z => absurd z (f3 _), ⟨fun a b z => absurd z (f4 _ _), fun a b z => absurd z (f5 _ _), fun a b z => absurd z (f6 _ _)⟩, fun x r d _ z => absurd z (f0 _ _)⟩, ?_, fun y b z => absurd z (f2 _ _), fun y b z => absurd z (f0 _ _)⟩
  exact ⟨fun _ _ _ _ z => absurd z (nF _ _ _), fun _ _ _ _ z => absurd z (nF _ _ _), fun _ _ _ _ z => absurd z (nF _ _ _), fun _ _ _ _ z => absurd z (nF _ _ _), fun _ _ _ _ _ z => absurd z (nF _ _ _), fun _ _ _ _ _ _ z => absurd z (nF _ _ _), fun _ _ _ _ _ _ _ _ _ z => absurd z (nF _ _ _), fun _ _ _ _ z => absurd z (nF _ _ _), fun _ _ _ _ z => absurd z (nF _ _ _)⟩
theorem forget_told {u : sU} {N : Nat} {kd fa fb : Nat → Nat} (hb : s_bas u N kd fa fb) (so xa xb xc : Nat → Nat) : s_told (s_forget u) so xa xb xc (fun _ => False) := by
  obtain ⟨f0, f2, f3, f1, f4, f5, f6⟩ := forget_0 hb
  exact ⟨fun a b => ⟨fun z => absurd z (f4 _ _), fun ⟨_, z, _⟩ => z.elim⟩, fun a b => ⟨fun z => absurd z (f5 _ _), fun ⟨_, z, _⟩ => z.elim⟩, fun r q t _ _ => ⟨fun z => absurd z (f6 _ _), fun ⟨_, z, _⟩ => z.elim⟩⟩
theorem forget_adm {u : sU} {N : Nat} {kd fa fb : Nat → Nat} (hb : s_bas u N kd fa fb) (n : Nat) : s_adm (s_forget u) n := fun y b z _ => absurd z ((forget_0 hb).1 y b)
section TQZ
variable {p : Program} {l : Launch} {e : Env} {R : Room} {s : State} {m : MethodId} {args : Array Value} {below : List Frame} {meth : Method} {c : Code} {H : Heap} {locs : List Loc} {cells slots : Nat} {Q : State → Prop}
variable {cc : ByteArray} {pc : Nat} {ls : Array Slot} {rest : List Value}
theorem tq_zeq (hx : p.tables.exec = Jvm.exec) (hb : c.code = cc) {a : Nat} {off : Int} {tgt : Nat} (hdg : decode cc pc = .ok (.ifCond .eq off, 3)) (ht : (pc : Int) + off = (tgt : Int)) (ha : a < 2 ^ 31)
    (kt : a = 0 → W p l e R s m args below meth c H locs cells slots Q (F0 m tgt ls rest)) (kf : ¬ a = 0 → W p l e R s m args below meth c H locs cells slots Q (F0 m (pc + 3) ls rest)) : W p l e R s m args below meth c H locs cells slots Q (F0 m pc ls (.int (nI a) :: rest)) :=
  lv_if_eq hx hb hdg ht (fun h => kt ((nI_eq ha (by decide)).mp (h.trans nI_0.symm))) (fun h => kf (fun z => h (by rw [z]; exact nI_0)))
theorem tq_zne (hx : p.tables.exec = Jvm.exec) (hb : c.code = cc) {a : Nat} {off : Int} {tgt : Nat} (hdg : decode cc pc = .ok (.ifCond .ne off, 3)) (ht : (pc : Int) + off = (tgt : Int)) (ha : a < 2 ^ 31)
    (kt : ¬ a = 0 → W p l e R s m args below meth c H locs cells slots Q (F0 m tgt ls rest)) (kf : a = 0 → W p l e R s m args below meth c H locs cells slots Q (F0 m (pc + 3) ls rest)) : W p l e R s m args below meth c H locs cells slots Q (F0 m pc ls (.int (nI a) :: rest)) :=
  lv_if_ne hx hb hdg ht (fun h => kt (fun z => h (by rw [z]; exact nI_0))) (fun h => kf ((nI_eq ha (by decide)).mp (h.trans nI_0.symm)))
end TQZ
/-- the closure between calls -/
def s_cinv (u : sU) (N : Nat) (kd fa fb : Nat → Nat) (T : Nat) (so xa xb xc : Nat → Nat) : Prop :=
  s_bas u N kd fa fb ∧ (∀ y b, ¬ u.1 2 y b = true) ∧ s_ax u T N so xa xb xc ∧ u.2.2 4 ≤ N ∧ u.2.2 5 ≤ T ∧ u.2.2 6 ≤ 1 ∧
  (u.2.2 6 = 0 → tm_Sat (u.2.2 4) kd fa fb (TAu u) (TRu u) (TCu u) (FF u) (QQ u) ∧ s_adm u (u.2.2 4) ∧ s_sound u N kd fa fb ∧ ∃ U, s_told u so xa xb xc U ∧ (∀ k, U k → x_inf u k) ∧ (∀ k, k ≤ u.2.2 5 → x_inf u k → U k))
/-- as catching up begins -/
def s_st (u v : sU) (N : Nat) (kd fa fb : Nat → Nat) (T : Nat) (so xa xb xc : Nat → Nat) (U : Nat → Prop) : Prop :=
  s_mid v N kd fa fb (v.2.2 4) ∧ s_adm v (v.2.2 4) ∧ s_told v so xa xb xc U ∧ (∀ k, U k → x_inf u k) ∧ (∀ k, k ≤ v.2.2 5 → x_inf u k → U k) ∧ v.2.1 = u.2.1 ∧ (∀ j, ¬ j = 4 → ¬ j = 5 → ¬ j = 6 → v.2.2 j = u.2.2 j) ∧ v.2.2 6 = 0 ∧ v.2.2 4 ≤ N ∧ v.2.2 5 ≤ T
def s_caught (u v : sU) (N : Nat) (kd fa fb : Nat → Nat) (T : Nat) (so xa xb xc : Nat → Nat) : Prop :=
  s_mid v N kd fa fb N ∧ s_told v so xa xb xc (x_inf u) ∧ v.2.1 = u.2.1 ∧ (∀ j, ¬ j = 4 → ¬ j = 5 → ¬ j = 6 → v.2.2 j = u.2.2 j) ∧ v.2.2 4 = N ∧ v.2.2 5 = T ∧ v.2.2 6 = 0
theorem catch_0 {u : sU} {N : Nat} {kd fa fb : Nat → Nat} {T : Nat} {so xa xb xc : Nat → Nat} (h : s_cinv u N kd fa fb T so xa xb xc) (h6 : u.2.2 6 = 0) : ∃ U, s_st u u N kd fa fb T so xa xb xc U := by
  obtain ⟨a1, a2, a3, a4, a5, a6, a7⟩ := h
  obtain ⟨b1, b2, b3, U, b4, b5, b6⟩ := a7 h6
  exact ⟨U, ⟨a1, b1, fun y b z => absurd z (a2 y b), b3⟩, b2, b4, b5, b6, rfl, fun _ _ _ _ => rfl, h6, a4, a5⟩
theorem catch_1 {u : sU} {N : Nat} {kd fa fb : Nat → Nat} {T : Nat} {so xa xb xc : Nat → Nat} (h : s_cinv u N kd fa fb T so xa xb xc) : ∃ U, s_st u (s_forget u) N kd fa fb T so xa xb xc U := by
  obtain ⟨a1, a2, a3, a4, a5, a6, a7⟩ := h
  refine ⟨fun _ => False, forget_mid a1 _, forget_adm a1 _, forget_told a1 so xa xb xc, fun k z => z.elim, fun k z1 z2 => ?_, rfl, fun j h4 h5 h6 => ?_, rfl, ?_, Nat.zero_le _⟩
  · have : k ≤ 0 := z1
    have := z2.1
    omega
  · show va_up (va_up (va_up u.2.2 4 (u.2.2 0)) 5 0) 6 0 j = _
    rw [va_up_ne _ _ h6, va_up_ne _ _ h5, va_up_ne _ _ h4]
  · show u.2.2 0 ≤ N
    rw [(tm_N a1.1).1]
    exact Nat.le_refl _
theorem told_ext {v w : sU} {so xa xb xc : Nat → Nat} {U : Nat → Prop} (h : s_told v so xa xb xc U) (hx : s_ext v w) : s_told w so xa xb xc U := by
  unfold s_told
  rw [hx.2.2.2.2.2.1 4 (by decide), hx.2.2.2.2.2.1 5 (by decide), hx.2.2.2.2.2.1 6 (by decide)]
  exact h
theorem ax_of {u v : sU} {T N : Nat} {so xa xb xc : Nat → Nat} (h : s_ax u T N so xa xb xc) (e1 : v.2.1 = u.2.1) (e2 : v.2.2 2 = u.2.2 2) : s_ax v T N so xa xb xc := by
  unfold s_ax
  rw [e1, e2]
  exact h
theorem inf_iff {u v : sU} {q T : Nat} (e1 : v.2.1 = u.2.1) (e2 : v.2.2 2 = T) (e3 : u.2.2 2 = T) (hT : T ≤ 100) (h1 : 1 ≤ q) (h2 : q ≤ T) : s_inf v (nI q) = true ↔ x_inf u q := by
  rw [s_inf_k h1 (by omega) (by omega), decide_eq_true_iff, e1]
  exact ⟨fun z => ⟨h1, by omega, z⟩, fun z => z.2.2⟩
def x_upto (u : sU) (U : Nat → Prop) (h q : Nat) : Nat → Prop := fun k => U k ∨ (h < k ∧ k < q ∧ x_inf u k)
theorem upto_0 {u v : sU} {so xa xb xc : Nat → Nat} {U : Nat → Prop} {h : Nat} (k : s_told v so xa xb xc U) : s_told v so xa xb xc (x_upto u U h (h + 1)) := told_congr k (fun j => ⟨Or.inl, fun z => z.elim id (fun z => by omega)⟩)
theorem upto_no {u v : sU} {so xa xb xc : Nat → Nat} {U : Nat → Prop} {h q : Nat} (k : s_told v so xa xb xc (x_upto u U h q)) (hq : ¬ x_inf u q) : s_told v so xa xb xc (x_upto u U h (q + 1)) := told_congr k (fun j => ⟨fun z => z.elim Or.inl (fun z => Or.inr ⟨z.1, by omega, z.2.2⟩), fun z => z.elim Or.inl (fun z => by
  by_cases e : j = q
  · subst e; exact absurd z.2.2 hq
  · exact Or.inr ⟨z.1, by omega, z.2.2⟩)⟩)
theorem upto_yes {u v : sU} {so xa xb xc : Nat → Nat} {U : Nat → Prop} {h q : Nat} (k : s_told v so xa xb xc (x_or (x_upto u U h q) q)) (hq : x_inf u q) (hh : h < q) : s_told v so xa xb xc (x_upto u U h (q + 1)) := told_congr k (fun j => ⟨fun z => z.elim (fun z => z.elim Or.inl (fun z => Or.inr ⟨z.1, by omega, z.2.2⟩)) (fun z => by subst z; exact Or.inr ⟨hh, by omega, hq⟩), fun z => z.elim (fun z => Or.inl (Or.inl z)) (fun z => by
  by_cases e : j = q
  · exact Or.inr e
  · exact Or.inl (Or.inr ⟨z.1, by omega, z.2.2⟩))⟩)
theorem upto_end {u v w : sU} {N : Nat} {kd fa fb : Nat → Nat} {T : Nat} {so xa xb xc : Nat → Nat} {U : Nat → Prop} {q : Nat} (hst : s_st u v N kd fa fb T so xa xb xc U) (hT : u.2.2 2 = T) (k : s_told w so xa xb xc (x_upto u U (v.2.2 5) q)) (hq : T < q) : s_told w so xa xb xc (x_inf u) :=
  told_congr k (fun j => ⟨fun z => z.elim (hst.2.2.2.1 j) (fun z => z.2.2), fun z => by
    rcases Nat.lt_or_ge (v.2.2 5) j with h | h
    · exact Or.inr ⟨h, by have := z.2.1; omega, z⟩
    · exact Or.inl (hst.2.2.2.2.1 j h z)⟩)
theorem catch_end {u v w : sU} {N : Nat} {kd fa fb : Nat → Nat} {T : Nat} {so xa xb xc : Nat → Nat} {U : Nat → Prop} {q : Nat} (hst : s_st u v N kd fa fb T so xa xb xc U) (hT : u.2.2 2 = T) (k1 : s_mid w N kd fa fb N) (k2 : s_told w so xa xb xc (x_upto u U (v.2.2 5) q)) (k3 : w.2 = (v.2.1, va_up v.2.2 4 N)) (hq : T < q) :
    s_caught u (w.1, w.2.1, va_up w.2.2 5 T) N kd fa fb T so xa xb xc := by
  have e1 : w.2.1 = v.2.1 := by rw [k3]
  have e2 : w.2.2 = va_up v.2.2 4 N := by rw [k3]
  refine ⟨k1, upto_end hst hT k2 hq, ?_, fun j h4 h5 h6 => ?_, ?_, rfl, ?_⟩
  · show w.2.1 = u.2.1
    rw [e1]; exact hst.2.2.2.2.2.1
  · show va_up w.2.2 5 T j = _
    rw [va_up_ne _ _ h5, e2, va_up_ne _ _ h4]
    exact hst.2.2.2.2.2.2.1 j h4 h5 h6
  · show va_up w.2.2 5 T 4 = N
    rw [e2]; rfl
  · show va_up w.2.2 5 T 6 = 0
    rw [e2]; exact hst.2.2.2.2.2.2.2.1
