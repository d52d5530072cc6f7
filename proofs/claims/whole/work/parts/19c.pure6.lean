/-! Pure rows for what is taken in: new descriptions, axioms that are heard. -/
theorem nx_mono_first {f : Nat → Bool} {W r : Nat} {P : Nat → Prop} (hn : tm_nx f W 0 r) (hf : ∀ b, b < W → f b = false → P b) : ∀ b, b < r → b < W → P b := fun b h1 h2 => hf b h2 (hn.2.2.1 b (Nat.zero_le _) h1 h2)
theorem nx_mono_step {f : Nat → Bool} {W r r2 : Nat} {P : Nat → Prop} (hinv : ∀ b, b < r → b < W → P b) (hr : P r) (hn : tm_nx f W (r + 1) r2) (hf : ∀ b, b < W → f b = false → P b) : ∀ b, b < r2 → b < W → P b := fun b h1 h2 => by
  rcases Nat.lt_trichotomy b r with z | z | z
  · exact hinv b z h2
  · rw [z]; exact hr
  · exact hf b h2 (hn.2.2.1 b (by omega) h1 h2)
/-- a told table takes one more -/
def s_put (u : sU) (i r b : Nat) : sU := (va_up u.1 i (tm_put (u.1 i) r b), u.2.1, u.2.2)
def s_forget (u : sU) : sU := (va_up (va_up (va_up (va_up (va_up (va_up (va_up u.1 0 (tm_clr (u.1 0) (u.2.2 0 * 7))) 1 (tm_clr (u.1 1) (u.2.2 0 * 7))) 2 (tm_clr (u.1 2) (u.2.2 0 * 7))) 3 (tm_clr (u.1 3) 1)) 4 (tm_clr (u.1 4) (u.2.2 0))) 5 (tm_clr (u.1 5) 6)) 6 (tm_clr (u.1 6) 36), u.2.1, va_up (va_up (va_up u.2.2 4 (u.2.2 0)) 5 0) 6 0)
def s_spoil (u : sU) : sU := (u.1, u.2.1, va_up u.2.2 6 1)
/-- facts to d from each one of a row of the sources: what follows, what is there -/
theorem from_snd {u v w : sU} {y0 q i d : Nat} {rule : (Nat → Nat → Prop) → Prop} (hy : y0 < 160) (hq : q < 7) (htr : s_tr v) (h : s_snd u v rule) (k : s_from v w (y0 * 7 + q) i d 160) (hr : ∀ G : Nat → Nat → Prop, rule G → (∀ y b, v.1 0 y b = true → G y b) → ∀ z, z < 160 → G (z * 7 + q) y0 → G (z * 7 + i) d) : s_snd u w rule := fun G h1 h2 y b z => by
  have hv := h G h1 h2
  rcases (k y b).mp z with z | ⟨z1, z, z2, _, z3, z4⟩
  · exact hv y b z
  · rw [z1, z3]
    exact hr G h2 hv z z2 (hv _ _ ((htr z q y0 hq z2 hy).mp z4))
theorem from_all {u v w : sU} {y0 q i d : Nat} (hy : y0 < 160) (hq : q < 7) (htr : s_tr v) (hx : s_ext u v) (k : s_from v w (y0 * 7 + q) i d 160) {z : Nat} (hz : z < 160) (h : u.1 0 (z * 7 + q) y0 = true) : w.1 0 (z * 7 + i) d = true :=
  (k _ _).mpr (Or.inr ⟨rfl, z, hz, hz, rfl, (htr z q y0 hq hz hy).mpr (hx.1 _ _ h)⟩)
theorem src_fact {u : sU} {c r d : Nat} (htr : s_tr u) (hc : c < 160) (hr : r < 7) (hd : d < 160) {b : Bool} (h : u.1 1 (d * 7 + r) c = b) : u.1 0 (c * 7 + r) d = b := by
  cases b with
  | true => exact (htr c r d hr hc hd).mp h
  | false => exact ts_nt (fun z => by rw [(htr c r d hr hc hd).mpr z] at h; cases h)
def s_put2 (u : sU) (x y : Nat) : sU := (va_up u.1 4 (tm_put (tm_put (u.1 4) x y) y x), u.2.1, u.2.2)
