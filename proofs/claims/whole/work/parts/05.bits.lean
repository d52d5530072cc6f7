/-! Bits: words out of a table of rows and bits, and what the operations on words do to the table. ts_ and wb_ rows: of kit/laws/BITS.to-paste. -/
theorem ts_nf {x : Bool} (h : ¬ x = false) : x = true := by cases x <;> first | rfl | exact absurd rfl h
theorem ts_nt {x : Bool} (h : ¬ x = true) : x = false := by cases x <;> first | rfl | exact absurd rfl h
theorem wb_inj {a b : Int64} (h : a.toBitVec = b.toBitVec) : a = b := Int64.toBitVec_inj.mp h
theorem wb_c : ∀ k, k < 64 → ((nI k).toInt64 &&& 63) = lN k := by decide +kernel
theorem wb_cu : ∀ k, k < 64 → ((nI k).toInt64.toUInt64 &&& Int64.toUInt64 63) = UInt64.ofNat k := by decide +kernel
def bI (b : Bool) : Int32 := if b then 1 else 0
theorem bI_t : bI true = 1 := rfl
theorem bI_f : bI false = 0 := rfl
theorem bI_0 {b : Bool} : bI b = 0 ↔ b = false := by cases b <;> decide
theorem bI_inj {a b : Bool} : bI a = bI b ↔ a = b := by cases a <;> cases b <;> decide
/-- a word that has the bits f -/
def tm_bv (f : Nat → Bool) : (n : Nat) → BitVec n
  | 0 => 0#0
  | n + 1 => BitVec.cons (f n) (tm_bv f n)
theorem tm_bv_get (f : Nat → Bool) : ∀ (n i : Nat), (tm_bv f n).getLsbD i = (decide (i < n) && f i)
  | 0, i => by simp [tm_bv]
  | n + 1, i => by
    rw [tm_bv, BitVec.getLsbD_cons, tm_bv_get f n i]
    by_cases h : i = n
    · subst h
      simp
    · rw [if_neg h]
      by_cases h2 : i < n
      · have h3 : i < n + 1 := by omega
        simp [h2, h3]
      · have h3 : ¬ i < n + 1 := by omega
        simp [h2, h3]
def tm_w (f : Nat → Bool) : Int64 := Int64.ofBitVec (tm_bv f 64)
theorem tm_w_get (f : Nat → Bool) {i : Nat} (h : i < 64) : (tm_w f).toBitVec.getLsbD i = f i := by
  show (tm_bv f 64).getLsbD i = f i
  rw [tm_bv_get]
  simp [h]
theorem tm_w_ext {x : Int64} {f : Nat → Bool} (h : ∀ i, i < 64 → x.toBitVec.getLsbD i = f i) : x = tm_w f :=
  wb_inj (BitVec.eq_of_getLsbD_eq (fun i hi => by rw [tm_w_get f hi]; exact h i hi))
theorem tm_w_congr {f g : Nat → Bool} (h : ∀ i, i < 64 → f i = g i) : tm_w f = tm_w g := tm_w_ext (fun i hi => by rw [tm_w_get f hi]; exact h i hi)
theorem tm_w_0 : tm_w (fun _ => false) = 0 := (tm_w_ext (fun i hi => by show (0#64).getLsbD i = false; simp)).symm
/-- the words of a table, wp words a row -/
def bw (wp : Nat) (B : Nat → Nat → Bool) (k : Nat) : Int64 := tm_w (fun i => B (k / wp) (k % wp * 64 + i))
theorem bw_dv {wp r q : Nat} (h : q < wp) : (r * wp + q) / wp = r ∧ (r * wp + q) % wp = q := by
  have h0 : 0 < wp := by omega
  constructor
  · rw [Nat.add_comm, Nat.add_mul_div_right _ _ h0, Nat.div_eq_of_lt h, Nat.zero_add]
  · rw [Nat.add_comm, Nat.add_mul_mod_self_right, Nat.mod_eq_of_lt h]
theorem bw_at {wp : Nat} (B : Nat → Nat → Bool) {r b : Nat} (h : b < wp * 64) : bw wp B (r * wp + b / 64) = tm_w (fun i => B r (b / 64 * 64 + i)) := by
  have h1 : b / 64 < wp := by omega
  unfold bw
  rw [(bw_dv h1).1, (bw_dv h1).2]
theorem bw_bit {wp : Nat} (B : Nat → Nat → Bool) {r b : Nat} (h : b < wp * 64) : (bw wp B (r * wp + b / 64)).toBitVec.getLsbD (b % 64) = B r b := by
  rw [bw_at B h, tm_w_get _ (Nat.mod_lt _ (by decide))]
  congr 1
  omega
def tm_put (B : Nat → Nat → Bool) (r b : Nat) : Nat → Nat → Bool := fun r' b' => B r' b' || (r' == r && b' == b)
def tm_drop (B : Nat → Nat → Bool) (r b : Nat) : Nat → Nat → Bool := fun r' b' => B r' b' && !(r' == r && b' == b)
def tm_clr (B : Nat → Nat → Bool) (n : Nat) : Nat → Nat → Bool := fun r' b' => !(decide (r' < n)) && B r' b'
theorem tm_put_iff {B : Nat → Nat → Bool} {r b r' b' : Nat} : tm_put B r b r' b' = true ↔ B r' b' = true ∨ (r' = r ∧ b' = b) := by
  simp [tm_put]
theorem tm_drop_iff {B : Nat → Nat → Bool} {r b r' b' : Nat} : tm_drop B r b r' b' = true ↔ B r' b' = true ∧ ¬ (r' = r ∧ b' = b) := by
  by_cases h : r' = r ∧ b' = b
  · simp [tm_drop, h.1, h.2]
  · have h2 : (r' == r && b' == b) = false := by
      cases hx : (r' == r && b' == b) with
      | false => rfl
      | true => exact absurd (by simpa using hx) h
    constructor
    · intro q
      refine ⟨?_, h⟩
      simpa [tm_drop, h2] using q
    · intro q
      simp [tm_drop, h2, q.1]
theorem tm_clr_iff {B : Nat → Nat → Bool} {n r' b' : Nat} : tm_clr B n r' b' = true ↔ ¬ r' < n ∧ B r' b' = true := by
  simp [tm_clr]
/-- a word of the table is another one: all others are as they were -/
theorem bw_upd {wp : Nat} {B C : Nat → Nat → Bool} {r q : Nat} {x : Int64} (hq : q < wp) (hx : ∀ i, i < 64 → x.toBitVec.getLsbD i = C r (q * 64 + i)) (ho : ∀ r' b', ¬ (r' = r ∧ b' / 64 = q) → C r' b' = B r' b') :
    vp_updL (bw wp B) (r * wp + q) x = bw wp C := by
  funext k
  show (if k = r * wp + q then x else bw wp B k) = bw wp C k
  by_cases hk : k = r * wp + q
  · rw [if_pos hk, hk]
    refine tm_w_ext (fun i hi => ?_)
    rw [(bw_dv hq).1, (bw_dv hq).2]
    exact hx i hi
  · rw [if_neg hk]
    refine tm_w_congr (fun i hi => ?_)
    refine (ho _ _ (fun h => hk ?_)).symm
    have e1 : k % wp = q := by
      have := h.2
      omega
    have e2 := Nat.div_add_mod k wp
    rw [h.1, e1, Nat.mul_comm] at e2
    exact e2.symm
theorem bw_put {wp : Nat} {B : Nat → Nat → Bool} {r b : Nat} {m : Int64} (h : b < wp * 64) (hm : m.toBitVec = BitVec.twoPow 64 (b % 64)) :
    vp_updL (bw wp B) (r * wp + b / 64) (bw wp B (r * wp + b / 64) ||| m) = bw wp (tm_put B r b) := by
  refine bw_upd (by omega) (fun i hi => ?_) (fun r' b' hn => ?_)
  · rw [Int64.toBitVec_or, BitVec.getLsbD_or, bw_at B h, tm_w_get _ hi, hm, BitVec.getLsbD_twoPow]
    by_cases e : b % 64 = i
    · have e2 : b / 64 * 64 + i = b := by omega
      have e3 : b % 64 < 64 := by omega
      simp [tm_put, e2, e, hi]
    · have e2 : ¬ b / 64 * 64 + i = b := by omega
      simp [tm_put, e2, e]
  · have : ¬ (r' = r ∧ b' = b) := fun z => hn ⟨z.1, by rw [z.2]⟩
    cases hB : B r' b' <;> simp [tm_put, hB, this] <;> omega
theorem bw_drop {wp : Nat} {B : Nat → Nat → Bool} {r b : Nat} {m : Int64} (h : b < wp * 64) (hm : m.toBitVec = BitVec.twoPow 64 (b % 64)) :
    vp_updL (bw wp B) (r * wp + b / 64) (bw wp B (r * wp + b / 64) &&& (m ^^^ (-1))) = bw wp (tm_drop B r b) := by
  have ha : (-1 : Int64).toBitVec = BitVec.allOnes 64 := by decide
  refine bw_upd (by omega) (fun i hi => ?_) (fun r' b' hn => ?_)
  · rw [Int64.toBitVec_and, BitVec.getLsbD_and, bw_at B h, tm_w_get _ hi, Int64.toBitVec_xor, hm, ha, BitVec.getLsbD_xor, BitVec.getLsbD_twoPow, BitVec.getLsbD_allOnes]
    by_cases e : b % 64 = i
    · have e2 : b / 64 * 64 + i = b := by omega
      simp [tm_drop, e2, e, hi]
    · have e2 : ¬ b / 64 * 64 + i = b := by omega
      simp [tm_drop, e2, e, hi]
  · have : ¬ (r' = r ∧ b' = b) := fun z => hn ⟨z.1, by rw [z.2]⟩
    cases hB : B r' b' <;> simp [tm_drop, hB, this] <;> omega
/-- the first j words are 0 -/
def bw_z (wp : Nat) (B : Nat → Nat → Bool) (j : Nat) : Nat → Int64 := fun k => if k < j then 0 else bw wp B k
theorem bw_z0 (wp : Nat) (B : Nat → Nat → Bool) : bw_z wp B 0 = bw wp B := by
  funext k
  simp [bw_z]
theorem bw_zs (wp : Nat) (B : Nat → Nat → Bool) (j : Nat) : vp_updL (bw_z wp B j) j 0 = bw_z wp B (j + 1) := by
  funext k
  show (if k = j then 0 else (if k < j then 0 else bw wp B k)) = (if k < j + 1 then 0 else bw wp B k)
  by_cases h : k = j
  · subst h
    simp
  · by_cases h2 : k < j
    · have h3 : k < j + 1 := by omega
      simp [h, h2, h3]
    · have h3 : ¬ k < j + 1 := by omega
      simp [h, h2, h3]
theorem bw_ze {wp : Nat} (h0 : 0 < wp) (B : Nat → Nat → Bool) (n : Nat) : bw_z wp B (n * wp) = bw wp (tm_clr B n) := by
  funext k
  show (if k < n * wp then 0 else bw wp B k) = bw wp (tm_clr B n) k
  by_cases h : k < n * wp
  · have h2 : k / wp < n := (Nat.div_lt_iff_lt_mul h0).mpr h
    rw [if_pos h, ← tm_w_0]
    refine tm_w_congr (fun i hi => ?_)
    simp [tm_clr, h2]
  · have h2 : ¬ k / wp < n := fun z => h ((Nat.div_lt_iff_lt_mul h0).mp z)
    rw [if_neg h]
    refine tm_w_congr (fun i hi => ?_)
    simp [tm_clr, h2]
/-- the shifts -/
theorem tm_ushr (w : Int64) {j : Nat} (hj : j < 64) : ((w.toUInt64 >>> ((nI j).toInt64.toUInt64 &&& Int64.toUInt64 63)).toInt64).toBitVec = w.toBitVec >>> j := by
  rw [wb_cu j hj]
  apply BitVec.eq_of_toNat_eq
  show (w.toUInt64 >>> UInt64.ofNat j).toNat = _
  have h1 : (UInt64.ofNat j).toNat = j := by
    show (BitVec.ofNat 64 j).toNat = j
    rw [BitVec.toNat_ofNat, Nat.mod_eq_of_lt (by omega)]
  rw [UInt64.toNat_shiftRight, h1, Nat.mod_eq_of_lt hj, BitVec.toNat_ushiftRight]
  rfl
theorem tm_shl1 : ∀ j, j < 64 → ((1 : Int64) <<< ((nI j).toInt64 &&& 63)).toBitVec = BitVec.twoPow 64 j := by decide +kernel
theorem tm_tp : ∀ j, j < 64 → BitVec.twoPow 64 j = (lN (2 ^ j)).toBitVec := by decide +kernel
theorem tm_sm : ∀ k, k < 64 → ((lN k).toBitVec.smod 64).toNat = k := by decide +kernel
/-- one bit of a word, shifted down and cut out -/
theorem tm_bit1 {x : Int64} {b : Bool} (h : x.toBitVec.getLsbD 0 = b) : (x &&& 1) = if b then 1 else 0 := by
  apply wb_inj
  rw [Int64.toBitVec_and]
  apply BitVec.eq_of_getLsbD_eq
  intro i hi
  have h1 : ((1 : Int64).toBitVec).getLsbD i = decide (i = 0) := by
    show (1#64).getLsbD i = _
    rw [BitVec.getLsbD_one]
    by_cases e : i = 0 <;> simp [e]
  rw [BitVec.getLsbD_and, h1]
  by_cases e : i = 0
  · subst e
    rw [h]
    cases b <;> simp <;> rfl
  · cases b
    · simp [e]
    · rw [if_pos rfl, h1]
      simp [e]
theorem tm_uget (w : Int64) {j : Nat} (hj : j < 64) : ((w.toUInt64 >>> ((nI j).toInt64.toUInt64 &&& Int64.toUInt64 63)).toInt64 &&& 1) = if w.toBitVec.getLsbD j then 1 else 0 :=
  tm_bit1 (by rw [tm_ushr w hj, BitVec.getLsbD_ushiftRight, Nat.add_zero])
theorem tm_sget (w : Int64) {j : Nat} (hj : j < 64) : ((w >>> ((nI j).toInt64 &&& 63)) &&& 1) = if w.toBitVec.getLsbD j then 1 else 0 :=
  tm_bit1 (by
    rw [wb_c j hj, Int64.toBitVec_shiftRight, BitVec.getLsbD_sshiftRight', tm_sm j hj]
    simp [hj])
/-- the lowest bit -/
theorem tm_low {x : Int64} (h : ¬ x = 0) : ∃ j, j < 64 ∧ x.toBitVec.getLsbD j = true ∧ ∀ i, i < j → x.toBitVec.getLsbD i = false := by
  have h1 : ∃ k, x.toBitVec.getLsbD k = true := by
    refine Classical.byContradiction (fun hn => h ?_)
    apply wb_inj
    apply BitVec.eq_of_getLsbD_eq
    intro i hi
    have : x.toBitVec.getLsbD i = false := ts_nt (fun z => hn ⟨i, z⟩)
    rw [this]
    show false = (0#64).getLsbD i
    simp
  obtain ⟨j, hj, hl⟩ := pk_least (fun k => x.toBitVec.getLsbD k = true) h1
  refine ⟨j, ?_, hj, fun i hi => ts_nt (hl i hi)⟩
  refine Nat.lt_of_not_le (fun hge => ?_)
  rw [BitVec.getLsbD_of_ge _ _ hge] at hj
  cases hj
theorem tm_lowmask {x : Int64} {j : Nat} (hj : j < 64) (h1 : x.toBitVec.getLsbD j = true) (h2 : ∀ i, i < j → x.toBitVec.getLsbD i = false) : (x &&& (-x)) - 1 = lN (2 ^ j - 1) := by
  have e : (x &&& (-x)) = lN (2 ^ j) := by
    apply wb_inj
    rw [Int64.toBitVec_and, Int64.toBitVec_neg, ← tm_tp j hj]
    apply BitVec.eq_of_getLsbD_eq
    intro i hi
    rw [BitVec.getLsbD_and, BitVec.getLsbD_neg, BitVec.getLsbD_twoPow]
    rcases Nat.lt_trichotomy i j with h | h | h
    · have e1 : ¬ j = i := by omega
      simp [h2 i h, e1]
    · subst h
      have e1 : ¬ ∃ q, q < i ∧ x.toBitVec.getLsbD q = true := fun ⟨q, a, b⟩ => by rw [h2 q a] at b; cases b
      simp [h1, hj, e1]
    · have e1 : ¬ j = i := by omega
      have e2 : ∃ q, q < i ∧ x.toBitVec.getLsbD q = true := ⟨j, h, h1⟩
      cases hx : x.toBitVec.getLsbD i <;> simp [hi, e1, e2]
  rw [e]
  have e3 : (1 : Int64) = lN 1 := rfl
  rw [e3, lN_sub (Nat.one_le_two_pow)]
/-- the first bit at or behind 'fr', within the width W -/
def tm_nx (f : Nat → Bool) (W fr r : Nat) : Prop := fr ≤ r ∧ r < W + 64 ∧ (∀ y, fr ≤ y → y < r → y < W → f y = false) ∧ (r < W → f r = true)
theorem tm_or63 : ∀ k, k < 1280 → nI k ||| 63 = nI (k / 64 * 64 + 63) := by decide +kernel
/-- the bits of a word that is shifted down to 'at' -/
theorem tm_shbit {wd : Int64} {f : Nat → Bool} {at' : Nat} (hw : ∀ i, i < 64 → wd.toBitVec.getLsbD i = f (at' / 64 * 64 + i)) (i : Nat) :
    ((wd.toUInt64 >>> ((nI (at' % 64)).toInt64.toUInt64 &&& Int64.toUInt64 63)).toInt64).toBitVec.getLsbD i = (decide (at' % 64 + i < 64) && f (at' + i)) := by
  rw [tm_ushr wd (Nat.mod_lt _ (by decide)), BitVec.getLsbD_ushiftRight]
  by_cases h : at' % 64 + i < 64
  · rw [hw _ h, show at' / 64 * 64 + (at' % 64 + i) = at' + i by omega]
    simp [h]
  · rw [BitVec.getLsbD_of_ge _ _ (by omega)]
    simp [h]
theorem tm_hit {wd : Int64} {f : Nat → Bool} {W fr at' j : Nat} (hw : ∀ i, i < 64 → wd.toBitVec.getLsbD i = f (at' / 64 * 64 + i)) (h1 : fr ≤ at') (h2 : ∀ y, fr ≤ y → y < at' → y < W → f y = false) (h3 : at' < W)
    (hj : ((wd.toUInt64 >>> ((nI (at' % 64)).toInt64.toUInt64 &&& Int64.toUInt64 63)).toInt64).toBitVec.getLsbD j = true)
    (hl : ∀ i, i < j → ((wd.toUInt64 >>> ((nI (at' % 64)).toInt64.toUInt64 &&& Int64.toUInt64 63)).toInt64).toBitVec.getLsbD i = false) : tm_nx f W fr (at' + j) := by
  rw [tm_shbit hw] at hj
  simp only [Bool.and_eq_true, decide_eq_true_eq] at hj
  refine ⟨by omega, by omega, fun y a b c => ?_, fun _ => hj.2⟩
  rcases Nat.lt_or_ge y at' with h | h
  · exact h2 y a h c
  · have e := hl (y - at') (by omega)
    rw [tm_shbit hw, show at' + (y - at') = y by omega] at e
    have e2 : at' % 64 + (y - at') < 64 := by omega
    simpa [e2] using e
theorem tm_miss {wd : Int64} {f : Nat → Bool} {W fr at' : Nat} (hw : ∀ i, i < 64 → wd.toBitVec.getLsbD i = f (at' / 64 * 64 + i)) (h2 : ∀ y, fr ≤ y → y < at' → y < W → f y = false)
    (h0 : (wd.toUInt64 >>> ((nI (at' % 64)).toInt64.toUInt64 &&& Int64.toUInt64 63)).toInt64 = 0) : ∀ y, fr ≤ y → y < at' / 64 * 64 + 63 + 1 → y < W → f y = false := by
  intro y a b c
  rcases Nat.lt_or_ge y at' with h | h
  · exact h2 y a h c
  · have e := tm_shbit hw (y - at')
    rw [h0, show at' + (y - at') = y by omega] at e
    have e2 : at' % 64 + (y - at') < 64 := by omega
    have e3 : ((0 : Int64).toBitVec).getLsbD (y - at') = false := by
      show (0#64).getLsbD _ = false
      simp
    rw [e3] at e
    simpa [e2] using e.symm
theorem bw_word {wp : Nat} (B : Nat → Nat → Bool) {r at' : Nat} (h : at' < wp * 64) : ∀ i, i < 64 → (bw wp B (r * wp + at' / 64)).toBitVec.getLsbD i = B r (at' / 64 * 64 + i) := fun i hi => by
  rw [bw_at B h, tm_w_get _ hi]
theorem bw_word2 {wp : Nat} (B C : Nat → Nat → Bool) {r q at' : Nat} (h : at' < wp * 64) : ∀ i, i < 64 → (bw wp B (r * wp + at' / 64) &&& (bw wp C (q * wp + at' / 64) ^^^ (-1))).toBitVec.getLsbD i = (B r (at' / 64 * 64 + i) && !C q (at' / 64 * 64 + i)) := fun i hi => by
  have ha : (-1 : Int64).toBitVec = BitVec.allOnes 64 := by decide
  rw [Int64.toBitVec_and, BitVec.getLsbD_and, bw_word B h i hi, Int64.toBitVec_xor, BitVec.getLsbD_xor, bw_word C h i hi, ha, BitVec.getLsbD_allOnes]
  simp [hi]
