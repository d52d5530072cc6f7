/-! Calls of Bits' methods out of any world that holds the object and its array; calls of methods of the system's own world. -/
theorem tq_P2 {D : va_G} {cl : List vw_C} {ws : va_W} {H : Heap} {i j : Nat} {x y : Nat × va_E} (hP : va_P D cl ws H) (hi : ws[i]? = some x) (hj : ws[j]? = some y) : va_P D cl [x, y] H := by
  intro k q hk
  rcases List.mem_cons.mp (List.mem_of_getElem? hk) with e | e
  · rw [e]; exact hP i x hi
  · rw [List.mem_singleton.mp e]; exact hP j y hj
theorem tq_P4 {D : va_G} {cl : List vw_C} {ws : va_W} {H : Heap} {i j i2 j2 : Nat} {x y x2 y2 : Nat × va_E} (hP : va_P D cl ws H) (hi : ws[i]? = some x) (hj : ws[j]? = some y) (hi2 : ws[i2]? = some x2) (hj2 : ws[j2]? = some y2) : va_P D cl [x, y, x2, y2] H := by
  intro k q hk
  have := List.mem_of_getElem? hk
  simp only [List.mem_cons, List.not_mem_nil, or_false] at this
  rcases this with e | e | e | e
  · rw [e]; exact hP i x hi
  · rw [e]; exact hP j y hj
  · rw [e]; exact hP i2 x2 hi2
  · rw [e]; exact hP j2 y2 hj2
theorem tq_K1 {D : va_G} {cl : List vw_C} {tys : List (ClassId × FieldType)} {U : State} {t0 : Nat} {z : ClassId × FieldType} (hK : va_K D cl tys U) (ht : tys[t0]? = some z) : va_K D cl [z] U :=
  hK.sub [t0] (by simp [ht])
theorem tq_DD2 {A : Nat → Prop} {ws : va_W} {i j : Nat} {x y : Nat × va_E} (hD : va_D A ws) (hi : ws[i]? = some x) (hj : ws[j]? = some y) (hij : i ≠ j) : va_D (fun _ => True) [x, y] := by
  have hne : x.1 ≠ y.1 := fun z => hij (hD.1 i j x y hi hj z)
  refine ⟨fun a b p q ha hb hpq => ?_, fun _ _ _ => trivial⟩
  match a, b, ha, hb with
  | 0, 0, _, _ => rfl
  | 1, 1, _, _ => rfl
  | 0, 1, ha, hb =>
    cases ha; cases hb
    exact absurd hpq hne
  | 1, 0, ha, hb =>
    cases ha; cases hb
    exact absurd hpq.symm hne
  | a + 2, _, ha, _ => simp at ha
  | 0, b + 2, _, hb => simp at hb
  | 1, b + 2, _, hb => simp at hb
section KC
variable {p : Program} {l : Launch} {e : Env} {R : Room} {s : State} {m : MethodId} {args : Array Value} {below : List Frame} {meth : Method} {c : Code} {H : Heap} {locs : List Loc} {cells slots : Nat} {Q : State → Prop}
variable {cc : ByteArray} {pc nL index : Nat} {ls : Array Slot} {rest : List Value} {D : va_G} {A : Nat → Prop} {tys : List (ClassId × FieldType)} {ws : va_W} {H0 : Heap} {own : String}
variable {h w n Wd wp : Nat} {cL : ClassId} {B : Nat → Nat → Bool}
theorem k_holds {row bit : Nat} (S : CallFix p m c cc nL s args wA own) (cw : CallW R s args own RcB index yB_holds bB_holds 3 (some .boolean) (wB_holds :: wA) { frames := 0, cells := 0, slots := 0, locals := 0 } 0 0 2) (hK : va_K D vwA tys s) (hP : va_P D vwA ws H) (hS : va_S A H0 H locs)
    (i j t0 : Nat) (hi : ws[i]? = some (h, .inr (0, [.int (nI Wd), .int (nI wp), .ref w]))) (hj : ws[j]? = some (w, .inl (cL, n, .inr (.inl (bw wp B))))) (ht : tys[t0]? = some (cL, .long)) (h1 : bit < wp * 64) (h2 : row * wp + bit / 64 < n) (hn : n < 2 ^ 31) (hw : wp < 100)
    (hls : ls.size = nL) (hroom : (rest.map fun v => v.category).sum ≤ 8) (hcs : cells + 0 ≤ R.cells ∧ slots + 0 ≤ R.slots) (hdg : decode cc pc = .ok (.invokevirtual index, 3))
    (kk : ∀ (H1 : Heap) (locs1 : List Loc), va_P D vwA ws H1 → va_S A H0 H1 locs1 → W p l e R s m args below meth c H1 locs1 cells slots Q (F0 m (pc + 3) ls (.int (bI (B row bit)) :: rest))) : W p l e R s m args below meth c H locs cells slots Q (F0 m pc ls (.int (nI bit) :: .int (nI row) :: .ref h :: rest)) :=
  tq_rdv (va_runV (As := [.int (nI row), .int (nI bit)]) (rest := rest) S (c_holds l D h w n Wd wp cL B row bit h1 h2 hn hw) cw ⟨tq_rB_blind, va_recv hK hP (q := (RcB, FcB, 3)) rfl hi, fun U hU hW => ⟨rfl, by rw [hU]; exact tq_P2 hP hi hj, va_K.moved hW.alike (tq_K1 hK ht)⟩⟩ rfl rfl hls rfl (lv_room hroom) hdg hcs) hS hP kk
theorem k_next {row fr : Nat} (S : CallFix p m c cc nL s args wA own) (cw : CallW R s args own RcB index yB_next bB_next 6 (some .int) (wB_next :: wA) { frames := 1, cells := 0, slots := 0, locals := 21 } 0 0 2) (hK : va_K D vwA tys s) (hP : va_P D vwA ws H) (hS : va_S A H0 H locs)
    (i j t0 : Nat) (hi : ws[i]? = some (h, .inr (0, [.int (nI Wd), .int (nI wp), .ref w]))) (hj : ws[j]? = some (w, .inl (cL, n, .inr (.inl (bw wp B))))) (ht : tys[t0]? = some (cL, .long)) (h1 : Wd ≤ wp * 64) (h2 : row * wp + wp ≤ n) (hn : n < 2 ^ 31) (hw : Wd < 1200) (hf : fr ≤ Wd) (hr0 : row < 100000)
    (hls : ls.size = nL) (hroom : (rest.map fun v => v.category).sum ≤ 8) (hcs : cells + 0 ≤ R.cells ∧ slots + 0 ≤ R.slots) (hdg : decode cc pc = .ok (.invokevirtual index, 3))
    (kk : ∀ (r : Nat) (H1 : Heap) (locs1 : List Loc), tm_nx (B row) Wd fr r → va_P D vwA ws H1 → va_S A H0 H1 locs1 → W p l e R s m args below meth c H1 locs1 cells slots Q (F0 m (pc + 3) ls (.int (nI r) :: rest))) : W p l e R s m args below meth c H locs cells slots Q (F0 m pc ls (.int (nI fr) :: .int (nI row) :: .ref h :: rest)) :=
  tq_rdi (va_runV (As := [.int (nI row), .int (nI fr)]) (rest := rest) S (c_next l D h w n Wd wp cL B row fr h1 h2 hn hw hf hr0) cw ⟨tq_rB_blind, va_recv hK hP (q := (RcB, FcB, 3)) rfl hi, fun U hU hW => ⟨rfl, by rw [hU]; exact tq_P2 hP hi hj, va_K.moved hW.alike (tq_K1 hK ht)⟩⟩ rfl rfl hls rfl (lv_room hroom) hdg hcs) hS hP
    (fun r H1 locs1 hp hP1 hS1 => by
      obtain ⟨r0, rfl, hx⟩ := hp
      exact kk r0 H1 locs1 hx hP1 hS1)
theorem k_nextBeyond {row fr orow h2 w2 n2 Wd2 wp2 : Nat} {C : Nat → Nat → Bool} (S : CallFix p m c cc nL s args wA own) (cw : CallW R s args own RcB index yB_nextBeyond bB_nextBeyond 9 (some .int) (wB_nextBeyond :: wA) { frames := 1, cells := 0, slots := 0, locals := 21 } 0 0 4) (hK : va_K D vwA tys s) (hP : va_P D vwA ws H) (hS : va_S A H0 H locs)
    (i j i2 j2 t0 : Nat) (hi : ws[i]? = some (h, .inr (0, [.int (nI Wd), .int (nI wp), .ref w]))) (hj : ws[j]? = some (w, .inl (cL, n, .inr (.inl (bw wp B))))) (hi2 : ws[i2]? = some (h2, .inr (0, [.int (nI Wd2), .int (nI wp2), .ref w2]))) (hj2 : ws[j2]? = some (w2, .inl (cL, n2, .inr (.inl (bw wp C))))) (ht : tys[t0]? = some (cL, .long)) (h1 : Wd ≤ wp * 64) (hr1 : row * wp + wp ≤ n) (hr2 : orow * wp + wp ≤ n2) (hn : n < 2 ^ 31) (hn2 : n2 < 2 ^ 31) (hw : Wd < 1200) (hf : fr ≤ Wd)
    (hls : ls.size = nL) (hroom : (rest.map fun v => v.category).sum ≤ 8) (hcs : cells + 0 ≤ R.cells ∧ slots + 0 ≤ R.slots) (hdg : decode cc pc = .ok (.invokevirtual index, 3))
    (kk : ∀ (r : Nat) (H1 : Heap) (locs1 : List Loc), tm_nx (fun y => B row y && !C orow y) Wd fr r → va_P D vwA ws H1 → va_S A H0 H1 locs1 → W p l e R s m args below meth c H1 locs1 cells slots Q (F0 m (pc + 3) ls (.int (nI r) :: rest))) : W p l e R s m args below meth c H locs cells slots Q (F0 m pc ls (.int (nI orow) :: .ref h2 :: .int (nI fr) :: .int (nI row) :: .ref h :: rest)) :=
  tq_rdi (va_runV (As := [.int (nI row), .int (nI fr), .ref h2, .int (nI orow)]) (rest := rest) S (c_nextBeyond l D h w n Wd wp cL B h2 w2 n2 Wd2 wp2 C row fr orow h1 hr1 hr2 hn hn2 hw hf) cw ⟨tq_rB_blind, va_recv hK hP (q := (RcB, FcB, 3)) rfl hi, fun U hU hW => ⟨rfl, by rw [hU]; exact tq_P4 hP hi hj hi2 hj2, va_K.moved hW.alike (tq_K1 hK ht)⟩⟩ rfl rfl hls rfl (lv_room hroom) hdg hcs) hS hP
    (fun r H1 locs1 hp hP1 hS1 => by
      obtain ⟨r0, rfl, hx⟩ := hp
      exact kk r0 H1 locs1 hx hP1 hS1)
theorem k_put {row bit : Nat} (S : CallFix p m c cc nL s args wA own) (cw : CallW R s args own RcB index yB_put bB_put 6 (some .boolean) (wB_put :: wA) { frames := 0, cells := 0, slots := 0, locals := 0 } 0 0 2) (hK : va_K D vwA tys s) (hP : va_P D vwA ws H) (hD : va_D A ws) (hS : va_S A H0 H locs)
    (i j t0 : Nat) (hi : ws[i]? = some (h, .inr (0, [.int (nI Wd), .int (nI wp), .ref w]))) (hj : ws[j]? = some (w, .inl (cL, n, .inr (.inl (bw wp B))))) (hij : i ≠ j) (ht : tys[t0]? = some (cL, .long)) (h1 : bit < wp * 64) (h2 : row * wp + bit / 64 < n) (hn : n < 2 ^ 31) (hw : wp < 100)
    (hls : ls.size = nL) (hroom : (rest.map fun v => v.category).sum ≤ 8) (hcs : cells + 0 ≤ R.cells ∧ slots + 0 ≤ R.slots) (hdg : decode cc pc = .ok (.invokevirtual index, 3))
    (kk : ∀ (H1 : Heap) (locs1 : List Loc), va_P D vwA (ws.set j (w, .inl (cL, n, .inr (.inl (bw wp (tm_put B row bit)))))) H1 → va_D A (ws.set j (w, .inl (cL, n, .inr (.inl (bw wp (tm_put B row bit)))))) → va_S A H0 H1 locs1 → W p l e R s m args below meth c H1 locs1 cells slots Q (F0 m (pc + 3) ls (.int (bI (!B row bit)) :: rest))) : W p l e R s m args below meth c H locs cells slots Q (F0 m pc ls (.int (nI bit) :: .int (nI row) :: .ref h :: rest)) :=
  tq_wri (va_runV (As := [.int (nI row), .int (nI bit)]) (rest := rest) S (c_put l D h w n Wd wp cL B row bit h1 h2 hn hw) cw ⟨tq_wB_blind, va_recv hK hP (q := (RcB, FcB, 3)) rfl hi, fun U hU hW => ⟨rfl, by rw [hU]; exact tq_P2 hP hi hj, va_K.moved hW.alike (tq_K1 hK ht), tq_DD2 hD hi hj hij⟩⟩ rfl rfl hls rfl (lv_room hroom) hdg hcs) hS (fun q z => z.elim (fun z => by rw [z]; exact hD.2 i _ hi) (fun z => by rw [z]; exact hD.2 j _ hj))
    (fun r u t H1 locs1 ht1 hp hb hk hS1 => by
      subst hp
      rw [ht1] at hb
      exact kk H1 locs1 (tq_bits hP hD hi hj hb hk) (hD.set hj) hS1)
theorem k_drop {row bit : Nat} (S : CallFix p m c cc nL s args wA own) (cw : CallW R s args own RcB index yB_drop bB_drop 3 none (wB_drop :: wA) { frames := 0, cells := 0, slots := 0, locals := 0 } 0 0 2) (hK : va_K D vwA tys s) (hP : va_P D vwA ws H) (hD : va_D A ws) (hS : va_S A H0 H locs)
    (i j t0 : Nat) (hi : ws[i]? = some (h, .inr (0, [.int (nI Wd), .int (nI wp), .ref w]))) (hj : ws[j]? = some (w, .inl (cL, n, .inr (.inl (bw wp B))))) (hij : i ≠ j) (ht : tys[t0]? = some (cL, .long)) (h1 : bit < wp * 64) (h2 : row * wp + bit / 64 < n) (hn : n < 2 ^ 31) (hw : wp < 100)
    (hls : ls.size = nL) (hroom : (rest.map fun v => v.category).sum ≤ 8) (hcs : cells + 0 ≤ R.cells ∧ slots + 0 ≤ R.slots) (hdg : decode cc pc = .ok (.invokevirtual index, 3))
    (kk : ∀ (H1 : Heap) (locs1 : List Loc), va_P D vwA (ws.set j (w, .inl (cL, n, .inr (.inl (bw wp (tm_drop B row bit)))))) H1 → va_D A (ws.set j (w, .inl (cL, n, .inr (.inl (bw wp (tm_drop B row bit)))))) → va_S A H0 H1 locs1 → W p l e R s m args below meth c H1 locs1 cells slots Q (F0 m (pc + 3) ls rest)) : W p l e R s m args below meth c H locs cells slots Q (F0 m pc ls (.int (nI bit) :: .int (nI row) :: .ref h :: rest)) :=
  tq_wrv (va_runV (As := [.int (nI row), .int (nI bit)]) (rest := rest) S (c_drop l D h w n Wd wp cL B row bit h1 h2 hn hw) cw ⟨tq_wB_blind, va_recv hK hP (q := (RcB, FcB, 3)) rfl hi, fun U hU hW => ⟨rfl, by rw [hU]; exact tq_P2 hP hi hj, va_K.moved hW.alike (tq_K1 hK ht), tq_DD2 hD hi hj hij⟩⟩ rfl rfl hls rfl (lv_room hroom) hdg hcs) hS (fun q z => z.elim (fun z => by rw [z]; exact hD.2 i _ hi) (fun z => by rw [z]; exact hD.2 j _ hj))
    (fun u t H1 locs1 ht1 _ hb hk hS1 => by
      rw [ht1] at hb
      exact kk H1 locs1 (tq_bits hP hD hi hj hb hk) (hD.set hj) hS1)
theorem k_clear {rows : Nat} (S : CallFix p m c cc nL s args wA own) (cw : CallW R s args own RcB index yB_clear bB_clear 4 none (wB_clear :: wA) { frames := 1, cells := 0, slots := 0, locals := 21 } 0 0 1) (hK : va_K D vwA tys s) (hP : va_P D vwA ws H) (hD : va_D A ws) (hS : va_S A H0 H locs)
    (i j t0 : Nat) (hi : ws[i]? = some (h, .inr (0, [.int (nI Wd), .int (nI wp), .ref w]))) (hj : ws[j]? = some (w, .inl (cL, n, .inr (.inl (bw wp B))))) (hij : i ≠ j) (ht : tys[t0]? = some (cL, .long)) (h1 : rows * wp ≤ n) (hn : n < 2 ^ 31) (hw : 0 < wp)
    (hls : ls.size = nL) (hroom : (rest.map fun v => v.category).sum ≤ 8) (hcs : cells + 0 ≤ R.cells ∧ slots + 0 ≤ R.slots) (hdg : decode cc pc = .ok (.invokevirtual index, 3))
    (kk : ∀ (H1 : Heap) (locs1 : List Loc), va_P D vwA (ws.set j (w, .inl (cL, n, .inr (.inl (bw wp (tm_clr B rows)))))) H1 → va_D A (ws.set j (w, .inl (cL, n, .inr (.inl (bw wp (tm_clr B rows)))))) → va_S A H0 H1 locs1 → W p l e R s m args below meth c H1 locs1 cells slots Q (F0 m (pc + 3) ls rest)) : W p l e R s m args below meth c H locs cells slots Q (F0 m pc ls (.int (nI rows) :: .ref h :: rest)) :=
  tq_wrv (va_runV (As := [.int (nI rows)]) (rest := rest) S (c_clear l D h w n Wd wp cL B rows h1 hn hw) cw ⟨tq_wB_blind, va_recv hK hP (q := (RcB, FcB, 3)) rfl hi, fun U hU hW => ⟨rfl, by rw [hU]; exact tq_P2 hP hi hj, va_K.moved hW.alike (tq_K1 hK ht), tq_DD2 hD hi hj hij⟩⟩ rfl rfl hls rfl (lv_room hroom) hdg hcs) hS (fun q z => z.elim (fun z => by rw [z]; exact hD.2 i _ hi) (fun z => by rw [z]; exact hD.2 j _ hj))
    (fun u t H1 locs1 ht1 _ hb hk hS1 => by
      rw [ht1] at hb
      exact kk H1 locs1 (tq_bits hP hD hi hj hb hk) (hD.set hj) hS1)
end KC
section KS
variable {p : Program} {l : Launch} {e : Env} {R : Room} {s : State} {m : MethodId} {args : Array Value} {below : List Frame} {meth : Method} {c : Code} {H : Heap} {locs : List Loc} {cells slots : Nat} {Q : State → Prop}
variable {cc bytes : ByteArray} {pc nL index maxL n : Nat} {ret : Option FieldType} {wy : List Cond} {rm : Room} {y : MethodName} {ls : Array Slot} {rest st0 As : List Value} {D : va_G} {A : Nat → Prop} {tys : List (ClassId × FieldType)} {ws : va_W} {H0 : Heap} {own C : String} {b : Nat}
/-- a method of the world's objects that reads -/
theorem ks_r {post : Int32 → Prop} (S : CallFix p m c cc nL s args wA own) (hM : Met l y wy rm (va_Pc (.ref b :: As) (tq_rB D vwA ws tys)) (va_Qi (fun r (_ : Unit) => post r) (fun _ _ => True) (fun _ => False)) 0 0 (fun _ => False)) (cw : CallW R s args own C index y bytes maxL ret wy rm 0 0 n) (hK : va_K D vwA tys s) (hP : va_P D vwA ws H) (hS : va_S A H0 H locs)
    (i ci : Nat) {fs : List Value} {T : u_T} {N : Nat} (hi : ws[i]? = some (b, .inr (ci, fs))) (hc : vwA[ci]? = some (C, T, N)) (hn : As.length = n) (hls : ls.size = nL) (hroom : (rest.map fun v => v.category).sum ≤ 8) (hcs : cells + 0 ≤ R.cells ∧ slots + 0 ≤ R.slots) (hdg : decode cc pc = .ok (.invokevirtual index, 3)) (hst : st0 = As.reverse ++ .ref b :: rest)
    (kk : ∀ (r : Int32) (H1 : Heap) (locs1 : List Loc), post r → va_P D vwA ws H1 → va_S A H0 H1 locs1 → W p l e R s m args below meth c H1 locs1 cells slots Q (F0 m (pc + 3) ls (.int r :: rest))) : W p l e R s m args below meth c H locs cells slots Q (F0 m pc ls st0) :=
  tq_rdi (va_runV (As := As) (rest := rest) S hM cw ⟨tq_rB_blind, va_recv hK hP (q := (C, T, N)) hc hi, fun U hU hW => ⟨rfl, by rw [hU]; exact hP, va_K.moved hW.alike hK⟩⟩ rfl hn hls hst (lv_room hroom) hdg hcs) hS hP kk
theorem ks_rv {v : Int32} (S : CallFix p m c cc nL s args wA own) (hM : Met l y wy rm (va_Pc (.ref b :: As) (tq_rB D vwA ws tys)) (va_Qi (fun r (_ : Unit) => r = v) (fun _ _ => True) (fun _ => False)) 0 0 (fun _ => False)) (cw : CallW R s args own C index y bytes maxL ret wy rm 0 0 n) (hK : va_K D vwA tys s) (hP : va_P D vwA ws H) (hS : va_S A H0 H locs)
    (i ci : Nat) {fs : List Value} {T : u_T} {N : Nat} (hi : ws[i]? = some (b, .inr (ci, fs))) (hc : vwA[ci]? = some (C, T, N)) (hn : As.length = n) (hls : ls.size = nL) (hroom : (rest.map fun v => v.category).sum ≤ 8) (hcs : cells + 0 ≤ R.cells ∧ slots + 0 ≤ R.slots) (hdg : decode cc pc = .ok (.invokevirtual index, 3)) (hst : st0 = As.reverse ++ .ref b :: rest)
    (kk : ∀ (H1 : Heap) (locs1 : List Loc), va_P D vwA ws H1 → va_S A H0 H1 locs1 → W p l e R s m args below meth c H1 locs1 cells slots Q (F0 m (pc + 3) ls (.int v :: rest))) : W p l e R s m args below meth c H locs cells slots Q (F0 m pc ls st0) :=
  ks_r S hM cw hK hP hS i ci hi hc hn hls hroom hcs hdg hst (fun r H1 locs1 hp h1 h2 => by subst hp; exact kk H1 locs1 h1 h2)
/-- a static method of numbers alone -/
theorem ks_s {v : Int32} (S : CallFix p m c cc nL s args wA own) (hM : Met l y wy rm (va_Pc As (fun _ => True)) (va_Qi (fun r (_ : Unit) => r = v) (fun _ _ => True) (fun _ => False)) 0 0 (fun _ => False)) (cw : CallB R s args own index y bytes maxL ret wy rm 0 0 n ∧ (Cond.static y).before args s = true) (hP : va_P D vwA ws H) (hS : va_S A H0 H locs)
    (hn : As.length = n) (hls : ls.size = nL) (hroom : (rest.map fun v => v.category).sum ≤ 8) (hcs : cells + 0 ≤ R.cells ∧ slots + 0 ≤ R.slots) (hdg : decode cc pc = .ok (.invokestatic index, 3)) (hst : st0 = As.reverse ++ rest)
    (kk : ∀ (H1 : Heap) (locs1 : List Loc), va_P D vwA ws H1 → va_S A H0 H1 locs1 → W p l e R s m args below meth c H1 locs1 cells slots Q (F0 m (pc + 3) ls (.int v :: rest))) : W p l e R s m args below meth c H locs cells slots Q (F0 m pc ls st0) :=
  tq_rdv (va_runS (As := As) (rest := rest) S hM cw ⟨fun _ _ _ _ q => q, fun U hU hW => ⟨rfl, trivial⟩⟩ rfl hn hls hst (lv_room hroom) hdg hcs) hS hP kk
/-- a method that changes the world from wf u to wf u', at the same addresses -/
theorem ks_v {U : Type} {wf : U → va_W} {u : U} {post : U → Prop} {AS : Nat → Prop} (S : CallFix p m c cc nL s args wA own) (hM : Met l y wy rm (va_Pc (.ref b :: As) (tq_wB D vwA (wf u) tys)) (va_Qv post (fun u' t => va_P D vwA (wf u') t.heap) AS) 0 0 AS) (cw : CallW R s args own C index y bytes maxL ret wy rm 0 0 n) (hK : va_K D vwA tys s) (hP : va_P D vwA (wf u) H) (hD : va_D A (wf u)) (hS : va_S A H0 H locs) (hAS : ∀ q, AS q → A q) (hadr : ∀ u', (wf u').map (fun x => x.1) = (wf u).map (fun x => x.1))
    (i ci : Nat) {fs : List Value} {T : u_T} {N : Nat} (hi : (wf u)[i]? = some (b, .inr (ci, fs))) (hc : vwA[ci]? = some (C, T, N)) (hn : As.length = n) (hls : ls.size = nL) (hroom : (rest.map fun v => v.category).sum ≤ 8) (hcs : cells + 0 ≤ R.cells ∧ slots + 0 ≤ R.slots) (hdg : decode cc pc = .ok (.invokevirtual index, 3)) (hst : st0 = As.reverse ++ .ref b :: rest)
    (kk : ∀ (u' : U) (H1 : Heap) (locs1 : List Loc), post u' → va_P D vwA (wf u') H1 → va_D A (wf u') → va_S A H0 H1 locs1 → W p l e R s m args below meth c H1 locs1 cells slots Q (F0 m (pc + 3) ls rest)) : W p l e R s m args below meth c H locs cells slots Q (F0 m pc ls st0) :=
  tq_wrv (va_runV (As := As) (rest := rest) S hM cw ⟨tq_wB_blind, va_recv hK hP (q := (C, T, N)) hc hi, fun U hU hW => ⟨rfl, by rw [hU]; exact hP, va_K.moved hW.alike hK, hD.weaken (fun _ _ _ _ => trivial)⟩⟩ rfl hn hls hst (lv_room hroom) hdg hcs) hS hAS
    (fun u' t H1 locs1 ht1 hp hb hk hS1 => by
      rw [ht1] at hb
      exact kk u' H1 locs1 hp hb (tq_D_adr hD (hadr u')) hS1)
theorem ks_i {U : Type} {wf : U → va_W} {u : U} {post : Int32 → U → Prop} {AS : Nat → Prop} (S : CallFix p m c cc nL s args wA own) (hM : Met l y wy rm (va_Pc (.ref b :: As) (tq_wB D vwA (wf u) tys)) (va_Qi post (fun u' t => va_P D vwA (wf u') t.heap) AS) 0 0 AS) (cw : CallW R s args own C index y bytes maxL ret wy rm 0 0 n) (hK : va_K D vwA tys s) (hP : va_P D vwA (wf u) H) (hD : va_D A (wf u)) (hS : va_S A H0 H locs) (hAS : ∀ q, AS q → A q) (hadr : ∀ u', (wf u').map (fun x => x.1) = (wf u).map (fun x => x.1))
    (i ci : Nat) {fs : List Value} {T : u_T} {N : Nat} (hi : (wf u)[i]? = some (b, .inr (ci, fs))) (hc : vwA[ci]? = some (C, T, N)) (hn : As.length = n) (hls : ls.size = nL) (hroom : (rest.map fun v => v.category).sum ≤ 8) (hcs : cells + 0 ≤ R.cells ∧ slots + 0 ≤ R.slots) (hdg : decode cc pc = .ok (.invokevirtual index, 3)) (hst : st0 = As.reverse ++ .ref b :: rest)
    (kk : ∀ (r : Int32) (u' : U) (H1 : Heap) (locs1 : List Loc), post r u' → va_P D vwA (wf u') H1 → va_D A (wf u') → va_S A H0 H1 locs1 → W p l e R s m args below meth c H1 locs1 cells slots Q (F0 m (pc + 3) ls (.int r :: rest))) : W p l e R s m args below meth c H locs cells slots Q (F0 m pc ls st0) :=
  tq_wri (va_runV (As := As) (rest := rest) S hM cw ⟨tq_wB_blind, va_recv hK hP (q := (C, T, N)) hc hi, fun U hU hW => ⟨rfl, by rw [hU]; exact hP, va_K.moved hW.alike hK, hD.weaken (fun _ _ _ _ => trivial)⟩⟩ rfl hn hls hst (lv_room hroom) hdg hcs) hS hAS
    (fun r u' t H1 locs1 ht1 hp hb hk hS1 => by
      rw [ht1] at hb
      exact kk r u' H1 locs1 hp hb (tq_D_adr hD (hadr u')) hS1)
end KS
