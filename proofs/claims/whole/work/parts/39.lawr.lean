/-! The law's world: the class's, the array of answers, the model's; calls out of it; what class and model then have in common. -/
def lW (a : Nat → Nat) (o : Nat) (b : Nat → Nat) (kI kL kZ : ClassId) (u : sU) (f : Nat → Int64) (v : sU) : va_W := sW a kI kL kZ u ++ ([(o, .inl (kL, 1, .inr (.inl f)))] ++ (mW b kI kL kZ v ++ []))
theorem lW_m {a : Nat → Nat} {o : Nat} {b : Nat → Nat} {kI kL kZ : ClassId} {u : sU} {f : Nat → Int64} {v : sU} : lW a o b kI kL kZ u f v = hW a o kI kL kZ (u, f) ++ (mW b kI kL kZ v ++ []) := (List.append_assoc _ _ _).symm
theorem hW_adr {a : Nat → Nat} {o : Nat} {kI kL kZ : ClassId} {w : sU × (Nat → Int64)} (w' : sU × (Nat → Int64)) : (hW a o kI kL kZ w').map (fun x => x.1) = (hW a o kI kL kZ w).map (fun x => x.1) := by
  unfold hW
  rw [List.map_append, List.map_append, sW_adr0, sW_adr0]
  rfl
def lw_J (u v : sU) : Prop := ∃ (N : Nat) (kd fa fb : Nat → Nat) (T : Nat) (so xa xb xc : Nat → Nat) (F : Nat → Prop) (M : Nat) (rs : Nat → Nat), s_inv u N kd fa fb T so xa xb xc F M rs ∧ m_inv v N kd fa fb T so xa xb xc F M rs
def lw_C (p : Program) (l : Launch) (R : Room) (s : State) (m : MethodId) (args : Array Value) (c : Code) (b0 L : Nat) (xs : Nat → Int32) (D : va_G) (kI kL kZ : ClassId) : Prop :=
  p.tables.exec = Jvm.exec ∧ c.code = code ∧ c.maxLocals = 7 ∧ s.vm.findClass RcL = some m.cls ∧ (∀ w ∈ wA, w.before args s = true) ∧ va_X b0 L xs s s.heap ∧ b0 < s.heap.size ∧ va_K D vwA (sT kI kL kZ) s ∧ tq_X s ∧ l.stackTraces = false ∧ 11 ≤ R.frames ∧ 398 ≤ R.locals
section KL
variable {p : Program} {l : Launch} {e : Env} {R : Room} {s : State} {m : MethodId} {args : Array Value} {below : List Frame} {meth : Method} {c : Code} {H : Heap} {locs : List Loc} {cells slots : Nat} {Q : State → Prop}
variable {cc bytes : ByteArray} {pc nL index maxL n mc ms : Nat} {ret : Option FieldType} {wy : List Cond} {rm : Room} {y : MethodName} {ls : Array Slot} {rest st0 As : List Value} {D : va_G} {A : Nat → Prop} {H0 : Heap} {own : String} {hh : List (Nat × Nat × Nat × Nat)}
variable {a b : Nat → Nat} {o : Nat} {kI kL kZ : ClassId} {u v : sU} {f : Nat → Int64}
theorem kl_S {post : Int32 → sU → Prop} (S : CallFix p m c cc nL s args wA own) (hM : Met l y wy rm (va_Pc (.ref (a 0) :: As) (tq_wB D vwA (sW a kI kL kZ u) (sT kI kL kZ))) (va_Qi post (fun u' t => va_P D vwA (sW a kI kL kZ u') t.heap) (sA a)) 0 0 (sA a)) (cw : CallW R s args own RcS index y bytes maxL ret wy rm 0 0 n) (hK : va_K D vwA (sT kI kL kZ) s) (hP : va_P D vwA (lW a o b kI kL kZ u f v) H) (hD : va_D A (lW a o b kI kL kZ u f v)) (hS : va_S A H0 H locs)
    (hn : As.length = n) (hls : ls.size = nL) (hroom : (rest.map fun v => v.category).sum ≤ 8) (hcs : cells + 0 ≤ R.cells ∧ slots + 0 ≤ R.slots) (hdg : decode cc pc = .ok (.invokevirtual index, 3)) (hst : st0 = As.reverse ++ .ref (a 0) :: rest)
    (kk : ∀ (r : Int32) (u' : sU) (H1 : Heap) (locs1 : List Loc), post r u' → va_P D vwA (lW a o b kI kL kZ u' f v) H1 → va_D A (lW a o b kI kL kZ u' f v) → va_S A H0 H1 locs1 → W p l e R s m args below meth c H1 locs1 cells slots Q (F0 m (pc + 3) ls (.int r :: rest))) : W p l e R s m args below meth c H locs cells slots Q (F0 m pc ls st0) :=
  kp_i (X := []) (wf := sW a kI kL kZ) (u := u) (Z := [(o, .inl (kL, 1, .inr (.inl f)))] ++ (mW b kI kL kZ v ++ [])) S hM cw hK hP hD hS (fun _ h => h) (fun u' => sW_adr u') 0 4 rfl rfl hn hls hroom hcs hdg hst kk
theorem kl_M {post : Int32 → sU → Prop} (S : CallFix p m c cc nL s args wA own) (hM : Met l y wy rm (va_Pc (.ref (b 0) :: As) (tq_wB D vwA (mW b kI kL kZ v) (sT kI kL kZ))) (va_Qi post (fun u' t => va_P D vwA (mW b kI kL kZ u') t.heap) (mA b)) 0 0 (mA b)) (cw : CallW R s args own RcM index y bytes maxL ret wy rm 0 0 n) (hK : va_K D vwA (sT kI kL kZ) s) (hP : va_P D vwA (lW a o b kI kL kZ u f v) H) (hD : va_D A (lW a o b kI kL kZ u f v)) (hS : va_S A H0 H locs)
    (hn : As.length = n) (hls : ls.size = nL) (hroom : (rest.map fun v => v.category).sum ≤ 8) (hcs : cells + 0 ≤ R.cells ∧ slots + 0 ≤ R.slots) (hdg : decode cc pc = .ok (.invokevirtual index, 3)) (hst : st0 = As.reverse ++ .ref (b 0) :: rest)
    (kk : ∀ (r : Int32) (v' : sU) (H1 : Heap) (locs1 : List Loc), post r v' → va_P D vwA (lW a o b kI kL kZ u f v') H1 → va_D A (lW a o b kI kL kZ u f v') → va_S A H0 H1 locs1 → W p l e R s m args below meth c H1 locs1 cells slots Q (F0 m (pc + 3) ls (.int r :: rest))) : W p l e R s m args below meth c H locs cells slots Q (F0 m pc ls st0) := by
  rw [lW_m] at hP hD
  exact kp_i (X := hW a o kI kL kZ (u, f)) (wf := mW b kI kL kZ) (u := v) (Z := []) S hM cw hK hP hD hS (fun _ h => h) (fun u' => mW_adr u') 0 5 rfl rfl hn hls hroom hcs hdg hst (fun r v' H1 locs1 hp hP1 hD1 hS1 => kk r v' H1 locs1 hp (by rw [lW_m]; exact hP1) (by rw [lW_m]; exact hD1) hS1)
theorem kl_T {x : Int32} (S : CallFix p m c cc nL s args wA own) (hM : Met l y wy rm (va_Pc (.ref (b 0) :: As) (tq_rB D vwA (mW b kI kL kZ v) (sT kI kL kZ))) (va_Qi (fun r (_ : Unit) => r = x) (fun _ _ => True) (fun _ => False)) 0 0 (fun _ => False)) (cw : CallW R s args own RcM index y bytes maxL ret wy rm 0 0 n) (hK : va_K D vwA (sT kI kL kZ) s) (hP : va_P D vwA (lW a o b kI kL kZ u f v) H) (hS : va_S A H0 H locs)
    (hn : As.length = n) (hls : ls.size = nL) (hroom : (rest.map fun v => v.category).sum ≤ 8) (hcs : cells + 0 ≤ R.cells ∧ slots + 0 ≤ R.slots) (hdg : decode cc pc = .ok (.invokevirtual index, 3)) (hst : st0 = As.reverse ++ .ref (b 0) :: rest)
    (kk : ∀ (H1 : Heap) (locs1 : List Loc), va_P D vwA (lW a o b kI kL kZ u f v) H1 → va_S A H0 H1 locs1 → W p l e R s m args below meth c H1 locs1 cells slots Q (F0 m (pc + 3) ls (.int x :: rest))) : W p l e R s m args below meth c H locs cells slots Q (F0 m pc ls st0) := by
  rw [lW_m] at hP
  exact kp_rv (X := hW a o kI kL kZ (u, f)) (Y := mW b kI kL kZ v) (Z := []) S hM cw hK hP hS 0 5 rfl rfl hn hls hroom hcs hdg hst (fun H1 locs1 hP1 hS1 => kk H1 locs1 (by rw [lW_m]; exact hP1) hS1)
theorem hA9_A {w : sU × (Nat → Int64)} {Z : va_W} (hD : va_D A (hW a o kI kL kZ w ++ Z)) : ∀ q, hA9 a o q → A q := fun q z => by
  obtain ⟨k, q', hk, e'⟩ := ad_in (X := hW a o kI kL kZ w) z
  rw [← e']
  exact (da_l hD).2 k q' hk
theorem kl_H {post : Int32 → sU × (Nat → Int64) → Prop} (S : CallFix p m c cc nL s args wA own) (hM : Met l y wy rm (va_Pc As (tq_wB D vwA (hW a o kI kL kZ (u, f)) (sT kI kL kZ))) (va_Qi post (fun w t => va_P D vwA (hW a o kI kL kZ w) t.heap) (hA9 a o)) 0 0 (hA9 a o)) (cw : lk_CB R s args own index y bytes maxL ret hh wy rm 0 0 n) (hK : va_K D vwA (sT kI kL kZ) s) (hP : va_P D vwA (lW a o b kI kL kZ u f v) H) (hD : va_D A (lW a o b kI kL kZ u f v)) (hS : va_S A H0 H locs)
    (hn : As.length = n) (hls : ls.size = nL) (hroom : (rest.map fun v => v.category).sum ≤ 8) (hcs : cells + 0 ≤ R.cells ∧ slots + 0 ≤ R.slots) (hdg : decode cc pc = .ok (.invokestatic index, 3)) (hst : st0 = As.reverse ++ rest)
    (kk : ∀ (r : Int32) (w : sU × (Nat → Int64)) (H1 : Heap) (locs1 : List Loc), post r w → va_P D vwA (lW a o b kI kL kZ w.1 w.2 v) H1 → va_D A (lW a o b kI kL kZ w.1 w.2 v) → va_S A H0 H1 locs1 → W p l e R s m args below meth c H1 locs1 cells slots Q (F0 m (pc + 3) ls (.int r :: rest))) : W p l e R s m args below meth c H locs cells slots Q (F0 m pc ls st0) := by
  rw [lW_m] at hP hD
  exact va_calli (lk_runS (As := As) (rest := rest) S hM cw ⟨tq_wB_blind, fun U hU hW => ⟨rfl, by rw [hU]; exact pa_l hP, va_K.moved hW.alike hK, (da_l hD).weaken (fun _ _ _ _ => trivial)⟩⟩ hn hls hst hroom hdg hcs) hS (fun q _ z => hA9_A hD q z) (fun q z => hA9_A hD q z)
    (fun r w t H1 locs1 ht1 _ hp hb _ hk hS1 => by
      rw [ht1] at hb
      exact kk r w H1 locs1 hp (by rw [lW_m]; exact mid_P (X := []) (Y := hW a o kI kL kZ (u, f)) (Y' := hW a o kI kL kZ w) (Z := mW b kI kL kZ v ++ []) (A := A) (B := hA9 a o) hP hD (fun _ h => h) hk hb) (by rw [lW_m]; exact mid_D (X := []) (Y := hW a o kI kL kZ (u, f)) (Y' := hW a o kI kL kZ w) (Z := mW b kI kL kZ v ++ []) (A := A) hD (hW_adr w)) hS1)
theorem kl_B {post : Int32 → sU × (Nat → Int64) → Prop} (S : CallFix p m c cc nL s args wA own) (hM : Met l y wy rm (va_Pc As (tq_wX D vwA (hW a o kI kL kZ (u, f)) (sT kI kL kZ))) (va_Qi post (fun w t => va_P D vwA (hW a o kI kL kZ w) t.heap) (hA9 a o)) mc ms (hA9 a o)) (cw : lk_CB R s args own index y bytes maxL ret hh wy rm mc ms n) (hK : va_K D vwA (sT kI kL kZ) s) (hX : ∀ U : State, U.heap = H → s.WarmedH U.vm → tq_X U) (hP : va_P D vwA (lW a o b kI kL kZ u f v) H) (hD : va_D A (lW a o b kI kL kZ u f v)) (hS : va_S A H0 H locs)
    (hn : As.length = n) (hls : ls.size = nL) (hroom : (rest.map fun v => v.category).sum ≤ 8) (hcs : cells + mc ≤ R.cells ∧ slots + ms ≤ R.slots) (hdg : decode cc pc = .ok (.invokestatic index, 3)) (hst : st0 = As.reverse ++ rest)
    (kk : ∀ (r : Int32) (w : sU × (Nat → Int64)) (H1 : Heap) (locs1 : List Loc), post r w → va_P D vwA (lW a o b kI kL kZ w.1 w.2 v) H1 → va_D A (lW a o b kI kL kZ w.1 w.2 v) → va_S A H0 H1 locs1 → W p l e R s m args below meth c H1 locs1 (cells + mc) (slots + ms) Q (F0 m (pc + 3) ls (.int r :: rest))) : W p l e R s m args below meth c H locs cells slots Q (F0 m pc ls st0) := by
  rw [lW_m] at hP hD
  exact va_calli (lk_runS (As := As) (rest := rest) S hM cw ⟨tq_wX_blind, fun U hU hW => ⟨rfl, by rw [hU]; exact pa_l hP, va_K.moved hW.alike hK, (da_l hD).weaken (fun _ _ _ _ => trivial), hX U hU hW⟩⟩ hn hls hst hroom hdg hcs) hS (fun q _ z => hA9_A hD q z) (fun q z => hA9_A hD q z)
    (fun r w t H1 locs1 ht1 _ hp hb _ hk hS1 => by
      rw [ht1] at hb
      exact kk r w H1 locs1 hp (by rw [lW_m]; exact mid_P (X := []) (Y := hW a o kI kL kZ (u, f)) (Y' := hW a o kI kL kZ w) (Z := mW b kI kL kZ v ++ []) (A := A) (B := hA9 a o) hP hD (fun _ h => h) hk hb) (by rw [lW_m]; exact mid_D (X := []) (Y := hW a o kI kL kZ (u, f)) (Y' := hW a o kI kL kZ w) (Z := mW b kI kL kZ v ++ []) (A := A) hD (hW_adr w)) hS1)
end KL
section JJ
variable {u v : sU} {N : Nat} {kd fa fb : Nat → Nat} {T : Nat} {so xa xb xc : Nat → Nat} {F : Nat → Prop} {M : Nat} {rs : Nat → Nat} {r r2 : Int32}
theorem j_nm (h : ∃ N' kd', z_nm N kd r N' kd' ∧ s_inv u N' kd' fa fb T so xa xb xc F M rs) (k : ∃ N' kd', z_nm N kd r2 N' kd' ∧ m_inv v N' kd' fa fb T so xa xb xc F M rs) : r = r2 ∧ lw_J u v := by
  obtain ⟨N1, kd1, h1, h2⟩ := h
  obtain ⟨N2, kd2, k1, k2⟩ := k
  obtain ⟨e, e1, e2⟩ := nm_uniq h1 k1
  subst e1; subst e2
  exact ⟨e, _, _, _, _, _, _, _, _, _, _, _, _, h2, k2⟩
theorem j_mk {u' : sU} {g x y : Nat} (hI : s_inv u' N kd fa fb T so xa xb xc F M rs) (hg : 2 ≤ g) (h : ∃ N' kd' fa' fb', z_mk N kd fa fb g x y r N' kd' fa' fb' ∧ s_inv u N' kd' fa' fb' T so xa xb xc F M rs) (k : ∃ N' kd' fa' fb', z_mk N kd fa fb g x y r2 N' kd' fa' fb' ∧ m_inv v N' kd' fa' fb' T so xa xb xc F M rs) : r = r2 ∧ lw_J u v := by
  obtain ⟨N1, kd1, fa1, fb1, h1, h2⟩ := h
  obtain ⟨N2, kd2, fa2, fb2, k1, k2⟩ := k
  obtain ⟨e, e1, e2, e3, e4⟩ := mk_uniq (fun k j a b c d f g => tm_u hI.1.1.1 a b c d f g) hg h1 k1
  subst e1; subst e2; subst e3; subst e4
  exact ⟨e, _, _, _, _, _, _, _, _, _, _, _, _, h2, k2⟩
theorem j_tl {g x y z : Nat} (h : ∃ T' so' xa' xb' xc' F', z_tl T so xa xb xc F g x y z r T' so' xa' xb' xc' F' ∧ s_inv u N kd fa fb T' so' xa' xb' xc' F' M rs) (k : ∃ T' so' xa' xb' xc' F', z_tl T so xa xb xc F g x y z r2 T' so' xa' xb' xc' F' ∧ m_inv v N kd fa fb T' so' xa' xb' xc' F' M rs) : r = r2 ∧ lw_J u v := by
  obtain ⟨T1, so1, xa1, xb1, xc1, F1, h1, h2⟩ := h
  obtain ⟨T2, so2, xa2, xb2, xc2, F2, k1, k2⟩ := k
  obtain ⟨e, e1, e2, e3, e4, e5, e6⟩ := tl_uniq h1 k1
  subst e1; subst e2; subst e3; subst e4; subst e5; subst e6
  exact ⟨e, _, _, _, _, _, _, _, _, _, _, _, _, h2, k2⟩
theorem j_rt {x : Int32} (hF : ∀ k, F k → k ≤ 100) (h : ∃ F', z_rt F x r F' ∧ s_inv u N kd fa fb T so xa xb xc F' M rs) (k : ∃ F', z_rt F x r2 F' ∧ m_inv v N kd fa fb T so xa xb xc F' M rs) : r = r2 ∧ lw_J u v := by
  obtain ⟨F1, h1, h2⟩ := h
  obtain ⟨F2, k1, k2⟩ := k
  obtain ⟨e, e1⟩ := rt_uniq hF h1 k1
  subst e1
  exact ⟨e, _, _, _, _, _, _, _, _, _, _, _, _, h2, k2⟩
theorem j_eq {x : Int32} (h : r = x ∧ s_inv u N kd fa fb T so xa xb xc F M rs) (k : r2 = x ∧ m_inv v N kd fa fb T so xa xb xc F M rs) : r = r2 ∧ lw_J u v := ⟨h.1.trans k.1.symm, _, _, _, _, _, _, _, _, _, _, _, _, h.2, k.2⟩
theorem j_sup {q : Nat → Bool} {x : Int32} (hN : N ≤ 160) (h : q_sup q N x r ∧ s_inv u N kd fa fb T so xa xb xc F M rs) (k : q_sup q N x r2 ∧ m_inv v N kd fa fb T so xa xb xc F M rs) : r = r2 ∧ lw_J u v := ⟨sup_uniq hN h.1 k.1, _, _, _, _, _, _, _, _, _, _, _, _, h.2, k.2⟩
theorem j_rs {x : Int32} (hM : M ≤ 100) (h : z_rs M rs x r ∧ s_inv u N kd fa fb T so xa xb xc F M rs) (k : z_rs M rs x r2 ∧ m_inv v N kd fa fb T so xa xb xc F M rs) : r = r2 ∧ lw_J u v := ⟨rs_uniq hM h.1 k.1, _, _, _, _, _, _, _, _, _, _, _, _, h.2, k.2⟩
theorem j_wy {d d2 : Nat} (h : ∃ M' rs', z_wy N kd fa fb so xa xb xc F T d d2 r M' rs' ∧ s_inv u N kd fa fb T so xa xb xc F M' rs') (k : ∃ M' rs', z_wy N kd fa fb so xa xb xc F T d d2 r2 M' rs' ∧ m_inv v N kd fa fb T so xa xb xc F M' rs') : r = r2 ∧ lw_J u v := by
  obtain ⟨M1, rs1, h1, h2⟩ := h
  obtain ⟨M2, rs2, k1, k2⟩ := k
  obtain ⟨e, e1, e2⟩ := wy_uniq h1 k1
  subst e1
  obtain ⟨a1, a2, a3, a4, a5, a6, a7, a8, a9⟩ := k2
  exact ⟨e, _, _, _, _, _, _, _, _, _, _, _, _, h2, a1, a2, a3, a4, a5, a6, a7, a8, fun i hi => by rw [e2 i hi]; exact a9 i hi⟩
end JJ
