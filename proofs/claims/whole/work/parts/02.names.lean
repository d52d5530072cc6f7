/-! Names: classes, fields, methods; the words of the tables by their places; rows of fields and calls. Written by wip/whole/gen/mknames.py. -/
theorem tb_1 {w : Cond} (h : w ∈ tables_1_1) : w ∈ lw_tbl := List.mem_append_right _ (List.mem_append_left _ h)
theorem tb_2 {w : Cond} (h : w ∈ tables_1_2) : w ∈ lw_tbl := List.mem_append_right _ (List.mem_append_right _ (List.mem_append_left _ h))
theorem tb_3 {w : Cond} (h : w ∈ tables_1_3) : w ∈ lw_tbl := List.mem_append_right _ (List.mem_append_right _ (List.mem_append_right _ (List.mem_append_left _ h)))
theorem tb_4 {w : Cond} (h : w ∈ tables_1_4) : w ∈ lw_tbl := List.mem_append_right _ (List.mem_append_right _ (List.mem_append_right _ (List.mem_append_right _ (h))))
theorem tb_p1 {w : Cond} (h : w ∈ k2_sels lw_privs_1) : w ∈ lw_tbl := by
  refine List.mem_append_left _ ?_
  obtain ⟨q, hq, e⟩ := List.mem_map.mp h
  exact List.mem_map.mpr ⟨q, (show q ∈ lw_privs from (by unfold lw_privs; exact List.mem_append_left _ hq)), e⟩
theorem tb_p2 {w : Cond} (h : w ∈ k2_sels lw_privs_2) : w ∈ lw_tbl := by
  refine List.mem_append_left _ ?_
  obtain ⟨q, hq, e⟩ := List.mem_map.mp h
  exact List.mem_map.mpr ⟨q, (show q ∈ lw_privs from (by unfold lw_privs; exact List.mem_append_right _ (List.mem_append_left _ hq))), e⟩
theorem tb_p3 {w : Cond} (h : w ∈ k2_sels lw_privs_3) : w ∈ lw_tbl := by
  refine List.mem_append_left _ ?_
  obtain ⟨q, hq, e⟩ := List.mem_map.mp h
  exact List.mem_map.mpr ⟨q, (show q ∈ lw_privs from (by unfold lw_privs; exact List.mem_append_right _ (List.mem_append_right _ (hq)))), e⟩
def wA : List Cond := lw_tbl.filter goodWord
theorem wA_m {w : Cond} (h : w ∈ lw_tbl) (g : goodWord w = true) : w ∈ wA := List.mem_filter.mpr ⟨h, g⟩
theorem wA_tbl {w : Cond} (h : w ∈ wA) : w ∈ lw_tbl := (List.mem_filter.mp h).1
theorem wA_good : GoodIn wA wA := fun w h => ⟨h, good_of_word (List.mem_filter.mp h).2⟩
theorem gdC {w : Cond} (h : w ∈ wA) : GoodIn wA (w :: wA) := fun v hv => (List.mem_cons.mp hv).elim (fun q => q ▸ wA_good w h) (wA_good v)
theorem gdV {own C : String} {i : Nat} {y : MethodName} {w : Cond} (h1 : .methodLink own i y ∈ wA) (h2 : .instanceMethod y ∈ wA) (h3 : .selects C y y ∈ wA) (h4 : .initialized C ∈ wA) (h5 : w ∈ wA) : GoodIn wA (wsV own i C y (w :: wA)) := by
  intro v hv
  rcases List.mem_append.mp hv with h | h
  · simp only [List.mem_cons, List.not_mem_nil, or_false] at h
    rcases h with rfl | rfl | rfl | rfl
    · exact wA_good _ h1
    · exact wA_good _ h2
    · exact wA_good _ h3
    · exact wA_good _ h4
  · exact gdC h5 v h
theorem gdS {own : String} {i : Nat} {y : MethodName} {w : Cond} (h1 : .methodLink own i y ∈ wA) (h2 : .static y ∈ wA) (h3 : .initialized own ∈ wA) (h5 : w ∈ wA) : GoodIn wA (wsS own i y (w :: wA)) := by
  intro v hv
  rcases List.mem_append.mp hv with h | h
  · simp only [List.mem_cons, List.not_mem_nil, or_false] at h
    rcases h with rfl | rfl | rfl
    · exact wA_good _ h1
    · exact wA_good _ h2
    · exact wA_good _ h3
  · exact gdC h5 v h
def RcB : String := "TermServer$Bits"
def FcB : u_T := fun k => match k with
  | 0 => ("TermServer$Bits", "width", "I", true)
  | 1 => ("TermServer$Bits", "wordsARow", "I", true)
  | _ => ("TermServer$Bits", "words", "[J", true)
def tcB : Nat → FieldType := fun k => match k with
  | 0 => .int
  | 1 => .int
  | _ => .array .long
theorem nmB : ∀ a, a < 3 → ∀ b, b < 3 → a ≠ b → (FcB a).2.1 ≠ (FcB b).2.1 := by decide +kernel
theorem okB : ∀ k, k < 3 → parseFieldDescriptor (FcB k).2.2.1 = some (tcB k) := by decide +kernel
theorem inB : ∀ w ∈ u_ws RcB FcB 3, w ∈ wA := fun w h => wA_m (List.mem_append_right _ ((by decide +kernel : ∀ w ∈ u_ws RcB FcB 3, w ∈ tables_1) w h)) ((by decide +kernel : ∀ w ∈ u_ws RcB FcB 3, goodWord w = true) w h)
def RcT : String := "TermServer$Terms"
def FcT : u_T := fun k => match k with
  | 0 => ("TermServer$Terms", "kinds", "[I", true)
  | 1 => ("TermServer$Terms", "lefts", "[I", true)
  | 2 => ("TermServer$Terms", "rights", "[I", true)
  | 3 => ("TermServer$Terms", "somes", "[I", true)
  | 4 => ("TermServer$Terms", "boths", "LTermServer$Bits;", true)
  | 5 => ("TermServer$Terms", "fillers", "LTermServer$Bits;", true)
  | 6 => ("TermServer$Terms", "size", "I", false)
  | _ => ("TermServer$Terms", "names", "I", false)
def tcT : Nat → FieldType := fun k => match k with
  | 0 => .array .int
  | 1 => .array .int
  | 2 => .array .int
  | 3 => .array .int
  | 4 => .object "TermServer$Bits"
  | 5 => .object "TermServer$Bits"
  | 6 => .int
  | _ => .int
theorem nmT : ∀ a, a < 8 → ∀ b, b < 8 → a ≠ b → (FcT a).2.1 ≠ (FcT b).2.1 := by decide +kernel
theorem okT : ∀ k, k < 8 → parseFieldDescriptor (FcT k).2.2.1 = some (tcT k) := by decide +kernel
theorem inT : ∀ w ∈ u_ws RcT FcT 8, w ∈ wA := fun w h => wA_m (List.mem_append_right _ ((by decide +kernel : ∀ w ∈ u_ws RcT FcT 8, w ∈ tables_1) w h)) ((by decide +kernel : ∀ w ∈ u_ws RcT FcT 8, goodWord w = true) w h)
def RcA : String := "TermServer$Axioms"
def FcA : u_T := fun k => match k with
  | 0 => ("TermServer$Axioms", "kinds", "[I", true)
  | 1 => ("TermServer$Axioms", "firsts", "[I", true)
  | 2 => ("TermServer$Axioms", "seconds", "[I", true)
  | 3 => ("TermServer$Axioms", "thirds", "[I", true)
  | 4 => ("TermServer$Axioms", "takenBack", "[Z", true)
  | 5 => ("TermServer$Axioms", "told", "I", false)
  | _ => ("TermServer$Axioms", "inForce", "I", false)
def tcA : Nat → FieldType := fun k => match k with
  | 0 => .array .int
  | 1 => .array .int
  | 2 => .array .int
  | 3 => .array .int
  | 4 => .array .boolean
  | 5 => .int
  | _ => .int
theorem nmA : ∀ a, a < 7 → ∀ b, b < 7 → a ≠ b → (FcA a).2.1 ≠ (FcA b).2.1 := by decide +kernel
theorem okA : ∀ k, k < 7 → parseFieldDescriptor (FcA k).2.2.1 = some (tcA k) := by decide +kernel
theorem inA : ∀ w ∈ u_ws RcA FcA 7, w ∈ wA := fun w h => wA_m (List.mem_append_right _ ((by decide +kernel : ∀ w ∈ u_ws RcA FcA 7, w ∈ tables_1) w h)) ((by decide +kernel : ∀ w ∈ u_ws RcA FcA 7, goodWord w = true) w h)
def RcC : String := "TermServer$Closure"
def FcC : u_T := fun k => match k with
  | 0 => ("TermServer$Closure", "terms", "LTermServer$Terms;", true)
  | 1 => ("TermServer$Closure", "axioms", "LTermServer$Axioms;", true)
  | 2 => ("TermServer$Closure", "facts", "LTermServer$Bits;", true)
  | 3 => ("TermServer$Closure", "sources", "LTermServer$Bits;", true)
  | 4 => ("TermServer$Closure", "fresh", "LTermServer$Bits;", true)
  | 5 => ("TermServer$Closure", "freshRows", "LTermServer$Bits;", true)
  | 6 => ("TermServer$Closure", "toldAbove", "LTermServer$Bits;", true)
  | 7 => ("TermServer$Closure", "toldRoles", "LTermServer$Bits;", true)
  | 8 => ("TermServer$Closure", "toldChains", "LTermServer$Bits;", true)
  | 9 => ("TermServer$Closure", "admitted", "I", false)
  | 10 => ("TermServer$Closure", "heard", "I", false)
  | _ => ("TermServer$Closure", "spoiled", "Z", false)
def tcC : Nat → FieldType := fun k => match k with
  | 0 => .object "TermServer$Terms"
  | 1 => .object "TermServer$Axioms"
  | 2 => .object "TermServer$Bits"
  | 3 => .object "TermServer$Bits"
  | 4 => .object "TermServer$Bits"
  | 5 => .object "TermServer$Bits"
  | 6 => .object "TermServer$Bits"
  | 7 => .object "TermServer$Bits"
  | 8 => .object "TermServer$Bits"
  | 9 => .int
  | 10 => .int
  | _ => .boolean
theorem nmC : ∀ a, a < 12 → ∀ b, b < 12 → a ≠ b → (FcC a).2.1 ≠ (FcC b).2.1 := by decide +kernel
theorem okC : ∀ k, k < 12 → parseFieldDescriptor (FcC k).2.2.1 = some (tcC k) := by decide +kernel
theorem inC : ∀ w ∈ u_ws RcC FcC 12, w ∈ wA := fun w h => wA_m (List.mem_append_right _ ((by decide +kernel : ∀ w ∈ u_ws RcC FcC 12, w ∈ tables_1) w h)) ((by decide +kernel : ∀ w ∈ u_ws RcC FcC 12, goodWord w = true) w h)
def RcS : String := "TermServer"
def FcS : u_T := fun k => match k with
  | 0 => ("TermServer", "terms", "LTermServer$Terms;", true)
  | 1 => ("TermServer", "axioms", "LTermServer$Axioms;", true)
  | 2 => ("TermServer", "closure", "LTermServer$Closure;", true)
  | 3 => ("TermServer", "reasons", "[I", true)
  | _ => ("TermServer", "reasonCount", "I", false)
def tcS : Nat → FieldType := fun k => match k with
  | 0 => .object "TermServer$Terms"
  | 1 => .object "TermServer$Axioms"
  | 2 => .object "TermServer$Closure"
  | 3 => .array .int
  | _ => .int
theorem nmS : ∀ a, a < 5 → ∀ b, b < 5 → a ≠ b → (FcS a).2.1 ≠ (FcS b).2.1 := by decide +kernel
theorem okS : ∀ k, k < 5 → parseFieldDescriptor (FcS k).2.2.1 = some (tcS k) := by decide +kernel
theorem inS : ∀ w ∈ u_ws RcS FcS 5, w ∈ wA := fun w h => wA_m (List.mem_append_right _ ((by decide +kernel : ∀ w ∈ u_ws RcS FcS 5, w ∈ tables_1) w h)) ((by decide +kernel : ∀ w ∈ u_ws RcS FcS 5, goodWord w = true) w h)
def RcM : String := "TermServerModel"
def FcM : u_T := fun k => match k with
  | 0 => ("TermServerModel", "thrown", "I", false)
  | 1 => ("TermServerModel", "size", "I", false)
  | 2 => ("TermServerModel", "kinds", "[I", true)
  | 3 => ("TermServerModel", "firsts", "[I", true)
  | 4 => ("TermServerModel", "seconds", "[I", true)
  | 5 => ("TermServerModel", "told", "I", false)
  | 6 => ("TermServerModel", "sorts", "[I", true)
  | 7 => ("TermServerModel", "as", "[I", true)
  | 8 => ("TermServerModel", "bs", "[I", true)
  | 9 => ("TermServerModel", "cs", "[I", true)
  | 10 => ("TermServerModel", "force", "[Z", true)
  | 11 => ("TermServerModel", "used", "[Z", true)
  | 12 => ("TermServerModel", "closed", "Z", false)
  | 13 => ("TermServerModel", "more", "Z", false)
  | 14 => ("TermServerModel", "above", "[J", true)
  | 15 => ("TermServerModel", "below", "[J", true)
  | 16 => ("TermServerModel", "leads", "[J", true)
  | 17 => ("TermServerModel", "many", "I", false)
  | _ => ("TermServerModel", "reasons", "[I", true)
def tcM : Nat → FieldType := fun k => match k with
  | 0 => .int
  | 1 => .int
  | 2 => .array .int
  | 3 => .array .int
  | 4 => .array .int
  | 5 => .int
  | 6 => .array .int
  | 7 => .array .int
  | 8 => .array .int
  | 9 => .array .int
  | 10 => .array .boolean
  | 11 => .array .boolean
  | 12 => .boolean
  | 13 => .boolean
  | 14 => .array .long
  | 15 => .array .long
  | 16 => .array .long
  | 17 => .int
  | _ => .array .int
theorem nmM : ∀ a, a < 19 → ∀ b, b < 19 → a ≠ b → (FcM a).2.1 ≠ (FcM b).2.1 := by decide +kernel
theorem okM : ∀ k, k < 19 → parseFieldDescriptor (FcM k).2.2.1 = some (tcM k) := by decide +kernel
theorem inM : ∀ w ∈ u_ws RcM FcM 19, w ∈ wA := fun w h => wA_m (List.mem_append_right _ ((by decide +kernel : ∀ w ∈ u_ws RcM FcM 19, w ∈ tables_1) w h)) ((by decide +kernel : ∀ w ∈ u_ws RcM FcM 19, goodWord w = true) w h)
def RcL : String := "TermServerLaw"
def RcJl : String := "java/lang/Long"
def RcJa : String := "java/util/Arrays"
def RcJm : String := "java/lang/Math"
abbrev vwA : List vw_C := [(RcB, FcB, 3), (RcT, FcT, 8), (RcA, FcA, 7), (RcC, FcC, 12), (RcS, FcS, 5), (RcM, FcM, 19)]
abbrev bS_init : ByteArray := prog_1_method_1_code
def yS_init : MethodName := ⟨RcS, "<init>", "()V"⟩
abbrev wS_init : Cond := .code yS_init bS_init 1 none
theorem mc_S_init : wS_init ∈ wA := wA_m (tb_1 (List.mem_of_getElem? (i := 18) rfl)) rfl
abbrev bT_init : ByteArray := prog_5_method_1_code
def yT_init : MethodName := ⟨RcT, "<init>", "()V"⟩
abbrev wT_init : Cond := .code yT_init bT_init 1 none
theorem mc_T_init : wT_init ∈ wA := wA_m (tb_1 (List.mem_of_getElem? (i := 26) rfl)) rfl
abbrev bB_init : ByteArray := prog_3_method_1_code
def yB_init : MethodName := ⟨RcB, "<init>", "(II)V"⟩
abbrev wB_init : Cond := .code yB_init bB_init 3 none
theorem mc_B_init : wB_init ∈ wA := wA_m (tb_1 (List.mem_of_getElem? (i := 32) rfl)) rfl
abbrev bJa_fill : ByteArray := prog_15_method_103_code
def yJa_fill : MethodName := ⟨RcJa, "fill", "([II)V"⟩
abbrev wJa_fill : Cond := .code yJa_fill bJa_fill 4 none
theorem mc_Ja_fill : wJa_fill ∈ wA := wA_m (tb_1 (List.mem_of_getElem? (i := 48) rfl)) rfl
abbrev bA_init : ByteArray := prog_2_method_1_code
def yA_init : MethodName := ⟨RcA, "<init>", "()V"⟩
abbrev wA_init : Cond := .code yA_init bA_init 1 none
theorem mc_A_init : wA_init ∈ wA := wA_m (tb_1 (List.mem_of_getElem? (i := 80) rfl)) rfl
abbrev bC_init : ByteArray := prog_4_method_1_code
def yC_init : MethodName := ⟨RcC, "<init>", "(LTermServer$Terms;LTermServer$Axioms;)V"⟩
abbrev wC_init : Cond := .code yC_init bC_init 3 none
theorem mc_C_init : wC_init ∈ wA := wA_m (tb_1 (List.mem_of_getElem? (i := 109) rfl)) rfl
abbrev bS_name : ByteArray := prog_1_method_2_code
def yS_name : MethodName := ⟨RcS, "name", "()I"⟩
abbrev wS_name : Cond := .code yS_name bS_name 1 (some .int)
theorem mc_S_name : wS_name ∈ wA := wA_m (tb_1 (List.mem_of_getElem? (i := 169) rfl)) rfl
abbrev bT_make : ByteArray := prog_5_method_11_code
def yT_make : MethodName := ⟨RcT, "make", "(III)I"⟩
abbrev wT_make : Cond := .code yT_make bT_make 5 (some .int)
theorem mc_T_make : wT_make ∈ wA := wA_m (tb_1 (List.mem_of_getElem? (i := 173) rfl)) rfl
abbrev bB_put : ByteArray := prog_3_method_3_code
def yB_put : MethodName := ⟨RcB, "put", "(II)Z"⟩
abbrev wB_put : Cond := .code yB_put bB_put 6 (some .boolean)
theorem mc_B_put : wB_put ∈ wA := wA_m (tb_1 (List.mem_of_getElem? (i := 177) rfl)) rfl
abbrev bS_retract : ByteArray := prog_1_method_9_code
def yS_retract : MethodName := ⟨RcS, "retract", "(I)Z"⟩
abbrev wS_retract : Cond := .code yS_retract bS_retract 2 (some .boolean)
theorem mc_S_retract : wS_retract ∈ wA := wA_m (tb_1 (List.mem_of_getElem? (i := 181) rfl)) rfl
abbrev bA_isInForce : ByteArray := prog_2_method_8_code
def yA_isInForce : MethodName := ⟨RcA, "isInForce", "(I)Z"⟩
abbrev wA_isInForce : Cond := .code yA_isInForce bA_isInForce 2 (some .boolean)
theorem mc_A_isInForce : wA_isInForce ∈ wA := wA_m (tb_1 (List.mem_of_getElem? (i := 185) rfl)) rfl
abbrev bA_takeBack : ByteArray := prog_2_method_10_code
def yA_takeBack : MethodName := ⟨RcA, "takeBack", "(I)V"⟩
abbrev wA_takeBack : Cond := .code yA_takeBack bA_takeBack 2 none
theorem mc_A_takeBack : wA_takeBack ∈ wA := wA_m (tb_1 (List.mem_of_getElem? (i := 189) rfl)) rfl
abbrev bC_spoil : ByteArray := prog_4_method_2_code
def yC_spoil : MethodName := ⟨RcC, "spoil", "()V"⟩
abbrev wC_spoil : Cond := .code yC_spoil bC_spoil 1 none
theorem mc_C_spoil : wC_spoil ∈ wA := wA_m (tb_1 (List.mem_of_getElem? (i := 193) rfl)) rfl
abbrev bS_reason : ByteArray := prog_1_method_17_code
def yS_reason : MethodName := ⟨RcS, "reason", "(I)I"⟩
abbrev wS_reason : Cond := .code yS_reason bS_reason 2 (some .int)
theorem mc_S_reason : wS_reason ∈ wA := wA_m (tb_1 (List.mem_of_getElem? (i := 197) rfl)) rfl
abbrev bS_count : ByteArray := prog_1_method_19_code
def yS_count : MethodName := ⟨RcS, "count", "(I)I"⟩
abbrev wS_count : Cond := .code yS_count bS_count 2 (some .int)
theorem mc_S_count : wS_count ∈ wA := wA_m (tb_1 (List.mem_of_getElem? (i := 201) rfl)) rfl
abbrev bC_placeAll : ByteArray := prog_4_method_8_code
def yC_placeAll : MethodName := ⟨RcC, "placeAll", "()V"⟩
abbrev wC_placeAll : Cond := .code yC_placeAll bC_placeAll 2 none
theorem mc_C_placeAll : wC_placeAll ∈ wA := wA_m (tb_1 (List.mem_of_getElem? (i := 205) rfl)) rfl
abbrev bC_catchUp : ByteArray := prog_4_method_14_code
def yC_catchUp : MethodName := ⟨RcC, "catchUp", "()V"⟩
abbrev wC_catchUp : Cond := .code yC_catchUp bC_catchUp 2 none
theorem mc_C_catchUp : wC_catchUp ∈ wA := wA_m (tb_1 (List.mem_of_getElem? (i := 209) rfl)) rfl
abbrev bC_forget : ByteArray := prog_4_method_9_code
def yC_forget : MethodName := ⟨RcC, "forget", "()V"⟩
abbrev wC_forget : Cond := .code yC_forget bC_forget 2 none
theorem mc_C_forget : wC_forget ∈ wA := wA_m (tb_1 (List.mem_of_getElem? (i := 213) rfl)) rfl
abbrev bT_size : ByteArray := prog_5_method_2_code
def yT_size : MethodName := ⟨RcT, "size", "()I"⟩
abbrev wT_size : Cond := .code yT_size bT_size 1 (some .int)
theorem mc_T_size : wT_size ∈ wA := wA_m (tb_1 (List.mem_of_getElem? (i := 217) rfl)) rfl
abbrev bB_clear : ByteArray := prog_3_method_7_code
def yB_clear : MethodName := ⟨RcB, "clear", "(I)V"⟩
abbrev wB_clear : Cond := .code yB_clear bB_clear 4 none
theorem mc_B_clear : wB_clear ∈ wA := wA_m (tb_1 (List.mem_of_getElem? (i := 221) rfl)) rfl
abbrev bJm_min : ByteArray := prog_11_method_69_code
def yJm_min : MethodName := ⟨RcJm, "min", "(II)I"⟩
abbrev wJm_min : Cond := .code yJm_min bJm_min 2 (some .int)
theorem mc_Jm_min : wJm_min ∈ wA := wA_m (tb_1 (List.mem_of_getElem? (i := 224) rfl)) rfl
abbrev bT_kind : ByteArray := prog_5_method_4_code
def yT_kind : MethodName := ⟨RcT, "kind", "(I)I"⟩
abbrev wT_kind : Cond := .code yT_kind bT_kind 2 (some .int)
theorem mc_T_kind : wT_kind ∈ wA := wA_m (tb_1 (List.mem_of_getElem? (i := 228) rfl)) rfl
abbrev bC_admitBoth : ByteArray := prog_4_method_15_code
def yC_admitBoth : MethodName := ⟨RcC, "admitBoth", "(I)V"⟩
abbrev wC_admitBoth : Cond := .code yC_admitBoth bC_admitBoth 4 none
theorem mc_C_admitBoth : wC_admitBoth ∈ wA := wA_m (tb_1 (List.mem_of_getElem? (i := 232) rfl)) rfl
abbrev bT_left : ByteArray := prog_5_method_6_code
def yT_left : MethodName := ⟨RcT, "left", "(I)I"⟩
abbrev wT_left : Cond := .code yT_left bT_left 2 (some .int)
theorem mc_T_left : wT_left ∈ wA := wA_m (tb_1 (List.mem_of_getElem? (i := 236) rfl)) rfl
abbrev bC_row : ByteArray := prog_4_method_13_code
def yC_row : MethodName := ⟨RcC, "row", "(II)I"⟩
abbrev wC_row : Cond := .code yC_row bC_row 2 (some .int)
theorem mc_C_row : wC_row ∈ wA := wA_m (tb_1 (List.mem_of_getElem? (i := 239) rfl)) rfl
abbrev bB_next : ByteArray := prog_3_method_5_code
def yB_next : MethodName := ⟨RcB, "next", "(II)I"⟩
abbrev wB_next : Cond := .code yB_next bB_next 6 (some .int)
theorem mc_B_next : wB_next ∈ wA := wA_m (tb_2 (List.mem_of_getElem? (i := 3) rfl)) rfl
abbrev bJl_bitCount : ByteArray := prog_10_method_50_code
def yJl_bitCount : MethodName := ⟨RcJl, "bitCount", "(J)I"⟩
abbrev wJl_bitCount : Cond := .code yJl_bitCount bJl_bitCount 2 (some .int)
theorem mc_Jl_bitCount : wJl_bitCount ∈ wA := wA_m (tb_2 (List.mem_of_getElem? (i := 6) rfl)) rfl
abbrev bT_right : ByteArray := prog_5_method_7_code
def yT_right : MethodName := ⟨RcT, "right", "(I)I"⟩
abbrev wT_right : Cond := .code yT_right bT_right 2 (some .int)
theorem mc_T_right : wT_right ∈ wA := wA_m (tb_2 (List.mem_of_getElem? (i := 13) rfl)) rfl
abbrev bB_holds : ByteArray := prog_3_method_2_code
def yB_holds : MethodName := ⟨RcB, "holds", "(II)Z"⟩
abbrev wB_holds : Cond := .code yB_holds bB_holds 3 (some .boolean)
theorem mc_B_holds : wB_holds ∈ wA := wA_m (tb_2 (List.mem_of_getElem? (i := 17) rfl)) rfl
abbrev bC_add : ByteArray := prog_4_method_23_code
def yC_add : MethodName := ⟨RcC, "add", "(III)V"⟩
abbrev wC_add : Cond := .code yC_add bC_add 5 none
theorem mc_C_add : wC_add ∈ wA := wA_m (tb_2 (List.mem_of_getElem? (i := 21) rfl)) rfl
abbrev bC_admitSome : ByteArray := prog_4_method_16_code
def yC_admitSome : MethodName := ⟨RcC, "admitSome", "(I)V"⟩
abbrev wC_admitSome : Cond := .code yC_admitSome bC_admitSome 4 none
theorem mc_C_admitSome : wC_admitSome ∈ wA := wA_m (tb_2 (List.mem_of_getElem? (i := 26) rfl)) rfl
abbrev bC_addFromAll : ByteArray := prog_4_method_25_code
def yC_addFromAll : MethodName := ⟨RcC, "addFromAll", "(III)V"⟩
abbrev wC_addFromAll : Cond := .code yC_addFromAll bC_addFromAll 6 none
theorem mc_C_addFromAll : wC_addFromAll ∈ wA := wA_m (tb_2 (List.mem_of_getElem? (i := 30) rfl)) rfl
abbrev bB_nextBeyond : ByteArray := prog_3_method_6_code
def yB_nextBeyond : MethodName := ⟨RcB, "nextBeyond", "(IILTermServer$Bits;I)I"⟩
abbrev wB_nextBeyond : Cond := .code yB_nextBeyond bB_nextBeyond 9 (some .int)
theorem mc_B_nextBeyond : wB_nextBeyond ∈ wA := wA_m (tb_2 (List.mem_of_getElem? (i := 34) rfl)) rfl
abbrev bA_told : ByteArray := prog_2_method_2_code
def yA_told : MethodName := ⟨RcA, "told", "()I"⟩
abbrev wA_told : Cond := .code yA_told bA_told 1 (some .int)
theorem mc_A_told : wA_told ∈ wA := wA_m (tb_2 (List.mem_of_getElem? (i := 39) rfl)) rfl
abbrev bC_hear : ByteArray := prog_4_method_11_code
def yC_hear : MethodName := ⟨RcC, "hear", "(I)V"⟩
abbrev wC_hear : Cond := .code yC_hear bC_hear 7 none
theorem mc_C_hear : wC_hear ∈ wA := wA_m (tb_2 (List.mem_of_getElem? (i := 44) rfl)) rfl
abbrev bA_first : ByteArray := prog_2_method_5_code
def yA_first : MethodName := ⟨RcA, "first", "(I)I"⟩
abbrev wA_first : Cond := .code yA_first bA_first 2 (some .int)
theorem mc_A_first : wA_first ∈ wA := wA_m (tb_2 (List.mem_of_getElem? (i := 48) rfl)) rfl
abbrev bA_second : ByteArray := prog_2_method_6_code
def yA_second : MethodName := ⟨RcA, "second", "(I)I"⟩
abbrev wA_second : Cond := .code yA_second bA_second 2 (some .int)
theorem mc_A_second : wA_second ∈ wA := wA_m (tb_2 (List.mem_of_getElem? (i := 52) rfl)) rfl
abbrev bA_kind : ByteArray := prog_2_method_4_code
def yA_kind : MethodName := ⟨RcA, "kind", "(I)I"⟩
abbrev wA_kind : Cond := .code yA_kind bA_kind 2 (some .int)
theorem mc_A_kind : wA_kind ∈ wA := wA_m (tb_2 (List.mem_of_getElem? (i := 56) rfl)) rfl
abbrev bA_third : ByteArray := prog_2_method_7_code
def yA_third : MethodName := ⟨RcA, "third", "(I)I"⟩
abbrev wA_third : Cond := .code yA_third bA_third 2 (some .int)
theorem mc_A_third : wA_third ∈ wA := wA_m (tb_2 (List.mem_of_getElem? (i := 60) rfl)) rfl
abbrev bC_begin : ByteArray := prog_4_method_10_code
def yC_begin : MethodName := ⟨RcC, "begin", "(I)V"⟩
abbrev wC_begin : Cond := .code yC_begin bC_begin 2 none
theorem mc_C_begin : wC_begin ∈ wA := wA_m (tb_2 (List.mem_of_getElem? (i := 64) rfl)) rfl
abbrev bC_saturate : ByteArray := prog_4_method_12_code
def yC_saturate : MethodName := ⟨RcC, "saturate", "()V"⟩
abbrev wC_saturate : Cond := .code yC_saturate bC_saturate 6 none
theorem mc_C_saturate : wC_saturate ∈ wA := wA_m (tb_2 (List.mem_of_getElem? (i := 68) rfl)) rfl
abbrev bB_drop : ByteArray := prog_3_method_4_code
def yB_drop : MethodName := ⟨RcB, "drop", "(II)V"⟩
abbrev wB_drop : Cond := .code yB_drop bB_drop 3 none
theorem mc_B_drop : wB_drop ∈ wA := wA_m (tb_2 (List.mem_of_getElem? (i := 73) rfl)) rfl
abbrev bC_emptySources : ByteArray := prog_4_method_17_code
def yC_emptySources : MethodName := ⟨RcC, "emptySources", "(I)V"⟩
abbrev wC_emptySources : Cond := .code yC_emptySources bC_emptySources 3 none
theorem mc_C_emptySources : wC_emptySources ∈ wA := wA_m (tb_2 (List.mem_of_getElem? (i := 77) rfl)) rfl
abbrev bC_isEmpty : ByteArray := prog_4_method_3_code
def yC_isEmpty : MethodName := ⟨RcC, "isEmpty", "(I)Z"⟩
abbrev wC_isEmpty : Cond := .code yC_isEmpty bC_isEmpty 2 (some .boolean)
theorem mc_C_isEmpty : wC_isEmpty ∈ wA := wA_m (tb_2 (List.mem_of_getElem? (i := 81) rfl)) rfl
abbrev bC_addAll : ByteArray := prog_4_method_24_code
def yC_addAll : MethodName := ⟨RcC, "addAll", "(IILTermServer$Bits;I)V"⟩
abbrev wC_addAll : Cond := .code yC_addAll bC_addAll 7 none
theorem mc_C_addAll : wC_addAll ∈ wA := wA_m (tb_2 (List.mem_of_getElem? (i := 85) rfl)) rfl
abbrev bC_drawParts : ByteArray := prog_4_method_18_code
def yC_drawParts : MethodName := ⟨RcC, "drawParts", "(II)V"⟩
abbrev wC_drawParts : Cond := .code yC_drawParts bC_drawParts 3 none
theorem mc_C_drawParts : wC_drawParts ∈ wA := wA_m (tb_2 (List.mem_of_getElem? (i := 89) rfl)) rfl
abbrev bC_drawBoths : ByteArray := prog_4_method_19_code
def yC_drawBoths : MethodName := ⟨RcC, "drawBoths", "(II)V"⟩
abbrev wC_drawBoths : Cond := .code yC_drawBoths bC_drawBoths 5 none
theorem mc_C_drawBoths : wC_drawBoths ∈ wA := wA_m (tb_2 (List.mem_of_getElem? (i := 93) rfl)) rfl
abbrev bT_otherPart : ByteArray := prog_5_method_10_code
def yT_otherPart : MethodName := ⟨RcT, "otherPart", "(II)I"⟩
abbrev wT_otherPart : Cond := .code yT_otherPart bT_otherPart 3 (some .int)
theorem mc_T_otherPart : wT_otherPart ∈ wA := wA_m (tb_2 (List.mem_of_getElem? (i := 97) rfl)) rfl
abbrev bC_drawSomes : ByteArray := prog_4_method_20_code
def yC_drawSomes : MethodName := ⟨RcC, "drawSomes", "(II)V"⟩
abbrev wC_drawSomes : Cond := .code yC_drawSomes bC_drawSomes 5 none
theorem mc_C_drawSomes : wC_drawSomes ∈ wA := wA_m (tb_2 (List.mem_of_getElem? (i := 101) rfl)) rfl
abbrev bT_findSome : ByteArray := prog_5_method_8_code
def yT_findSome : MethodName := ⟨RcT, "findSome", "(II)I"⟩
abbrev wT_findSome : Cond := .code yT_findSome bT_findSome 3 (some .int)
theorem mc_T_findSome : wT_findSome ∈ wA := wA_m (tb_2 (List.mem_of_getElem? (i := 105) rfl)) rfl
abbrev bC_drawFromLink : ByteArray := prog_4_method_21_code
def yC_drawFromLink : MethodName := ⟨RcC, "drawFromLink", "(III)V"⟩
abbrev wC_drawFromLink : Cond := .code yC_drawFromLink bC_drawFromLink 7 none
theorem mc_C_drawFromLink : wC_drawFromLink ∈ wA := wA_m (tb_2 (List.mem_of_getElem? (i := 109) rfl)) rfl
abbrev bC_drawFromChains : ByteArray := prog_4_method_22_code
def yC_drawFromChains : MethodName := ⟨RcC, "drawFromChains", "(III)V"⟩
abbrev wC_drawFromChains : Cond := .code yC_drawFromChains bC_drawFromChains 8 none
theorem mc_C_drawFromChains : wC_drawFromChains ∈ wA := wA_m (tb_2 (List.mem_of_getElem? (i := 113) rfl)) rfl
abbrev bT_names : ByteArray := prog_5_method_3_code
def yT_names : MethodName := ⟨RcT, "names", "()I"⟩
abbrev wT_names : Cond := .code yT_names bT_names 1 (some .int)
theorem mc_T_names : wT_names ∈ wA := wA_m (tb_2 (List.mem_of_getElem? (i := 118) rfl)) rfl
abbrev bA_inForce : ByteArray := prog_2_method_3_code
def yA_inForce : MethodName := ⟨RcA, "inForce", "()I"⟩
abbrev wA_inForce : Cond := .code yA_inForce bA_inForce 1 (some .int)
theorem mc_A_inForce : wA_inForce ∈ wA := wA_m (tb_2 (List.mem_of_getElem? (i := 123) rfl)) rfl
abbrev bS_countPairs : ByteArray := prog_1_method_28_code
def yS_countPairs : MethodName := ⟨RcS, "countPairs", "()I"⟩
abbrev wS_countPairs : Cond := .code yS_countPairs bS_countPairs 4 (some .int)
theorem mc_S_countPairs : wS_countPairs ∈ wA := wA_m (tb_2 (List.mem_of_getElem? (i := 127) rfl)) rfl
abbrev bC_covers : ByteArray := prog_4_method_4_code
def yC_covers : MethodName := ⟨RcC, "covers", "(II)Z"⟩
abbrev wC_covers : Cond := .code yC_covers bC_covers 3 (some .boolean)
theorem mc_C_covers : wC_covers ∈ wA := wA_m (tb_2 (List.mem_of_getElem? (i := 131) rfl)) rfl
abbrev bS_countEmpty : ByteArray := prog_1_method_29_code
def yS_countEmpty : MethodName := ⟨RcS, "countEmpty", "()I"⟩
abbrev wS_countEmpty : Cond := .code yS_countEmpty bS_countEmpty 3 (some .int)
theorem mc_S_countEmpty : wS_countEmpty ∈ wA := wA_m (tb_2 (List.mem_of_getElem? (i := 135) rfl)) rfl
abbrev bS_countClasses : ByteArray := prog_1_method_30_code
def yS_countClasses : MethodName := ⟨RcS, "countClasses", "()I"⟩
abbrev wS_countClasses : Cond := .code yS_countClasses bS_countClasses 3 (some .int)
theorem mc_S_countClasses : wS_countClasses ∈ wA := wA_m (tb_2 (List.mem_of_getElem? (i := 140) rfl)) rfl
abbrev bS_leastEqual : ByteArray := prog_1_method_26_code
def yS_leastEqual : MethodName := ⟨RcS, "leastEqual", "(I)I"⟩
abbrev wS_leastEqual : Cond := .code yS_leastEqual bS_leastEqual 3 (some .int)
theorem mc_S_leastEqual : wS_leastEqual ∈ wA := wA_m (tb_2 (List.mem_of_getElem? (i := 144) rfl)) rfl
abbrev bL_both : ByteArray := method_3_code
def yL_both : MethodName := ⟨RcL, "both", "(LTermServer;II[J)I"⟩
abbrev bS_both : ByteArray := prog_1_method_3_code
def yS_both : MethodName := ⟨RcS, "both", "(II)I"⟩
abbrev wS_both : Cond := .code yS_both bS_both 4 (some .int)
theorem mc_S_both : wS_both ∈ wA := wA_m (tb_2 (List.mem_of_getElem? (i := 152) rfl)) rfl
abbrev bS_checkTerm : ByteArray := prog_1_method_20_code
def yS_checkTerm : MethodName := ⟨RcS, "checkTerm", "(I)V"⟩
abbrev wS_checkTerm : Cond := .code yS_checkTerm bS_checkTerm 2 none
theorem mc_S_checkTerm : wS_checkTerm ∈ wA := wA_m (tb_2 (List.mem_of_getElem? (i := 156) rfl)) rfl
abbrev bT_findBoth : ByteArray := prog_5_method_9_code
def yT_findBoth : MethodName := ⟨RcT, "findBoth", "(II)I"⟩
abbrev wT_findBoth : Cond := .code yT_findBoth bT_findBoth 4 (some .int)
theorem mc_T_findBoth : wT_findBoth ∈ wA := wA_m (tb_2 (List.mem_of_getElem? (i := 226) rfl)) rfl
abbrev bL_some : ByteArray := method_4_code
def yL_some : MethodName := ⟨RcL, "some", "(LTermServer;II[J)I"⟩
abbrev bS_some : ByteArray := prog_1_method_4_code
def yS_some : MethodName := ⟨RcS, "some", "(II)I"⟩
abbrev wS_some : Cond := .code yS_some bS_some 4 (some .int)
theorem mc_S_some : wS_some ∈ wA := wA_m (tb_2 (List.mem_of_getElem? (i := 234) rfl)) rfl
abbrev bS_checkRole : ByteArray := prog_1_method_21_code
def yS_checkRole : MethodName := ⟨RcS, "checkRole", "(I)V"⟩
abbrev wS_checkRole : Cond := .code yS_checkRole bS_checkRole 1 none
theorem mc_S_checkRole : wS_checkRole ∈ wA := wA_m (tb_2 (List.mem_of_getElem? (i := 237) rfl)) rfl
abbrev bL_below : ByteArray := method_5_code
def yL_below : MethodName := ⟨RcL, "below", "(LTermServer;II[J)I"⟩
abbrev bS_below : ByteArray := prog_1_method_5_code
def yS_below : MethodName := ⟨RcS, "below", "(II)I"⟩
abbrev wS_below : Cond := .code yS_below bS_below 3 (some .int)
theorem mc_S_below : wS_below ∈ wA := wA_m (tb_3 (List.mem_of_getElem? (i := 6) rfl)) rfl
abbrev bA_tell : ByteArray := prog_2_method_9_code
def yA_tell : MethodName := ⟨RcA, "tell", "(IIII)I"⟩
abbrev wA_tell : Cond := .code yA_tell bA_tell 5 (some .int)
theorem mc_A_tell : wA_tell ∈ wA := wA_m (tb_3 (List.mem_of_getElem? (i := 10) rfl)) rfl
abbrev bL_equal : ByteArray := method_6_code
def yL_equal : MethodName := ⟨RcL, "equal", "(LTermServer;II[J)I"⟩
abbrev bS_equal : ByteArray := prog_1_method_6_code
def yS_equal : MethodName := ⟨RcS, "equal", "(II)I"⟩
abbrev wS_equal : Cond := .code yS_equal bS_equal 3 (some .int)
theorem mc_S_equal : wS_equal ∈ wA := wA_m (tb_3 (List.mem_of_getElem? (i := 17) rfl)) rfl
abbrev bL_roleBelow : ByteArray := method_7_code
def yL_roleBelow : MethodName := ⟨RcL, "roleBelow", "(LTermServer;II[J)I"⟩
abbrev bS_roleBelow : ByteArray := prog_1_method_7_code
def yS_roleBelow : MethodName := ⟨RcS, "roleBelow", "(II)I"⟩
abbrev wS_roleBelow : Cond := .code yS_roleBelow bS_roleBelow 3 (some .int)
theorem mc_S_roleBelow : wS_roleBelow ∈ wA := wA_m (tb_3 (List.mem_of_getElem? (i := 24) rfl)) rfl
abbrev bL_chain : ByteArray := method_8_code
def yL_chain : MethodName := ⟨RcL, "chain", "(LTermServer;III[J)I"⟩
abbrev bS_chain : ByteArray := prog_1_method_8_code
def yS_chain : MethodName := ⟨RcS, "chain", "(III)I"⟩
abbrev wS_chain : Cond := .code yS_chain bS_chain 4 (some .int)
theorem mc_S_chain : wS_chain ∈ wA := wA_m (tb_3 (List.mem_of_getElem? (i := 31) rfl)) rfl
abbrev bL_isBelow : ByteArray := method_9_code
def yL_isBelow : MethodName := ⟨RcL, "isBelow", "(LTermServer;II[J)I"⟩
abbrev bS_isBelow : ByteArray := prog_1_method_10_code
def yS_isBelow : MethodName := ⟨RcS, "isBelow", "(II)Z"⟩
abbrev wS_isBelow : Cond := .code yS_isBelow bS_isBelow 3 (some .boolean)
theorem mc_S_isBelow : wS_isBelow ∈ wA := wA_m (tb_3 (List.mem_of_getElem? (i := 38) rfl)) rfl
abbrev bC_place : ByteArray := prog_4_method_6_code
def yC_place : MethodName := ⟨RcC, "place", "(I)V"⟩
abbrev wC_place : Cond := .code yC_place bC_place 2 none
theorem mc_C_place : wC_place ∈ wA := wA_m (tb_3 (List.mem_of_getElem? (i := 42) rfl)) rfl
abbrev bL_supers : ByteArray := method_10_code
def yL_supers : MethodName := ⟨RcL, "supers", "(LTermServer;I[J)I"⟩
abbrev bS_supers : ByteArray := prog_1_method_11_code
def yS_supers : MethodName := ⟨RcS, "supers", "(I)I"⟩
abbrev wS_supers : Cond := .code yS_supers bS_supers 4 (some .int)
theorem mc_S_supers : wS_supers ∈ wA := wA_m (tb_3 (List.mem_of_getElem? (i := 49) rfl)) rfl
abbrev bS_isNameAbove : ByteArray := prog_1_method_22_code
def yS_isNameAbove : MethodName := ⟨RcS, "isNameAbove", "(II)Z"⟩
abbrev wS_isNameAbove : Cond := .code yS_isNameAbove bS_isNameAbove 3 (some .boolean)
theorem mc_S_isNameAbove : wS_isNameAbove ∈ wA := wA_m (tb_3 (List.mem_of_getElem? (i := 53) rfl)) rfl
abbrev bT_isName : ByteArray := prog_5_method_5_code
def yT_isName : MethodName := ⟨RcT, "isName", "(I)Z"⟩
abbrev wT_isName : Cond := .code yT_isName bT_isName 2 (some .boolean)
theorem mc_T_isName : wT_isName ∈ wA := wA_m (tb_3 (List.mem_of_getElem? (i := 57) rfl)) rfl
abbrev bL_sup : ByteArray := method_11_code
def yL_sup : MethodName := ⟨RcL, "sup", "(LTermServer;II[J)I"⟩
abbrev bS_sup : ByteArray := prog_1_method_12_code
def yS_sup : MethodName := ⟨RcS, "sup", "(II)I"⟩
abbrev wS_sup : Cond := .code yS_sup bS_sup 5 (some .int)
theorem mc_S_sup : wS_sup ∈ wA := wA_m (tb_3 (List.mem_of_getElem? (i := 64) rfl)) rfl
abbrev bL_direct : ByteArray := method_12_code
def yL_direct : MethodName := ⟨RcL, "direct", "(LTermServer;II[J)I"⟩
abbrev bS_direct : ByteArray := prog_1_method_13_code
def yS_direct : MethodName := ⟨RcS, "direct", "(II)Z"⟩
abbrev wS_direct : Cond := .code yS_direct bS_direct 4 (some .boolean)
theorem mc_S_direct : wS_direct ∈ wA := wA_m (tb_3 (List.mem_of_getElem? (i := 71) rfl)) rfl
abbrev bC_placeWithAbove : ByteArray := prog_4_method_7_code
def yC_placeWithAbove : MethodName := ⟨RcC, "placeWithAbove", "(I)V"⟩
abbrev wC_placeWithAbove : Cond := .code yC_placeWithAbove bC_placeWithAbove 3 none
theorem mc_C_placeWithAbove : wC_placeWithAbove ∈ wA := wA_m (tb_3 (List.mem_of_getElem? (i := 75) rfl)) rfl
abbrev bS_isStrictlyBelow : ByteArray := prog_1_method_24_code
def yS_isStrictlyBelow : MethodName := ⟨RcS, "isStrictlyBelow", "(II)Z"⟩
abbrev wS_isStrictlyBelow : Cond := .code yS_isStrictlyBelow bS_isStrictlyBelow 3 (some .boolean)
theorem mc_S_isStrictlyBelow : wS_isStrictlyBelow ∈ wA := wA_m (tb_3 (List.mem_of_getElem? (i := 80) rfl)) rfl
abbrev bL_twin : ByteArray := method_13_code
def yL_twin : MethodName := ⟨RcL, "twin", "(LTermServer;I[J)I"⟩
abbrev bS_twin : ByteArray := prog_1_method_14_code
def yS_twin : MethodName := ⟨RcS, "twin", "(I)I"⟩
abbrev wS_twin : Cond := .code yS_twin bS_twin 2 (some .int)
theorem mc_S_twin : wS_twin ∈ wA := wA_m (tb_3 (List.mem_of_getElem? (i := 87) rfl)) rfl
abbrev bL_common : ByteArray := method_14_code
def yL_common : MethodName := ⟨RcL, "common", "(LTermServer;III[J)I"⟩
abbrev bS_common : ByteArray := prog_1_method_15_code
def yS_common : MethodName := ⟨RcS, "common", "(III)I"⟩
abbrev wS_common : Cond := .code yS_common bS_common 6 (some .int)
theorem mc_S_common : wS_common ∈ wA := wA_m (tb_3 (List.mem_of_getElem? (i := 94) rfl)) rfl
abbrev bS_isNameAboveBoth : ByteArray := prog_1_method_23_code
def yS_isNameAboveBoth : MethodName := ⟨RcS, "isNameAboveBoth", "(III)Z"⟩
abbrev wS_isNameAboveBoth : Cond := .code yS_isNameAboveBoth bS_isNameAboveBoth 4 (some .boolean)
theorem mc_S_isNameAboveBoth : wS_isNameAboveBoth ∈ wA := wA_m (tb_3 (List.mem_of_getElem? (i := 98) rfl)) rfl
abbrev bS_isLowestAboveBoth : ByteArray := prog_1_method_25_code
def yS_isLowestAboveBoth : MethodName := ⟨RcS, "isLowestAboveBoth", "(III)Z"⟩
abbrev wS_isLowestAboveBoth : Cond := .code yS_isLowestAboveBoth bS_isLowestAboveBoth 5 (some .boolean)
theorem mc_S_isLowestAboveBoth : wS_isLowestAboveBoth ∈ wA := wA_m (tb_3 (List.mem_of_getElem? (i := 102) rfl)) rfl
abbrev bL_why : ByteArray := method_15_code
def yL_why : MethodName := ⟨RcL, "why", "(LTermServer;II[J)I"⟩
abbrev bS_why : ByteArray := prog_1_method_16_code
def yS_why : MethodName := ⟨RcS, "why", "(II)I"⟩
abbrev wS_why : Cond := .code yS_why bS_why 5 (some .int)
theorem mc_S_why : wS_why ∈ wA := wA_m (tb_3 (List.mem_of_getElem? (i := 109) rfl)) rfl
abbrev bS_reasonBefore : ByteArray := prog_1_method_27_code
def yS_reasonBefore : MethodName := ⟨RcS, "reasonBefore", "(III)I"⟩
abbrev wS_reasonBefore : Cond := .code yS_reasonBefore bS_reasonBefore 5 (some .int)
theorem mc_S_reasonBefore : wS_reasonBefore ∈ wA := wA_m (tb_3 (List.mem_of_getElem? (i := 113) rfl)) rfl
abbrev bL_has : ByteArray := method_16_code
def yL_has : MethodName := ⟨RcL, "has", "(LTermServer;III[J)I"⟩
abbrev bS_has : ByteArray := prog_1_method_18_code
def yS_has : MethodName := ⟨RcS, "has", "(III)Z"⟩
abbrev wS_has : Cond := .code yS_has bS_has 4 (some .boolean)
theorem mc_S_has : wS_has ∈ wA := wA_m (tb_3 (List.mem_of_getElem? (i := 124) rfl)) rfl
abbrev bC_reaches : ByteArray := prog_4_method_5_code
def yC_reaches : MethodName := ⟨RcC, "reaches", "(III)Z"⟩
abbrev wC_reaches : Cond := .code yC_reaches bC_reaches 6 (some .boolean)
theorem mc_C_reaches : wC_reaches ∈ wA := wA_m (tb_3 (List.mem_of_getElem? (i := 128) rfl)) rfl
abbrev bM_init : ByteArray := prog_7_method_1_code
def yM_init : MethodName := ⟨RcM, "<init>", "()V"⟩
abbrev wM_init : Cond := .code yM_init bM_init 1 none
theorem mc_M_init : wM_init ∈ wA := wA_m (tb_3 (List.mem_of_getElem? (i := 133) rfl)) rfl
abbrev bM_thrown : ByteArray := prog_7_method_2_code
def yM_thrown : MethodName := ⟨RcM, "thrown", "()I"⟩
abbrev wM_thrown : Cond := .code yM_thrown bM_thrown 1 (some .int)
theorem mc_M_thrown : wM_thrown ∈ wA := wA_m (tb_3 (List.mem_of_getElem? (i := 196) rfl)) rfl
abbrev bM_name : ByteArray := prog_7_method_7_code
def yM_name : MethodName := ⟨RcM, "name", "()I"⟩
abbrev wM_name : Cond := .code yM_name bM_name 1 (some .int)
theorem mc_M_name : wM_name ∈ wA := wA_m (tb_3 (List.mem_of_getElem? (i := 200) rfl)) rfl
abbrev bM_made : ByteArray := prog_7_method_6_code
def yM_made : MethodName := ⟨RcM, "made", "(III)I"⟩
abbrev wM_made : Cond := .code yM_made bM_made 5 (some .int)
theorem mc_M_made : wM_made ∈ wA := wA_m (tb_3 (List.mem_of_getElem? (i := 204) rfl)) rfl
abbrev bM_both : ByteArray := prog_7_method_8_code
def yM_both : MethodName := ⟨RcM, "both", "(II)I"⟩
abbrev wM_both : Cond := .code yM_both bM_both 3 (some .int)
theorem mc_M_both : wM_both ∈ wA := wA_m (tb_3 (List.mem_of_getElem? (i := 208) rfl)) rfl
abbrev bM_isThere : ByteArray := prog_7_method_4_code
def yM_isThere : MethodName := ⟨RcM, "isThere", "(I)Z"⟩
abbrev wM_isThere : Cond := .code yM_isThere bM_isThere 2 (some .boolean)
theorem mc_M_isThere : wM_isThere ∈ wA := wA_m (tb_3 (List.mem_of_getElem? (i := 212) rfl)) rfl
abbrev bM_fails : ByteArray := prog_7_method_3_code
def yM_fails : MethodName := ⟨RcM, "fails", "(Z)Z"⟩
abbrev wM_fails : Cond := .code yM_fails bM_fails 2 (some .boolean)
theorem mc_M_fails : wM_fails ∈ wA := wA_m (tb_3 (List.mem_of_getElem? (i := 216) rfl)) rfl
abbrev bM_some : ByteArray := prog_7_method_9_code
def yM_some : MethodName := ⟨RcM, "some", "(II)I"⟩
abbrev wM_some : Cond := .code yM_some bM_some 3 (some .int)
theorem mc_M_some : wM_some ∈ wA := wA_m (tb_3 (List.mem_of_getElem? (i := 220) rfl)) rfl
abbrev bM_isRole : ByteArray := prog_7_method_5_code
def yM_isRole : MethodName := ⟨RcM, "isRole", "(I)Z"⟩
abbrev wM_isRole : Cond := .code yM_isRole bM_isRole 1 (some .boolean)
theorem mc_M_isRole : wM_isRole ∈ wA := wA_m (tb_3 (List.mem_of_getElem? (i := 223) rfl)) rfl
abbrev bM_below : ByteArray := prog_7_method_11_code
def yM_below : MethodName := ⟨RcM, "below", "(II)I"⟩
abbrev wM_below : Cond := .code yM_below bM_below 3 (some .int)
theorem mc_M_below : wM_below ∈ wA := wA_m (tb_3 (List.mem_of_getElem? (i := 227) rfl)) rfl
abbrev bM_axiom : ByteArray := prog_7_method_10_code
def yM_axiom : MethodName := ⟨RcM, "axiom", "(IIII)I"⟩
abbrev wM_axiom : Cond := .code yM_axiom bM_axiom 5 (some .int)
theorem mc_M_axiom : wM_axiom ∈ wA := wA_m (tb_3 (List.mem_of_getElem? (i := 231) rfl)) rfl
abbrev bM_equal : ByteArray := prog_7_method_12_code
def yM_equal : MethodName := ⟨RcM, "equal", "(II)I"⟩
abbrev wM_equal : Cond := .code yM_equal bM_equal 3 (some .int)
theorem mc_M_equal : wM_equal ∈ wA := wA_m (tb_3 (List.mem_of_getElem? (i := 235) rfl)) rfl
abbrev bM_roleBelow : ByteArray := prog_7_method_13_code
def yM_roleBelow : MethodName := ⟨RcM, "roleBelow", "(II)I"⟩
abbrev wM_roleBelow : Cond := .code yM_roleBelow bM_roleBelow 3 (some .int)
theorem mc_M_roleBelow : wM_roleBelow ∈ wA := wA_m (tb_3 (List.mem_of_getElem? (i := 239) rfl)) rfl
abbrev bM_chain : ByteArray := prog_7_method_14_code
def yM_chain : MethodName := ⟨RcM, "chain", "(III)I"⟩
abbrev wM_chain : Cond := .code yM_chain bM_chain 4 (some .int)
theorem mc_M_chain : wM_chain ∈ wA := wA_m (tb_4 (List.mem_of_getElem? (i := 3) rfl)) rfl
abbrev bM_retract : ByteArray := prog_7_method_15_code
def yM_retract : MethodName := ⟨RcM, "retract", "(I)Z"⟩
abbrev wM_retract : Cond := .code yM_retract bM_retract 2 (some .boolean)
theorem mc_M_retract : wM_retract ∈ wA := wA_m (tb_4 (List.mem_of_getElem? (i := 7) rfl)) rfl
abbrev bM_isBelow : ByteArray := prog_7_method_29_code
def yM_isBelow : MethodName := ⟨RcM, "isBelow", "(II)Z"⟩
abbrev wM_isBelow : Cond := .code yM_isBelow bM_isBelow 3 (some .boolean)
theorem mc_M_isBelow : wM_isBelow ∈ wA := wA_m (tb_4 (List.mem_of_getElem? (i := 11) rfl)) rfl
abbrev bM_close : ByteArray := prog_7_method_27_code
def yM_close : MethodName := ⟨RcM, "close", "()V"⟩
abbrev wM_close : Cond := .code yM_close bM_close 2 none
theorem mc_M_close : wM_close ∈ wA := wA_m (tb_4 (List.mem_of_getElem? (i := 15) rfl)) rfl
abbrev bM_follow : ByteArray := prog_7_method_26_code
def yM_follow : MethodName := ⟨RcM, "follow", "(II)V"⟩
abbrev wM_follow : Cond := .code yM_follow bM_follow 4 none
theorem mc_M_follow : wM_follow ∈ wA := wA_m (tb_4 (List.mem_of_getElem? (i := 19) rfl)) rfl
abbrev bM_add : ByteArray := prog_7_method_18_code
def yM_add : MethodName := ⟨RcM, "add", "(II)V"⟩
abbrev wM_add : Cond := .code yM_add bM_add 3 none
theorem mc_M_add : wM_add ∈ wA := wA_m (tb_4 (List.mem_of_getElem? (i := 23) rfl)) rfl
abbrev bM_in : ByteArray := prog_7_method_16_code
def yM_in : MethodName := ⟨RcM, "in", "([JII)Z"⟩
abbrev wM_in : Cond := .code yM_in bM_in 3 (some .boolean)
theorem mc_M_in : wM_in ∈ wA := wA_m (tb_4 (List.mem_of_getElem? (i := 26) rfl)) rfl
abbrev bM_set : ByteArray := prog_7_method_17_code
def yM_set : MethodName := ⟨RcM, "set", "([JII)V"⟩
abbrev wM_set : Cond := .code yM_set bM_set 3 none
theorem mc_M_set : wM_set ∈ wA := wA_m (tb_4 (List.mem_of_getElem? (i := 29) rfl)) rfl
abbrev bM_byAxioms : ByteArray := prog_7_method_22_code
def yM_byAxioms : MethodName := ⟨RcM, "byAxioms", "(I)V"⟩
abbrev wM_byAxioms : Cond := .code yM_byAxioms bM_byAxioms 5 none
theorem mc_M_byAxioms : wM_byAxioms ∈ wA := wA_m (tb_4 (List.mem_of_getElem? (i := 33) rfl)) rfl
abbrev bM_row : ByteArray := prog_7_method_20_code
def yM_row : MethodName := ⟨RcM, "row", "(II)I"⟩
abbrev wM_row : Cond := .code yM_row bM_row 2 (some .int)
theorem mc_M_row : wM_row ∈ wA := wA_m (tb_4 (List.mem_of_getElem? (i := 36) rfl)) rfl
abbrev bM_join : ByteArray := prog_7_method_19_code
def yM_join : MethodName := ⟨RcM, "join", "(II)V"⟩
abbrev wM_join : Cond := .code yM_join bM_join 6 none
theorem mc_M_join : wM_join ∈ wA := wA_m (tb_4 (List.mem_of_getElem? (i := 40) rfl)) rfl
abbrev bM_byChain : ByteArray := prog_7_method_23_code
def yM_byChain : MethodName := ⟨RcM, "byChain", "(IIII)V"⟩
abbrev wM_byChain : Cond := .code yM_byChain bM_byChain 6 none
theorem mc_M_byChain : wM_byChain ∈ wA := wA_m (tb_4 (List.mem_of_getElem? (i := 44) rfl)) rfl
abbrev bM_byDescriptions : ByteArray := prog_7_method_24_code
def yM_byDescriptions : MethodName := ⟨RcM, "byDescriptions", "(I)V"⟩
abbrev wM_byDescriptions : Cond := .code yM_byDescriptions bM_byDescriptions 5 none
theorem mc_M_byDescriptions : wM_byDescriptions ∈ wA := wA_m (tb_4 (List.mem_of_getElem? (i := 48) rfl)) rfl
abbrev bM_meets : ByteArray := prog_7_method_21_code
def yM_meets : MethodName := ⟨RcM, "meets", "(III)Z"⟩
abbrev wM_meets : Cond := .code yM_meets bM_meets 7 (some .boolean)
theorem mc_M_meets : wM_meets ∈ wA := wA_m (tb_4 (List.mem_of_getElem? (i := 52) rfl)) rfl
abbrev bM_byNothing : ByteArray := prog_7_method_25_code
def yM_byNothing : MethodName := ⟨RcM, "byNothing", "(I)V"⟩
abbrev wM_byNothing : Cond := .code yM_byNothing bM_byNothing 3 none
theorem mc_M_byNothing : wM_byNothing ∈ wA := wA_m (tb_4 (List.mem_of_getElem? (i := 56) rfl)) rfl
abbrev bM_supers : ByteArray := prog_7_method_30_code
def yM_supers : MethodName := ⟨RcM, "supers", "(I)I"⟩
abbrev wM_supers : Cond := .code yM_supers bM_supers 4 (some .int)
theorem mc_M_supers : wM_supers ∈ wA := wA_m (tb_4 (List.mem_of_getElem? (i := 60) rfl)) rfl
abbrev bM_sup : ByteArray := prog_7_method_31_code
def yM_sup : MethodName := ⟨RcM, "sup", "(II)I"⟩
abbrev wM_sup : Cond := .code yM_sup bM_sup 5 (some .int)
theorem mc_M_sup : wM_sup ∈ wA := wA_m (tb_4 (List.mem_of_getElem? (i := 64) rfl)) rfl
abbrev bM_direct : ByteArray := prog_7_method_32_code
def yM_direct : MethodName := ⟨RcM, "direct", "(II)Z"⟩
abbrev wM_direct : Cond := .code yM_direct bM_direct 5 (some .boolean)
theorem mc_M_direct : wM_direct ∈ wA := wA_m (tb_4 (List.mem_of_getElem? (i := 68) rfl)) rfl
abbrev bM_strictly : ByteArray := prog_7_method_28_code
def yM_strictly : MethodName := ⟨RcM, "strictly", "(II)Z"⟩
abbrev wM_strictly : Cond := .code yM_strictly bM_strictly 3 (some .boolean)
theorem mc_M_strictly : wM_strictly ∈ wA := wA_m (tb_4 (List.mem_of_getElem? (i := 72) rfl)) rfl
abbrev bM_twin : ByteArray := prog_7_method_34_code
def yM_twin : MethodName := ⟨RcM, "twin", "(I)I"⟩
abbrev wM_twin : Cond := .code yM_twin bM_twin 2 (some .int)
theorem mc_M_twin : wM_twin ∈ wA := wA_m (tb_4 (List.mem_of_getElem? (i := 76) rfl)) rfl
abbrev bM_least : ByteArray := prog_7_method_33_code
def yM_least : MethodName := ⟨RcM, "least", "(I)I"⟩
abbrev wM_least : Cond := .code yM_least bM_least 3 (some .int)
theorem mc_M_least : wM_least ∈ wA := wA_m (tb_4 (List.mem_of_getElem? (i := 80) rfl)) rfl
abbrev bM_common : ByteArray := prog_7_method_36_code
def yM_common : MethodName := ⟨RcM, "common", "(III)I"⟩
abbrev wM_common : Cond := .code yM_common bM_common 9 (some .int)
theorem mc_M_common : wM_common ∈ wA := wA_m (tb_4 (List.mem_of_getElem? (i := 84) rfl)) rfl
abbrev bM_isCommon : ByteArray := prog_7_method_35_code
def yM_isCommon : MethodName := ⟨RcM, "isCommon", "(III)Z"⟩
abbrev wM_isCommon : Cond := .code yM_isCommon bM_isCommon 4 (some .boolean)
theorem mc_M_isCommon : wM_isCommon ∈ wA := wA_m (tb_4 (List.mem_of_getElem? (i := 88) rfl)) rfl
abbrev bM_why : ByteArray := prog_7_method_37_code
def yM_why : MethodName := ⟨RcM, "why", "(II)I"⟩
abbrev wM_why : Cond := .code yM_why bM_why 4 (some .int)
theorem mc_M_why : wM_why ∈ wA := wA_m (tb_4 (List.mem_of_getElem? (i := 92) rfl)) rfl
abbrev bM_reason : ByteArray := prog_7_method_38_code
def yM_reason : MethodName := ⟨RcM, "reason", "(I)I"⟩
abbrev wM_reason : Cond := .code yM_reason bM_reason 2 (some .int)
theorem mc_M_reason : wM_reason ∈ wA := wA_m (tb_4 (List.mem_of_getElem? (i := 96) rfl)) rfl
abbrev bM_has : ByteArray := prog_7_method_39_code
def yM_has : MethodName := ⟨RcM, "has", "(III)Z"⟩
abbrev wM_has : Cond := .code yM_has bM_has 4 (some .boolean)
theorem mc_M_has : wM_has ∈ wA := wA_m (tb_4 (List.mem_of_getElem? (i := 100) rfl)) rfl
abbrev bM_count : ByteArray := prog_7_method_41_code
def yM_count : MethodName := ⟨RcM, "count", "(I)I"⟩
abbrev wM_count : Cond := .code yM_count bM_count 4 (some .int)
theorem mc_M_count : wM_count ∈ wA := wA_m (tb_4 (List.mem_of_getElem? (i := 104) rfl)) rfl
abbrev bM_pairs : ByteArray := prog_7_method_40_code
def yM_pairs : MethodName := ⟨RcM, "pairs", "()I"⟩
abbrev wM_pairs : Cond := .code yM_pairs bM_pairs 4 (some .int)
theorem mc_M_pairs : wM_pairs ∈ wA := wA_m (tb_4 (List.mem_of_getElem? (i := 108) rfl)) rfl
theorem dm_S_init : yS_init.cls ≠ "java/lang/invoke/MethodHandle" ∧ yS_init.cls ≠ "java/lang/invoke/VarHandle" ∧ (parseMethodDescriptor yS_init.desc).map (fun d => d.parameters.length) = some 0 := by decide +kernel
theorem dm_T_init : yT_init.cls ≠ "java/lang/invoke/MethodHandle" ∧ yT_init.cls ≠ "java/lang/invoke/VarHandle" ∧ (parseMethodDescriptor yT_init.desc).map (fun d => d.parameters.length) = some 0 := by decide +kernel
theorem dm_B_init : yB_init.cls ≠ "java/lang/invoke/MethodHandle" ∧ yB_init.cls ≠ "java/lang/invoke/VarHandle" ∧ (parseMethodDescriptor yB_init.desc).map (fun d => d.parameters.length) = some 2 := by decide +kernel
theorem dm_Ja_fill : yJa_fill.cls ≠ "java/lang/invoke/MethodHandle" ∧ yJa_fill.cls ≠ "java/lang/invoke/VarHandle" ∧ (parseMethodDescriptor yJa_fill.desc).map (fun d => d.parameters.length) = some 2 := by decide +kernel
theorem dm_A_init : yA_init.cls ≠ "java/lang/invoke/MethodHandle" ∧ yA_init.cls ≠ "java/lang/invoke/VarHandle" ∧ (parseMethodDescriptor yA_init.desc).map (fun d => d.parameters.length) = some 0 := by decide +kernel
theorem dm_C_init : yC_init.cls ≠ "java/lang/invoke/MethodHandle" ∧ yC_init.cls ≠ "java/lang/invoke/VarHandle" ∧ (parseMethodDescriptor yC_init.desc).map (fun d => d.parameters.length) = some 2 := by decide +kernel
theorem dm_S_name : yS_name.cls ≠ "java/lang/invoke/MethodHandle" ∧ yS_name.cls ≠ "java/lang/invoke/VarHandle" ∧ (parseMethodDescriptor yS_name.desc).map (fun d => d.parameters.length) = some 0 := by decide +kernel
theorem dm_T_make : yT_make.cls ≠ "java/lang/invoke/MethodHandle" ∧ yT_make.cls ≠ "java/lang/invoke/VarHandle" ∧ (parseMethodDescriptor yT_make.desc).map (fun d => d.parameters.length) = some 3 := by decide +kernel
theorem dm_B_put : yB_put.cls ≠ "java/lang/invoke/MethodHandle" ∧ yB_put.cls ≠ "java/lang/invoke/VarHandle" ∧ (parseMethodDescriptor yB_put.desc).map (fun d => d.parameters.length) = some 2 := by decide +kernel
theorem dm_S_retract : yS_retract.cls ≠ "java/lang/invoke/MethodHandle" ∧ yS_retract.cls ≠ "java/lang/invoke/VarHandle" ∧ (parseMethodDescriptor yS_retract.desc).map (fun d => d.parameters.length) = some 1 := by decide +kernel
theorem dm_A_isInForce : yA_isInForce.cls ≠ "java/lang/invoke/MethodHandle" ∧ yA_isInForce.cls ≠ "java/lang/invoke/VarHandle" ∧ (parseMethodDescriptor yA_isInForce.desc).map (fun d => d.parameters.length) = some 1 := by decide +kernel
theorem dm_A_takeBack : yA_takeBack.cls ≠ "java/lang/invoke/MethodHandle" ∧ yA_takeBack.cls ≠ "java/lang/invoke/VarHandle" ∧ (parseMethodDescriptor yA_takeBack.desc).map (fun d => d.parameters.length) = some 1 := by decide +kernel
theorem dm_C_spoil : yC_spoil.cls ≠ "java/lang/invoke/MethodHandle" ∧ yC_spoil.cls ≠ "java/lang/invoke/VarHandle" ∧ (parseMethodDescriptor yC_spoil.desc).map (fun d => d.parameters.length) = some 0 := by decide +kernel
theorem dm_S_reason : yS_reason.cls ≠ "java/lang/invoke/MethodHandle" ∧ yS_reason.cls ≠ "java/lang/invoke/VarHandle" ∧ (parseMethodDescriptor yS_reason.desc).map (fun d => d.parameters.length) = some 1 := by decide +kernel
theorem dm_S_count : yS_count.cls ≠ "java/lang/invoke/MethodHandle" ∧ yS_count.cls ≠ "java/lang/invoke/VarHandle" ∧ (parseMethodDescriptor yS_count.desc).map (fun d => d.parameters.length) = some 1 := by decide +kernel
theorem dm_C_placeAll : yC_placeAll.cls ≠ "java/lang/invoke/MethodHandle" ∧ yC_placeAll.cls ≠ "java/lang/invoke/VarHandle" ∧ (parseMethodDescriptor yC_placeAll.desc).map (fun d => d.parameters.length) = some 0 := by decide +kernel
theorem dm_C_catchUp : yC_catchUp.cls ≠ "java/lang/invoke/MethodHandle" ∧ yC_catchUp.cls ≠ "java/lang/invoke/VarHandle" ∧ (parseMethodDescriptor yC_catchUp.desc).map (fun d => d.parameters.length) = some 0 := by decide +kernel
theorem dm_C_forget : yC_forget.cls ≠ "java/lang/invoke/MethodHandle" ∧ yC_forget.cls ≠ "java/lang/invoke/VarHandle" ∧ (parseMethodDescriptor yC_forget.desc).map (fun d => d.parameters.length) = some 0 := by decide +kernel
theorem dm_T_size : yT_size.cls ≠ "java/lang/invoke/MethodHandle" ∧ yT_size.cls ≠ "java/lang/invoke/VarHandle" ∧ (parseMethodDescriptor yT_size.desc).map (fun d => d.parameters.length) = some 0 := by decide +kernel
theorem dm_B_clear : yB_clear.cls ≠ "java/lang/invoke/MethodHandle" ∧ yB_clear.cls ≠ "java/lang/invoke/VarHandle" ∧ (parseMethodDescriptor yB_clear.desc).map (fun d => d.parameters.length) = some 1 := by decide +kernel
theorem dm_Jm_min : yJm_min.cls ≠ "java/lang/invoke/MethodHandle" ∧ yJm_min.cls ≠ "java/lang/invoke/VarHandle" ∧ (parseMethodDescriptor yJm_min.desc).map (fun d => d.parameters.length) = some 2 := by decide +kernel
theorem dm_T_kind : yT_kind.cls ≠ "java/lang/invoke/MethodHandle" ∧ yT_kind.cls ≠ "java/lang/invoke/VarHandle" ∧ (parseMethodDescriptor yT_kind.desc).map (fun d => d.parameters.length) = some 1 := by decide +kernel
theorem dm_C_admitBoth : yC_admitBoth.cls ≠ "java/lang/invoke/MethodHandle" ∧ yC_admitBoth.cls ≠ "java/lang/invoke/VarHandle" ∧ (parseMethodDescriptor yC_admitBoth.desc).map (fun d => d.parameters.length) = some 1 := by decide +kernel
theorem dm_T_left : yT_left.cls ≠ "java/lang/invoke/MethodHandle" ∧ yT_left.cls ≠ "java/lang/invoke/VarHandle" ∧ (parseMethodDescriptor yT_left.desc).map (fun d => d.parameters.length) = some 1 := by decide +kernel
theorem dm_C_row : yC_row.cls ≠ "java/lang/invoke/MethodHandle" ∧ yC_row.cls ≠ "java/lang/invoke/VarHandle" ∧ (parseMethodDescriptor yC_row.desc).map (fun d => d.parameters.length) = some 2 := by decide +kernel
theorem dm_B_next : yB_next.cls ≠ "java/lang/invoke/MethodHandle" ∧ yB_next.cls ≠ "java/lang/invoke/VarHandle" ∧ (parseMethodDescriptor yB_next.desc).map (fun d => d.parameters.length) = some 2 := by decide +kernel
theorem dm_Jl_bitCount : yJl_bitCount.cls ≠ "java/lang/invoke/MethodHandle" ∧ yJl_bitCount.cls ≠ "java/lang/invoke/VarHandle" ∧ (parseMethodDescriptor yJl_bitCount.desc).map (fun d => d.parameters.length) = some 1 := by decide +kernel
theorem dm_T_right : yT_right.cls ≠ "java/lang/invoke/MethodHandle" ∧ yT_right.cls ≠ "java/lang/invoke/VarHandle" ∧ (parseMethodDescriptor yT_right.desc).map (fun d => d.parameters.length) = some 1 := by decide +kernel
theorem dm_B_holds : yB_holds.cls ≠ "java/lang/invoke/MethodHandle" ∧ yB_holds.cls ≠ "java/lang/invoke/VarHandle" ∧ (parseMethodDescriptor yB_holds.desc).map (fun d => d.parameters.length) = some 2 := by decide +kernel
theorem dm_C_add : yC_add.cls ≠ "java/lang/invoke/MethodHandle" ∧ yC_add.cls ≠ "java/lang/invoke/VarHandle" ∧ (parseMethodDescriptor yC_add.desc).map (fun d => d.parameters.length) = some 3 := by decide +kernel
theorem dm_C_admitSome : yC_admitSome.cls ≠ "java/lang/invoke/MethodHandle" ∧ yC_admitSome.cls ≠ "java/lang/invoke/VarHandle" ∧ (parseMethodDescriptor yC_admitSome.desc).map (fun d => d.parameters.length) = some 1 := by decide +kernel
theorem dm_C_addFromAll : yC_addFromAll.cls ≠ "java/lang/invoke/MethodHandle" ∧ yC_addFromAll.cls ≠ "java/lang/invoke/VarHandle" ∧ (parseMethodDescriptor yC_addFromAll.desc).map (fun d => d.parameters.length) = some 3 := by decide +kernel
theorem dm_B_nextBeyond : yB_nextBeyond.cls ≠ "java/lang/invoke/MethodHandle" ∧ yB_nextBeyond.cls ≠ "java/lang/invoke/VarHandle" ∧ (parseMethodDescriptor yB_nextBeyond.desc).map (fun d => d.parameters.length) = some 4 := by decide +kernel
theorem dm_A_told : yA_told.cls ≠ "java/lang/invoke/MethodHandle" ∧ yA_told.cls ≠ "java/lang/invoke/VarHandle" ∧ (parseMethodDescriptor yA_told.desc).map (fun d => d.parameters.length) = some 0 := by decide +kernel
theorem dm_C_hear : yC_hear.cls ≠ "java/lang/invoke/MethodHandle" ∧ yC_hear.cls ≠ "java/lang/invoke/VarHandle" ∧ (parseMethodDescriptor yC_hear.desc).map (fun d => d.parameters.length) = some 1 := by decide +kernel
theorem dm_A_first : yA_first.cls ≠ "java/lang/invoke/MethodHandle" ∧ yA_first.cls ≠ "java/lang/invoke/VarHandle" ∧ (parseMethodDescriptor yA_first.desc).map (fun d => d.parameters.length) = some 1 := by decide +kernel
theorem dm_A_second : yA_second.cls ≠ "java/lang/invoke/MethodHandle" ∧ yA_second.cls ≠ "java/lang/invoke/VarHandle" ∧ (parseMethodDescriptor yA_second.desc).map (fun d => d.parameters.length) = some 1 := by decide +kernel
theorem dm_A_kind : yA_kind.cls ≠ "java/lang/invoke/MethodHandle" ∧ yA_kind.cls ≠ "java/lang/invoke/VarHandle" ∧ (parseMethodDescriptor yA_kind.desc).map (fun d => d.parameters.length) = some 1 := by decide +kernel
theorem dm_A_third : yA_third.cls ≠ "java/lang/invoke/MethodHandle" ∧ yA_third.cls ≠ "java/lang/invoke/VarHandle" ∧ (parseMethodDescriptor yA_third.desc).map (fun d => d.parameters.length) = some 1 := by decide +kernel
theorem dm_C_begin : yC_begin.cls ≠ "java/lang/invoke/MethodHandle" ∧ yC_begin.cls ≠ "java/lang/invoke/VarHandle" ∧ (parseMethodDescriptor yC_begin.desc).map (fun d => d.parameters.length) = some 1 := by decide +kernel
theorem dm_C_saturate : yC_saturate.cls ≠ "java/lang/invoke/MethodHandle" ∧ yC_saturate.cls ≠ "java/lang/invoke/VarHandle" ∧ (parseMethodDescriptor yC_saturate.desc).map (fun d => d.parameters.length) = some 0 := by decide +kernel
theorem dm_B_drop : yB_drop.cls ≠ "java/lang/invoke/MethodHandle" ∧ yB_drop.cls ≠ "java/lang/invoke/VarHandle" ∧ (parseMethodDescriptor yB_drop.desc).map (fun d => d.parameters.length) = some 2 := by decide +kernel
theorem dm_C_emptySources : yC_emptySources.cls ≠ "java/lang/invoke/MethodHandle" ∧ yC_emptySources.cls ≠ "java/lang/invoke/VarHandle" ∧ (parseMethodDescriptor yC_emptySources.desc).map (fun d => d.parameters.length) = some 1 := by decide +kernel
theorem dm_C_isEmpty : yC_isEmpty.cls ≠ "java/lang/invoke/MethodHandle" ∧ yC_isEmpty.cls ≠ "java/lang/invoke/VarHandle" ∧ (parseMethodDescriptor yC_isEmpty.desc).map (fun d => d.parameters.length) = some 1 := by decide +kernel
theorem dm_C_addAll : yC_addAll.cls ≠ "java/lang/invoke/MethodHandle" ∧ yC_addAll.cls ≠ "java/lang/invoke/VarHandle" ∧ (parseMethodDescriptor yC_addAll.desc).map (fun d => d.parameters.length) = some 4 := by decide +kernel
theorem dm_C_drawParts : yC_drawParts.cls ≠ "java/lang/invoke/MethodHandle" ∧ yC_drawParts.cls ≠ "java/lang/invoke/VarHandle" ∧ (parseMethodDescriptor yC_drawParts.desc).map (fun d => d.parameters.length) = some 2 := by decide +kernel
theorem dm_C_drawBoths : yC_drawBoths.cls ≠ "java/lang/invoke/MethodHandle" ∧ yC_drawBoths.cls ≠ "java/lang/invoke/VarHandle" ∧ (parseMethodDescriptor yC_drawBoths.desc).map (fun d => d.parameters.length) = some 2 := by decide +kernel
theorem dm_T_otherPart : yT_otherPart.cls ≠ "java/lang/invoke/MethodHandle" ∧ yT_otherPart.cls ≠ "java/lang/invoke/VarHandle" ∧ (parseMethodDescriptor yT_otherPart.desc).map (fun d => d.parameters.length) = some 2 := by decide +kernel
theorem dm_C_drawSomes : yC_drawSomes.cls ≠ "java/lang/invoke/MethodHandle" ∧ yC_drawSomes.cls ≠ "java/lang/invoke/VarHandle" ∧ (parseMethodDescriptor yC_drawSomes.desc).map (fun d => d.parameters.length) = some 2 := by decide +kernel
theorem dm_T_findSome : yT_findSome.cls ≠ "java/lang/invoke/MethodHandle" ∧ yT_findSome.cls ≠ "java/lang/invoke/VarHandle" ∧ (parseMethodDescriptor yT_findSome.desc).map (fun d => d.parameters.length) = some 2 := by decide +kernel
theorem dm_C_drawFromLink : yC_drawFromLink.cls ≠ "java/lang/invoke/MethodHandle" ∧ yC_drawFromLink.cls ≠ "java/lang/invoke/VarHandle" ∧ (parseMethodDescriptor yC_drawFromLink.desc).map (fun d => d.parameters.length) = some 3 := by decide +kernel
theorem dm_C_drawFromChains : yC_drawFromChains.cls ≠ "java/lang/invoke/MethodHandle" ∧ yC_drawFromChains.cls ≠ "java/lang/invoke/VarHandle" ∧ (parseMethodDescriptor yC_drawFromChains.desc).map (fun d => d.parameters.length) = some 3 := by decide +kernel
theorem dm_T_names : yT_names.cls ≠ "java/lang/invoke/MethodHandle" ∧ yT_names.cls ≠ "java/lang/invoke/VarHandle" ∧ (parseMethodDescriptor yT_names.desc).map (fun d => d.parameters.length) = some 0 := by decide +kernel
theorem dm_A_inForce : yA_inForce.cls ≠ "java/lang/invoke/MethodHandle" ∧ yA_inForce.cls ≠ "java/lang/invoke/VarHandle" ∧ (parseMethodDescriptor yA_inForce.desc).map (fun d => d.parameters.length) = some 0 := by decide +kernel
theorem dm_S_countPairs : yS_countPairs.cls ≠ "java/lang/invoke/MethodHandle" ∧ yS_countPairs.cls ≠ "java/lang/invoke/VarHandle" ∧ (parseMethodDescriptor yS_countPairs.desc).map (fun d => d.parameters.length) = some 0 := by decide +kernel
theorem dm_C_covers : yC_covers.cls ≠ "java/lang/invoke/MethodHandle" ∧ yC_covers.cls ≠ "java/lang/invoke/VarHandle" ∧ (parseMethodDescriptor yC_covers.desc).map (fun d => d.parameters.length) = some 2 := by decide +kernel
theorem dm_S_countEmpty : yS_countEmpty.cls ≠ "java/lang/invoke/MethodHandle" ∧ yS_countEmpty.cls ≠ "java/lang/invoke/VarHandle" ∧ (parseMethodDescriptor yS_countEmpty.desc).map (fun d => d.parameters.length) = some 0 := by decide +kernel
theorem dm_S_countClasses : yS_countClasses.cls ≠ "java/lang/invoke/MethodHandle" ∧ yS_countClasses.cls ≠ "java/lang/invoke/VarHandle" ∧ (parseMethodDescriptor yS_countClasses.desc).map (fun d => d.parameters.length) = some 0 := by decide +kernel
theorem dm_S_leastEqual : yS_leastEqual.cls ≠ "java/lang/invoke/MethodHandle" ∧ yS_leastEqual.cls ≠ "java/lang/invoke/VarHandle" ∧ (parseMethodDescriptor yS_leastEqual.desc).map (fun d => d.parameters.length) = some 1 := by decide +kernel
theorem dm_L_both : yL_both.cls ≠ "java/lang/invoke/MethodHandle" ∧ yL_both.cls ≠ "java/lang/invoke/VarHandle" ∧ (parseMethodDescriptor yL_both.desc).map (fun d => d.parameters.length) = some 4 := by decide +kernel
theorem dm_S_both : yS_both.cls ≠ "java/lang/invoke/MethodHandle" ∧ yS_both.cls ≠ "java/lang/invoke/VarHandle" ∧ (parseMethodDescriptor yS_both.desc).map (fun d => d.parameters.length) = some 2 := by decide +kernel
theorem dm_S_checkTerm : yS_checkTerm.cls ≠ "java/lang/invoke/MethodHandle" ∧ yS_checkTerm.cls ≠ "java/lang/invoke/VarHandle" ∧ (parseMethodDescriptor yS_checkTerm.desc).map (fun d => d.parameters.length) = some 1 := by decide +kernel
theorem dm_T_findBoth : yT_findBoth.cls ≠ "java/lang/invoke/MethodHandle" ∧ yT_findBoth.cls ≠ "java/lang/invoke/VarHandle" ∧ (parseMethodDescriptor yT_findBoth.desc).map (fun d => d.parameters.length) = some 2 := by decide +kernel
theorem dm_L_some : yL_some.cls ≠ "java/lang/invoke/MethodHandle" ∧ yL_some.cls ≠ "java/lang/invoke/VarHandle" ∧ (parseMethodDescriptor yL_some.desc).map (fun d => d.parameters.length) = some 4 := by decide +kernel
theorem dm_S_some : yS_some.cls ≠ "java/lang/invoke/MethodHandle" ∧ yS_some.cls ≠ "java/lang/invoke/VarHandle" ∧ (parseMethodDescriptor yS_some.desc).map (fun d => d.parameters.length) = some 2 := by decide +kernel
theorem dm_S_checkRole : yS_checkRole.cls ≠ "java/lang/invoke/MethodHandle" ∧ yS_checkRole.cls ≠ "java/lang/invoke/VarHandle" ∧ (parseMethodDescriptor yS_checkRole.desc).map (fun d => d.parameters.length) = some 1 := by decide +kernel
theorem dm_L_below : yL_below.cls ≠ "java/lang/invoke/MethodHandle" ∧ yL_below.cls ≠ "java/lang/invoke/VarHandle" ∧ (parseMethodDescriptor yL_below.desc).map (fun d => d.parameters.length) = some 4 := by decide +kernel
theorem dm_S_below : yS_below.cls ≠ "java/lang/invoke/MethodHandle" ∧ yS_below.cls ≠ "java/lang/invoke/VarHandle" ∧ (parseMethodDescriptor yS_below.desc).map (fun d => d.parameters.length) = some 2 := by decide +kernel
theorem dm_A_tell : yA_tell.cls ≠ "java/lang/invoke/MethodHandle" ∧ yA_tell.cls ≠ "java/lang/invoke/VarHandle" ∧ (parseMethodDescriptor yA_tell.desc).map (fun d => d.parameters.length) = some 4 := by decide +kernel
theorem dm_L_equal : yL_equal.cls ≠ "java/lang/invoke/MethodHandle" ∧ yL_equal.cls ≠ "java/lang/invoke/VarHandle" ∧ (parseMethodDescriptor yL_equal.desc).map (fun d => d.parameters.length) = some 4 := by decide +kernel
theorem dm_S_equal : yS_equal.cls ≠ "java/lang/invoke/MethodHandle" ∧ yS_equal.cls ≠ "java/lang/invoke/VarHandle" ∧ (parseMethodDescriptor yS_equal.desc).map (fun d => d.parameters.length) = some 2 := by decide +kernel
theorem dm_L_roleBelow : yL_roleBelow.cls ≠ "java/lang/invoke/MethodHandle" ∧ yL_roleBelow.cls ≠ "java/lang/invoke/VarHandle" ∧ (parseMethodDescriptor yL_roleBelow.desc).map (fun d => d.parameters.length) = some 4 := by decide +kernel
theorem dm_S_roleBelow : yS_roleBelow.cls ≠ "java/lang/invoke/MethodHandle" ∧ yS_roleBelow.cls ≠ "java/lang/invoke/VarHandle" ∧ (parseMethodDescriptor yS_roleBelow.desc).map (fun d => d.parameters.length) = some 2 := by decide +kernel
theorem dm_L_chain : yL_chain.cls ≠ "java/lang/invoke/MethodHandle" ∧ yL_chain.cls ≠ "java/lang/invoke/VarHandle" ∧ (parseMethodDescriptor yL_chain.desc).map (fun d => d.parameters.length) = some 5 := by decide +kernel
theorem dm_S_chain : yS_chain.cls ≠ "java/lang/invoke/MethodHandle" ∧ yS_chain.cls ≠ "java/lang/invoke/VarHandle" ∧ (parseMethodDescriptor yS_chain.desc).map (fun d => d.parameters.length) = some 3 := by decide +kernel
theorem dm_L_isBelow : yL_isBelow.cls ≠ "java/lang/invoke/MethodHandle" ∧ yL_isBelow.cls ≠ "java/lang/invoke/VarHandle" ∧ (parseMethodDescriptor yL_isBelow.desc).map (fun d => d.parameters.length) = some 4 := by decide +kernel
theorem dm_S_isBelow : yS_isBelow.cls ≠ "java/lang/invoke/MethodHandle" ∧ yS_isBelow.cls ≠ "java/lang/invoke/VarHandle" ∧ (parseMethodDescriptor yS_isBelow.desc).map (fun d => d.parameters.length) = some 2 := by decide +kernel
theorem dm_C_place : yC_place.cls ≠ "java/lang/invoke/MethodHandle" ∧ yC_place.cls ≠ "java/lang/invoke/VarHandle" ∧ (parseMethodDescriptor yC_place.desc).map (fun d => d.parameters.length) = some 1 := by decide +kernel
theorem dm_L_supers : yL_supers.cls ≠ "java/lang/invoke/MethodHandle" ∧ yL_supers.cls ≠ "java/lang/invoke/VarHandle" ∧ (parseMethodDescriptor yL_supers.desc).map (fun d => d.parameters.length) = some 3 := by decide +kernel
theorem dm_S_supers : yS_supers.cls ≠ "java/lang/invoke/MethodHandle" ∧ yS_supers.cls ≠ "java/lang/invoke/VarHandle" ∧ (parseMethodDescriptor yS_supers.desc).map (fun d => d.parameters.length) = some 1 := by decide +kernel
theorem dm_S_isNameAbove : yS_isNameAbove.cls ≠ "java/lang/invoke/MethodHandle" ∧ yS_isNameAbove.cls ≠ "java/lang/invoke/VarHandle" ∧ (parseMethodDescriptor yS_isNameAbove.desc).map (fun d => d.parameters.length) = some 2 := by decide +kernel
theorem dm_T_isName : yT_isName.cls ≠ "java/lang/invoke/MethodHandle" ∧ yT_isName.cls ≠ "java/lang/invoke/VarHandle" ∧ (parseMethodDescriptor yT_isName.desc).map (fun d => d.parameters.length) = some 1 := by decide +kernel
theorem dm_L_sup : yL_sup.cls ≠ "java/lang/invoke/MethodHandle" ∧ yL_sup.cls ≠ "java/lang/invoke/VarHandle" ∧ (parseMethodDescriptor yL_sup.desc).map (fun d => d.parameters.length) = some 4 := by decide +kernel
theorem dm_S_sup : yS_sup.cls ≠ "java/lang/invoke/MethodHandle" ∧ yS_sup.cls ≠ "java/lang/invoke/VarHandle" ∧ (parseMethodDescriptor yS_sup.desc).map (fun d => d.parameters.length) = some 2 := by decide +kernel
theorem dm_L_direct : yL_direct.cls ≠ "java/lang/invoke/MethodHandle" ∧ yL_direct.cls ≠ "java/lang/invoke/VarHandle" ∧ (parseMethodDescriptor yL_direct.desc).map (fun d => d.parameters.length) = some 4 := by decide +kernel
theorem dm_S_direct : yS_direct.cls ≠ "java/lang/invoke/MethodHandle" ∧ yS_direct.cls ≠ "java/lang/invoke/VarHandle" ∧ (parseMethodDescriptor yS_direct.desc).map (fun d => d.parameters.length) = some 2 := by decide +kernel
theorem dm_C_placeWithAbove : yC_placeWithAbove.cls ≠ "java/lang/invoke/MethodHandle" ∧ yC_placeWithAbove.cls ≠ "java/lang/invoke/VarHandle" ∧ (parseMethodDescriptor yC_placeWithAbove.desc).map (fun d => d.parameters.length) = some 1 := by decide +kernel
theorem dm_S_isStrictlyBelow : yS_isStrictlyBelow.cls ≠ "java/lang/invoke/MethodHandle" ∧ yS_isStrictlyBelow.cls ≠ "java/lang/invoke/VarHandle" ∧ (parseMethodDescriptor yS_isStrictlyBelow.desc).map (fun d => d.parameters.length) = some 2 := by decide +kernel
theorem dm_L_twin : yL_twin.cls ≠ "java/lang/invoke/MethodHandle" ∧ yL_twin.cls ≠ "java/lang/invoke/VarHandle" ∧ (parseMethodDescriptor yL_twin.desc).map (fun d => d.parameters.length) = some 3 := by decide +kernel
theorem dm_S_twin : yS_twin.cls ≠ "java/lang/invoke/MethodHandle" ∧ yS_twin.cls ≠ "java/lang/invoke/VarHandle" ∧ (parseMethodDescriptor yS_twin.desc).map (fun d => d.parameters.length) = some 1 := by decide +kernel
theorem dm_L_common : yL_common.cls ≠ "java/lang/invoke/MethodHandle" ∧ yL_common.cls ≠ "java/lang/invoke/VarHandle" ∧ (parseMethodDescriptor yL_common.desc).map (fun d => d.parameters.length) = some 5 := by decide +kernel
theorem dm_S_common : yS_common.cls ≠ "java/lang/invoke/MethodHandle" ∧ yS_common.cls ≠ "java/lang/invoke/VarHandle" ∧ (parseMethodDescriptor yS_common.desc).map (fun d => d.parameters.length) = some 3 := by decide +kernel
theorem dm_S_isNameAboveBoth : yS_isNameAboveBoth.cls ≠ "java/lang/invoke/MethodHandle" ∧ yS_isNameAboveBoth.cls ≠ "java/lang/invoke/VarHandle" ∧ (parseMethodDescriptor yS_isNameAboveBoth.desc).map (fun d => d.parameters.length) = some 3 := by decide +kernel
theorem dm_S_isLowestAboveBoth : yS_isLowestAboveBoth.cls ≠ "java/lang/invoke/MethodHandle" ∧ yS_isLowestAboveBoth.cls ≠ "java/lang/invoke/VarHandle" ∧ (parseMethodDescriptor yS_isLowestAboveBoth.desc).map (fun d => d.parameters.length) = some 3 := by decide +kernel
theorem dm_L_why : yL_why.cls ≠ "java/lang/invoke/MethodHandle" ∧ yL_why.cls ≠ "java/lang/invoke/VarHandle" ∧ (parseMethodDescriptor yL_why.desc).map (fun d => d.parameters.length) = some 4 := by decide +kernel
theorem dm_S_why : yS_why.cls ≠ "java/lang/invoke/MethodHandle" ∧ yS_why.cls ≠ "java/lang/invoke/VarHandle" ∧ (parseMethodDescriptor yS_why.desc).map (fun d => d.parameters.length) = some 2 := by decide +kernel
theorem dm_S_reasonBefore : yS_reasonBefore.cls ≠ "java/lang/invoke/MethodHandle" ∧ yS_reasonBefore.cls ≠ "java/lang/invoke/VarHandle" ∧ (parseMethodDescriptor yS_reasonBefore.desc).map (fun d => d.parameters.length) = some 3 := by decide +kernel
theorem dm_L_has : yL_has.cls ≠ "java/lang/invoke/MethodHandle" ∧ yL_has.cls ≠ "java/lang/invoke/VarHandle" ∧ (parseMethodDescriptor yL_has.desc).map (fun d => d.parameters.length) = some 5 := by decide +kernel
theorem dm_S_has : yS_has.cls ≠ "java/lang/invoke/MethodHandle" ∧ yS_has.cls ≠ "java/lang/invoke/VarHandle" ∧ (parseMethodDescriptor yS_has.desc).map (fun d => d.parameters.length) = some 3 := by decide +kernel
theorem dm_C_reaches : yC_reaches.cls ≠ "java/lang/invoke/MethodHandle" ∧ yC_reaches.cls ≠ "java/lang/invoke/VarHandle" ∧ (parseMethodDescriptor yC_reaches.desc).map (fun d => d.parameters.length) = some 3 := by decide +kernel
theorem dm_M_init : yM_init.cls ≠ "java/lang/invoke/MethodHandle" ∧ yM_init.cls ≠ "java/lang/invoke/VarHandle" ∧ (parseMethodDescriptor yM_init.desc).map (fun d => d.parameters.length) = some 0 := by decide +kernel
theorem dm_M_thrown : yM_thrown.cls ≠ "java/lang/invoke/MethodHandle" ∧ yM_thrown.cls ≠ "java/lang/invoke/VarHandle" ∧ (parseMethodDescriptor yM_thrown.desc).map (fun d => d.parameters.length) = some 0 := by decide +kernel
theorem dm_M_name : yM_name.cls ≠ "java/lang/invoke/MethodHandle" ∧ yM_name.cls ≠ "java/lang/invoke/VarHandle" ∧ (parseMethodDescriptor yM_name.desc).map (fun d => d.parameters.length) = some 0 := by decide +kernel
theorem dm_M_made : yM_made.cls ≠ "java/lang/invoke/MethodHandle" ∧ yM_made.cls ≠ "java/lang/invoke/VarHandle" ∧ (parseMethodDescriptor yM_made.desc).map (fun d => d.parameters.length) = some 3 := by decide +kernel
theorem dm_M_both : yM_both.cls ≠ "java/lang/invoke/MethodHandle" ∧ yM_both.cls ≠ "java/lang/invoke/VarHandle" ∧ (parseMethodDescriptor yM_both.desc).map (fun d => d.parameters.length) = some 2 := by decide +kernel
theorem dm_M_isThere : yM_isThere.cls ≠ "java/lang/invoke/MethodHandle" ∧ yM_isThere.cls ≠ "java/lang/invoke/VarHandle" ∧ (parseMethodDescriptor yM_isThere.desc).map (fun d => d.parameters.length) = some 1 := by decide +kernel
theorem dm_M_fails : yM_fails.cls ≠ "java/lang/invoke/MethodHandle" ∧ yM_fails.cls ≠ "java/lang/invoke/VarHandle" ∧ (parseMethodDescriptor yM_fails.desc).map (fun d => d.parameters.length) = some 1 := by decide +kernel
theorem dm_M_some : yM_some.cls ≠ "java/lang/invoke/MethodHandle" ∧ yM_some.cls ≠ "java/lang/invoke/VarHandle" ∧ (parseMethodDescriptor yM_some.desc).map (fun d => d.parameters.length) = some 2 := by decide +kernel
theorem dm_M_isRole : yM_isRole.cls ≠ "java/lang/invoke/MethodHandle" ∧ yM_isRole.cls ≠ "java/lang/invoke/VarHandle" ∧ (parseMethodDescriptor yM_isRole.desc).map (fun d => d.parameters.length) = some 1 := by decide +kernel
theorem dm_M_below : yM_below.cls ≠ "java/lang/invoke/MethodHandle" ∧ yM_below.cls ≠ "java/lang/invoke/VarHandle" ∧ (parseMethodDescriptor yM_below.desc).map (fun d => d.parameters.length) = some 2 := by decide +kernel
theorem dm_M_axiom : yM_axiom.cls ≠ "java/lang/invoke/MethodHandle" ∧ yM_axiom.cls ≠ "java/lang/invoke/VarHandle" ∧ (parseMethodDescriptor yM_axiom.desc).map (fun d => d.parameters.length) = some 4 := by decide +kernel
theorem dm_M_equal : yM_equal.cls ≠ "java/lang/invoke/MethodHandle" ∧ yM_equal.cls ≠ "java/lang/invoke/VarHandle" ∧ (parseMethodDescriptor yM_equal.desc).map (fun d => d.parameters.length) = some 2 := by decide +kernel
theorem dm_M_roleBelow : yM_roleBelow.cls ≠ "java/lang/invoke/MethodHandle" ∧ yM_roleBelow.cls ≠ "java/lang/invoke/VarHandle" ∧ (parseMethodDescriptor yM_roleBelow.desc).map (fun d => d.parameters.length) = some 2 := by decide +kernel
theorem dm_M_chain : yM_chain.cls ≠ "java/lang/invoke/MethodHandle" ∧ yM_chain.cls ≠ "java/lang/invoke/VarHandle" ∧ (parseMethodDescriptor yM_chain.desc).map (fun d => d.parameters.length) = some 3 := by decide +kernel
theorem dm_M_retract : yM_retract.cls ≠ "java/lang/invoke/MethodHandle" ∧ yM_retract.cls ≠ "java/lang/invoke/VarHandle" ∧ (parseMethodDescriptor yM_retract.desc).map (fun d => d.parameters.length) = some 1 := by decide +kernel
theorem dm_M_isBelow : yM_isBelow.cls ≠ "java/lang/invoke/MethodHandle" ∧ yM_isBelow.cls ≠ "java/lang/invoke/VarHandle" ∧ (parseMethodDescriptor yM_isBelow.desc).map (fun d => d.parameters.length) = some 2 := by decide +kernel
theorem dm_M_close : yM_close.cls ≠ "java/lang/invoke/MethodHandle" ∧ yM_close.cls ≠ "java/lang/invoke/VarHandle" ∧ (parseMethodDescriptor yM_close.desc).map (fun d => d.parameters.length) = some 0 := by decide +kernel
theorem dm_M_follow : yM_follow.cls ≠ "java/lang/invoke/MethodHandle" ∧ yM_follow.cls ≠ "java/lang/invoke/VarHandle" ∧ (parseMethodDescriptor yM_follow.desc).map (fun d => d.parameters.length) = some 2 := by decide +kernel
theorem dm_M_add : yM_add.cls ≠ "java/lang/invoke/MethodHandle" ∧ yM_add.cls ≠ "java/lang/invoke/VarHandle" ∧ (parseMethodDescriptor yM_add.desc).map (fun d => d.parameters.length) = some 2 := by decide +kernel
theorem dm_M_in : yM_in.cls ≠ "java/lang/invoke/MethodHandle" ∧ yM_in.cls ≠ "java/lang/invoke/VarHandle" ∧ (parseMethodDescriptor yM_in.desc).map (fun d => d.parameters.length) = some 3 := by decide +kernel
theorem dm_M_set : yM_set.cls ≠ "java/lang/invoke/MethodHandle" ∧ yM_set.cls ≠ "java/lang/invoke/VarHandle" ∧ (parseMethodDescriptor yM_set.desc).map (fun d => d.parameters.length) = some 3 := by decide +kernel
theorem dm_M_byAxioms : yM_byAxioms.cls ≠ "java/lang/invoke/MethodHandle" ∧ yM_byAxioms.cls ≠ "java/lang/invoke/VarHandle" ∧ (parseMethodDescriptor yM_byAxioms.desc).map (fun d => d.parameters.length) = some 1 := by decide +kernel
theorem dm_M_row : yM_row.cls ≠ "java/lang/invoke/MethodHandle" ∧ yM_row.cls ≠ "java/lang/invoke/VarHandle" ∧ (parseMethodDescriptor yM_row.desc).map (fun d => d.parameters.length) = some 2 := by decide +kernel
theorem dm_M_join : yM_join.cls ≠ "java/lang/invoke/MethodHandle" ∧ yM_join.cls ≠ "java/lang/invoke/VarHandle" ∧ (parseMethodDescriptor yM_join.desc).map (fun d => d.parameters.length) = some 2 := by decide +kernel
theorem dm_M_byChain : yM_byChain.cls ≠ "java/lang/invoke/MethodHandle" ∧ yM_byChain.cls ≠ "java/lang/invoke/VarHandle" ∧ (parseMethodDescriptor yM_byChain.desc).map (fun d => d.parameters.length) = some 4 := by decide +kernel
theorem dm_M_byDescriptions : yM_byDescriptions.cls ≠ "java/lang/invoke/MethodHandle" ∧ yM_byDescriptions.cls ≠ "java/lang/invoke/VarHandle" ∧ (parseMethodDescriptor yM_byDescriptions.desc).map (fun d => d.parameters.length) = some 1 := by decide +kernel
theorem dm_M_meets : yM_meets.cls ≠ "java/lang/invoke/MethodHandle" ∧ yM_meets.cls ≠ "java/lang/invoke/VarHandle" ∧ (parseMethodDescriptor yM_meets.desc).map (fun d => d.parameters.length) = some 3 := by decide +kernel
theorem dm_M_byNothing : yM_byNothing.cls ≠ "java/lang/invoke/MethodHandle" ∧ yM_byNothing.cls ≠ "java/lang/invoke/VarHandle" ∧ (parseMethodDescriptor yM_byNothing.desc).map (fun d => d.parameters.length) = some 1 := by decide +kernel
theorem dm_M_supers : yM_supers.cls ≠ "java/lang/invoke/MethodHandle" ∧ yM_supers.cls ≠ "java/lang/invoke/VarHandle" ∧ (parseMethodDescriptor yM_supers.desc).map (fun d => d.parameters.length) = some 1 := by decide +kernel
theorem dm_M_sup : yM_sup.cls ≠ "java/lang/invoke/MethodHandle" ∧ yM_sup.cls ≠ "java/lang/invoke/VarHandle" ∧ (parseMethodDescriptor yM_sup.desc).map (fun d => d.parameters.length) = some 2 := by decide +kernel
theorem dm_M_direct : yM_direct.cls ≠ "java/lang/invoke/MethodHandle" ∧ yM_direct.cls ≠ "java/lang/invoke/VarHandle" ∧ (parseMethodDescriptor yM_direct.desc).map (fun d => d.parameters.length) = some 2 := by decide +kernel
theorem dm_M_strictly : yM_strictly.cls ≠ "java/lang/invoke/MethodHandle" ∧ yM_strictly.cls ≠ "java/lang/invoke/VarHandle" ∧ (parseMethodDescriptor yM_strictly.desc).map (fun d => d.parameters.length) = some 2 := by decide +kernel
theorem dm_M_twin : yM_twin.cls ≠ "java/lang/invoke/MethodHandle" ∧ yM_twin.cls ≠ "java/lang/invoke/VarHandle" ∧ (parseMethodDescriptor yM_twin.desc).map (fun d => d.parameters.length) = some 1 := by decide +kernel
theorem dm_M_least : yM_least.cls ≠ "java/lang/invoke/MethodHandle" ∧ yM_least.cls ≠ "java/lang/invoke/VarHandle" ∧ (parseMethodDescriptor yM_least.desc).map (fun d => d.parameters.length) = some 1 := by decide +kernel
theorem dm_M_common : yM_common.cls ≠ "java/lang/invoke/MethodHandle" ∧ yM_common.cls ≠ "java/lang/invoke/VarHandle" ∧ (parseMethodDescriptor yM_common.desc).map (fun d => d.parameters.length) = some 3 := by decide +kernel
theorem dm_M_isCommon : yM_isCommon.cls ≠ "java/lang/invoke/MethodHandle" ∧ yM_isCommon.cls ≠ "java/lang/invoke/VarHandle" ∧ (parseMethodDescriptor yM_isCommon.desc).map (fun d => d.parameters.length) = some 3 := by decide +kernel
theorem dm_M_why : yM_why.cls ≠ "java/lang/invoke/MethodHandle" ∧ yM_why.cls ≠ "java/lang/invoke/VarHandle" ∧ (parseMethodDescriptor yM_why.desc).map (fun d => d.parameters.length) = some 2 := by decide +kernel
theorem dm_M_reason : yM_reason.cls ≠ "java/lang/invoke/MethodHandle" ∧ yM_reason.cls ≠ "java/lang/invoke/VarHandle" ∧ (parseMethodDescriptor yM_reason.desc).map (fun d => d.parameters.length) = some 1 := by decide +kernel
theorem dm_M_has : yM_has.cls ≠ "java/lang/invoke/MethodHandle" ∧ yM_has.cls ≠ "java/lang/invoke/VarHandle" ∧ (parseMethodDescriptor yM_has.desc).map (fun d => d.parameters.length) = some 3 := by decide +kernel
theorem dm_M_count : yM_count.cls ≠ "java/lang/invoke/MethodHandle" ∧ yM_count.cls ≠ "java/lang/invoke/VarHandle" ∧ (parseMethodDescriptor yM_count.desc).map (fun d => d.parameters.length) = some 1 := by decide +kernel
theorem dm_M_pairs : yM_pairs.cls ≠ "java/lang/invoke/MethodHandle" ∧ yM_pairs.cls ≠ "java/lang/invoke/VarHandle" ∧ (parseMethodDescriptor yM_pairs.desc).map (fun d => d.parameters.length) = some 0 := by decide +kernel
theorem ini_B : Cond.initialized RcB ∈ wA := wA_m (tb_1 (List.mem_of_getElem? (i := 3) rfl)) rfl
theorem ins_B : Cond.instantiable RcB 3 ∈ wA := wA_m (tb_1 (List.mem_of_getElem? (i := 29) rfl)) rfl
theorem ini_T : Cond.initialized RcT ∈ wA := wA_m (tb_1 (List.mem_of_getElem? (i := 2) rfl)) rfl
theorem ins_T : Cond.instantiable RcT 8 ∈ wA := wA_m (tb_1 (List.mem_of_getElem? (i := 23) rfl)) rfl
theorem ini_A : Cond.initialized RcA ∈ wA := wA_m (tb_1 (List.mem_of_getElem? (i := 5) rfl)) rfl
theorem ins_A : Cond.instantiable RcA 7 ∈ wA := wA_m (tb_1 (List.mem_of_getElem? (i := 77) rfl)) rfl
theorem ini_C : Cond.initialized RcC ∈ wA := wA_m (tb_1 (List.mem_of_getElem? (i := 6) rfl)) rfl
theorem ins_C : Cond.instantiable RcC 12 ∈ wA := wA_m (tb_1 (List.mem_of_getElem? (i := 106) rfl)) rfl
theorem ini_S : Cond.initialized RcS ∈ wA := wA_m (tb_1 (List.mem_of_getElem? (i := 1) rfl)) rfl
theorem ins_S : Cond.instantiable RcS 5 ∈ wA := wA_m (tb_1 (List.mem_of_getElem? (i := 15) rfl)) rfl
theorem ini_M : Cond.initialized RcM ∈ wA := wA_m (tb_1 (List.mem_of_getElem? (i := 7) rfl)) rfl
theorem ins_M : Cond.instantiable RcM 19 ∈ wA := wA_m (tb_3 (List.mem_of_getElem? (i := 130) rfl)) rfl
theorem ini_L : Cond.initialized RcL ∈ wA := wA_m (tb_1 (List.mem_of_getElem? (i := 0) rfl)) rfl
theorem ini_Jl : Cond.initialized RcJl ∈ wA := wA_m (tb_1 (List.mem_of_getElem? (i := 12) rfl)) rfl
theorem ini_Ja : Cond.initialized RcJa ∈ wA := wA_m (tb_1 (List.mem_of_getElem? (i := 4) rfl)) rfl
theorem ini_Jm : Cond.initialized RcJm ∈ wA := wA_m (tb_1 (List.mem_of_getElem? (i := 13) rfl)) rfl
theorem arr_int : Cond.arrayClass .int ∈ wA := wA_m (tb_1 (List.mem_of_getElem? (i := 44) rfl)) rfl
theorem arr_long : Cond.arrayClass .long ∈ wA := wA_m (tb_1 (List.mem_of_getElem? (i := 45) rfl)) rfl
theorem arr_boolean : Cond.arrayClass .boolean ∈ wA := wA_m (tb_1 (List.mem_of_getElem? (i := 104) rfl)) rfl
theorem mcl_L_8 : Cond.classLink RcL 8 RcS ∈ wA := wA_m (tb_1 (List.mem_of_getElem? (i := 14) rfl)) rfl
theorem mcl_S_7 : Cond.classLink RcS 7 RcT ∈ wA := wA_m (tb_1 (List.mem_of_getElem? (i := 22) rfl)) rfl
theorem mcl_T_24 : Cond.classLink RcT 24 RcB ∈ wA := wA_m (tb_1 (List.mem_of_getElem? (i := 28) rfl)) rfl
theorem mcl_S_16 : Cond.classLink RcS 16 RcA ∈ wA := wA_m (tb_1 (List.mem_of_getElem? (i := 76) rfl)) rfl
theorem mcl_S_23 : Cond.classLink RcS 23 RcC ∈ wA := wA_m (tb_1 (List.mem_of_getElem? (i := 105) rfl)) rfl
theorem mcl_C_19 : Cond.classLink RcC 19 RcB ∈ wA := wA_m (tb_1 (List.mem_of_getElem? (i := 111) rfl)) rfl
theorem mcl_L_59 : Cond.classLink RcL 59 RcM ∈ wA := wA_m (tb_3 (List.mem_of_getElem? (i := 129) rfl)) rfl
theorem mct_Jl_314 : Cond.constantLong RcJl 314 (6148914691236517205) ∈ wA := wA_m (tb_2 (List.mem_of_getElem? (i := 7) rfl)) rfl
theorem mct_Jl_316 : Cond.constantLong RcJl 316 (3689348814741910323) ∈ wA := wA_m (tb_2 (List.mem_of_getElem? (i := 8) rfl)) rfl
theorem mct_Jl_318 : Cond.constantLong RcJl 318 (1085102592571150095) ∈ wA := wA_m (tb_2 (List.mem_of_getElem? (i := 9) rfl)) rfl
theorem mct_B_20 : Cond.constantLong RcB 20 (-1) ∈ wA := wA_m (tb_2 (List.mem_of_getElem? (i := 35) rfl)) rfl
theorem mct_C_119 : Cond.constant RcC 119 (179200) ∈ wA := wA_m (tb_2 (List.mem_of_getElem? (i := 69) rfl)) rfl
