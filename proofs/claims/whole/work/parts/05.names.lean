-- ===== PART A: goes FIRST, ahead of the names: the tables' words, and 'selects' of the private methods out of them =====
/-- a private method of a class that the tables say can be made, by its rows of tables_1 -/
def lw_okq (q : MethodName × Nat) : Prop := (q.1.cls ≠ "java/lang/invoke/MethodHandle" ∧ q.1.cls ≠ "java/lang/invoke/VarHandle") ∧ Cond.instantiable q.1.cls q.2 ∈ tables_1 ∧ Cond.privateMethod q.1 ∈ tables_1 ∧ Cond.instanceMethod q.1 ∈ tables_1
theorem lw_p0 : lw_okq (⟨"SpellDesk$Dictionary", "placeFor", "(LSpellDesk$Letters;)I"⟩, 2) := ⟨⟨by decide +kernel, by decide +kernel⟩, List.mem_of_getElem? (i := 35) (by decide +kernel), List.mem_of_getElem? (i := 178) (by decide +kernel), List.mem_of_getElem? (i := 179) (by decide +kernel)⟩
theorem lw_p1 : lw_okq (⟨"SpellDesk$EditTable", "leastCost", "(LSpellDesk$Letters;ILSpellDesk$Letters;I)I"⟩, 1) := ⟨⟨by decide +kernel, by decide +kernel⟩, List.mem_of_getElem? (i := 67) (by decide +kernel), List.mem_of_getElem? (i := 231) (by decide +kernel), List.mem_of_getElem? (i := 232) (by decide +kernel)⟩
theorem lw_p2 : lw_okq (⟨"SpellDesk", "measureAll", "()V"⟩, 5) := ⟨⟨by decide +kernel, by decide +kernel⟩, List.mem_of_getElem? (i := 10) (by decide +kernel), List.mem_of_getElem? (i := 241) (by decide +kernel), List.mem_of_getElem? (i := 242) (by decide +kernel)⟩
theorem lw_p3 : lw_okq (⟨"SpellDesk", "placeAmongSuggestions", "(I)I"⟩, 5) := ⟨⟨by decide +kernel, by decide +kernel⟩, List.mem_of_getElem? (i := 10) (by decide +kernel), List.mem_of_getElem? (i := 249) (by decide +kernel), List.mem_of_getElem? (i := 250) (by decide +kernel)⟩
theorem lw_p4 : lw_okq (⟨"SpellDesk", "isSuggestedBefore", "(II)Z"⟩, 5) := ⟨⟨by decide +kernel, by decide +kernel⟩, List.mem_of_getElem? (i := 10) (by decide +kernel), List.mem_of_getElem? (i := 253) (by decide +kernel), List.mem_of_getElem? (i := 254) (by decide +kernel)⟩
theorem lw_p5 : lw_okq (⟨"SpellDesk", "isCompletion", "(I)Z"⟩, 5) := ⟨⟨by decide +kernel, by decide +kernel⟩, List.mem_of_getElem? (i := 10) (by decide +kernel), List.mem_of_getElem? (i := 265) (by decide +kernel), List.mem_of_getElem? (i := 266) (by decide +kernel)⟩
theorem lw_p6 : lw_okq (⟨"SpellDesk", "placeAmongCompletions", "(I)I"⟩, 5) := ⟨⟨by decide +kernel, by decide +kernel⟩, List.mem_of_getElem? (i := 10) (by decide +kernel), List.mem_of_getElem? (i := 270) (by decide +kernel), List.mem_of_getElem? (i := 271) (by decide +kernel)⟩
theorem lw_p7 : lw_okq (⟨"SpellDesk$EditTable", "firstEdit", "(LSpellDesk$Letters;ILSpellDesk$Letters;I)I"⟩, 1) := ⟨⟨by decide +kernel, by decide +kernel⟩, List.mem_of_getElem? (i := 67) (by decide +kernel), List.mem_of_getElem? (i := 283) (by decide +kernel), List.mem_of_getElem? (i := 284) (by decide +kernel)⟩
theorem lw_p8 : lw_okq (⟨"SpellDesk$DropTable", "listsWithin", "(LSpellDesk$Letters;II)I"⟩, 1) := ⟨⟨by decide +kernel, by decide +kernel⟩, List.mem_of_getElem? (i := 79) (by decide +kernel), List.mem_of_getElem? (i := 295) (by decide +kernel), List.mem_of_getElem? (i := 296) (by decide +kernel)⟩
theorem lw_p9 : lw_okq (⟨"SpellDesk$DropTable", "placeBefore", "(LSpellDesk$Letters;I)I"⟩, 1) := ⟨⟨by decide +kernel, by decide +kernel⟩, List.mem_of_getElem? (i := 79) (by decide +kernel), List.mem_of_getElem? (i := 299) (by decide +kernel), List.mem_of_getElem? (i := 300) (by decide +kernel)⟩
theorem lw_p10 : lw_okq (⟨"SpellDeskModel", "same", "()I"⟩, 8) := ⟨⟨by decide +kernel, by decide +kernel⟩, List.mem_of_getElem? (i := 304) (by decide +kernel), List.mem_of_getElem? (i := 361) (by decide +kernel), List.mem_of_getElem? (i := 362) (by decide +kernel)⟩
theorem lw_p11 : lw_okq (⟨"SpellDeskModel", "beginsTyped", "(I)Z"⟩, 8) := ⟨⟨by decide +kernel, by decide +kernel⟩, List.mem_of_getElem? (i := 304) (by decide +kernel), List.mem_of_getElem? (i := 365) (by decide +kernel), List.mem_of_getElem? (i := 366) (by decide +kernel)⟩
theorem lw_p12 : lw_okq (⟨"SpellDeskModel", "place", "(I)I"⟩, 8) := ⟨⟨by decide +kernel, by decide +kernel⟩, List.mem_of_getElem? (i := 304) (by decide +kernel), List.mem_of_getElem? (i := 373) (by decide +kernel), List.mem_of_getElem? (i := 374) (by decide +kernel)⟩
theorem lw_p13 : lw_okq (⟨"SpellDeskModel", "rankOf", "(I)I"⟩, 8) := ⟨⟨by decide +kernel, by decide +kernel⟩, List.mem_of_getElem? (i := 304) (by decide +kernel), List.mem_of_getElem? (i := 377) (by decide +kernel), List.mem_of_getElem? (i := 378) (by decide +kernel)⟩
theorem lw_p14 : lw_okq (⟨"SpellDeskModel", "before", "(II)Z"⟩, 8) := ⟨⟨by decide +kernel, by decide +kernel⟩, List.mem_of_getElem? (i := 304) (by decide +kernel), List.mem_of_getElem? (i := 381) (by decide +kernel), List.mem_of_getElem? (i := 382) (by decide +kernel)⟩
theorem lw_p15 : lw_okq (⟨"SpellDeskModel", "at", "(II)I"⟩, 8) := ⟨⟨by decide +kernel, by decide +kernel⟩, List.mem_of_getElem? (i := 304) (by decide +kernel), List.mem_of_getElem? (i := 385) (by decide +kernel), List.mem_of_getElem? (i := 386) (by decide +kernel)⟩
def lw_privs_1 : List (MethodName × Nat) := [(⟨"SpellDesk$Dictionary", "placeFor", "(LSpellDesk$Letters;)I"⟩, 2), (⟨"SpellDesk$EditTable", "leastCost", "(LSpellDesk$Letters;ILSpellDesk$Letters;I)I"⟩, 1), (⟨"SpellDesk", "measureAll", "()V"⟩, 5), (⟨"SpellDesk", "placeAmongSuggestions", "(I)I"⟩, 5), (⟨"SpellDesk", "isSuggestedBefore", "(II)Z"⟩, 5), (⟨"SpellDesk", "isCompletion", "(I)Z"⟩, 5), (⟨"SpellDesk", "placeAmongCompletions", "(I)I"⟩, 5), (⟨"SpellDesk$EditTable", "firstEdit", "(LSpellDesk$Letters;ILSpellDesk$Letters;I)I"⟩, 1), (⟨"SpellDesk$DropTable", "listsWithin", "(LSpellDesk$Letters;II)I"⟩, 1), (⟨"SpellDesk$DropTable", "placeBefore", "(LSpellDesk$Letters;I)I"⟩, 1), (⟨"SpellDeskModel", "same", "()I"⟩, 8), (⟨"SpellDeskModel", "beginsTyped", "(I)Z"⟩, 8), (⟨"SpellDeskModel", "place", "(I)I"⟩, 8), (⟨"SpellDeskModel", "rankOf", "(I)I"⟩, 8), (⟨"SpellDeskModel", "before", "(II)Z"⟩, 8), (⟨"SpellDeskModel", "at", "(II)I"⟩, 8)]
theorem lw_r1 : ∀ q ∈ lw_privs_1, lw_okq q := List.forall_mem_cons.mpr ⟨lw_p0, List.forall_mem_cons.mpr ⟨lw_p1, List.forall_mem_cons.mpr ⟨lw_p2, List.forall_mem_cons.mpr ⟨lw_p3, List.forall_mem_cons.mpr ⟨lw_p4, List.forall_mem_cons.mpr ⟨lw_p5, List.forall_mem_cons.mpr ⟨lw_p6, List.forall_mem_cons.mpr ⟨lw_p7, List.forall_mem_cons.mpr ⟨lw_p8, List.forall_mem_cons.mpr ⟨lw_p9, List.forall_mem_cons.mpr ⟨lw_p10, List.forall_mem_cons.mpr ⟨lw_p11, List.forall_mem_cons.mpr ⟨lw_p12, List.forall_mem_cons.mpr ⟨lw_p13, List.forall_mem_cons.mpr ⟨lw_p14, List.forall_mem_cons.mpr ⟨lw_p15, fun _ h => absurd h List.not_mem_nil⟩⟩⟩⟩⟩⟩⟩⟩⟩⟩⟩⟩⟩⟩⟩⟩
theorem lw_p16 : lw_okq (⟨"SpellDeskModel", "far", "(III)I"⟩, 8) := ⟨⟨by decide +kernel, by decide +kernel⟩, List.mem_of_getElem? (i := 304) (by decide +kernel), List.mem_of_getElem? (i := 409) (by decide +kernel), List.mem_of_getElem? (i := 410) (by decide +kernel)⟩
theorem lw_p17 : lw_okq (⟨"SpellDeskModel", "reach", "(II)V"⟩, 8) := ⟨⟨by decide +kernel, by decide +kernel⟩, List.mem_of_getElem? (i := 304) (by decide +kernel), List.mem_of_getElem? (i := 413) (by decide +kernel), List.mem_of_getElem? (i := 414) (by decide +kernel)⟩
theorem lw_p18 : lw_okq (⟨"SpellDeskModel", "better", "(IIII)Z"⟩, 8) := ⟨⟨by decide +kernel, by decide +kernel⟩, List.mem_of_getElem? (i := 304) (by decide +kernel), List.mem_of_getElem? (i := 425) (by decide +kernel), List.mem_of_getElem? (i := 426) (by decide +kernel)⟩
theorem lw_p19 : lw_okq (⟨"SpellDeskModel", "next", "(IIII)I"⟩, 8) := ⟨⟨by decide +kernel, by decide +kernel⟩, List.mem_of_getElem? (i := 304) (by decide +kernel), List.mem_of_getElem? (i := 437) (by decide +kernel), List.mem_of_getElem? (i := 438) (by decide +kernel)⟩
theorem lw_p20 : lw_okq (⟨"SpellDeskModel", "left", "(I)J"⟩, 8) := ⟨⟨by decide +kernel, by decide +kernel⟩, List.mem_of_getElem? (i := 304) (by decide +kernel), List.mem_of_getElem? (i := 448) (by decide +kernel), List.mem_of_getElem? (i := 449) (by decide +kernel)⟩
def lw_privs_2 : List (MethodName × Nat) := [(⟨"SpellDeskModel", "far", "(III)I"⟩, 8), (⟨"SpellDeskModel", "reach", "(II)V"⟩, 8), (⟨"SpellDeskModel", "better", "(IIII)Z"⟩, 8), (⟨"SpellDeskModel", "next", "(IIII)I"⟩, 8), (⟨"SpellDeskModel", "left", "(I)J"⟩, 8)]
theorem lw_r2 : ∀ q ∈ lw_privs_2, lw_okq q := List.forall_mem_cons.mpr ⟨lw_p16, List.forall_mem_cons.mpr ⟨lw_p17, List.forall_mem_cons.mpr ⟨lw_p18, List.forall_mem_cons.mpr ⟨lw_p19, List.forall_mem_cons.mpr ⟨lw_p20, fun _ h => absurd h List.not_mem_nil⟩⟩⟩⟩⟩
def lw_privs : List (MethodName × Nat) := lw_privs_1 ++ (lw_privs_2)
def lw_tbl : List Cond := k2_sels lw_privs ++ tables_1
theorem lw_privs_ok : ∀ q ∈ lw_privs, lw_okq q := by
  show ∀ q ∈ lw_privs_1 ++ (lw_privs_2), lw_okq q
  exact List.forall_mem_append.mpr ⟨lw_r1, lw_r2⟩

/-- the words that hold all through a run -/
def zz : List Cond := lw_tbl.filter goodWord
theorem zz_good (w : Cond) (h : w ∈ zz) : (w.onTables && w.keeps) = true ∨ ∃ ty, w = .arrayClass ty := good_of_word (List.mem_filter.mp h).2
theorem zz_in {w : Cond} (i : Nat) (h : lw_tbl[i]? = some w) (hg : goodWord w = true) : w ∈ zz := List.mem_filter.mpr ⟨List.mem_of_getElem? h, hg⟩
theorem zz_sub {w : Cond} (h : w ∈ zz) : w ∈ lw_tbl := (List.mem_filter.mp h).1

def R_S : String := "SpellDesk"
def R_M : String := "SpellDeskModel"
def R_D : String := "SpellDesk$Dictionary"
def R_R : String := "SpellDesk$DropTable"
def R_E : String := "SpellDesk$EditTable"
def R_L : String := "SpellDesk$Letters"
def R_W : String := "SpellDesk$Word"
def R_A : String := "SpellDeskLaw"
def F_L : u_T := fun k => match k with
  | 0 => ("SpellDesk$Letters", "row", "[I", true)
  | _ => ("SpellDesk$Letters", "size", "I", false)
def t_L : Nat → FieldType := fun k => match k with
  | 0 => .array .int
  | _ => .int
theorem n_L : ∀ a, a < 2 → ∀ b, b < 2 → a ≠ b → (F_L a).2.1 ≠ (F_L b).2.1 := by decide +kernel
theorem t_L_ok : ∀ k, k < 2 → parseFieldDescriptor (F_L k).2.2.1 = some (t_L k) := by decide +kernel
theorem u_L : ∀ w ∈ u_ws R_L F_L 2, w ∈ zz := by
  intro w hw
  obtain ⟨k, hk, rfl⟩ := List.mem_map.mp hw
  have hk := List.mem_range.mp hk
  match k, hk with
  | 0, _ => exact zz_in 49 (by decide +kernel) (by decide +kernel)
  | 1, _ => exact zz_in 51 (by decide +kernel) (by decide +kernel)
def F_W : u_T := fun k => match k with
  | 0 => ("SpellDesk$Word", "letters", "LSpellDesk$Letters;", true)
  | _ => ("SpellDesk$Word", "times", "I", false)
def t_W : Nat → FieldType := fun k => match k with
  | 0 => .object "SpellDesk$Letters"
  | _ => .int
theorem n_W : ∀ a, a < 2 → ∀ b, b < 2 → a ≠ b → (F_W a).2.1 ≠ (F_W b).2.1 := by decide +kernel
theorem t_W_ok : ∀ k, k < 2 → parseFieldDescriptor (F_W k).2.2.1 = some (t_W k) := by decide +kernel
theorem u_W : ∀ w ∈ u_ws R_W F_W 2, w ∈ zz := by
  intro w hw
  obtain ⟨k, hk, rfl⟩ := List.mem_map.mp hw
  have hk := List.mem_range.mp hk
  match k, hk with
  | 0, _ => exact zz_in 74 (by decide +kernel) (by decide +kernel)
  | 1, _ => exact zz_in 76 (by decide +kernel) (by decide +kernel)
def F_D : u_T := fun k => match k with
  | 0 => ("SpellDesk$Dictionary", "row", "[LSpellDesk$Word;", true)
  | _ => ("SpellDesk$Dictionary", "size", "I", false)
def t_D : Nat → FieldType := fun k => match k with
  | 0 => .array (.object "SpellDesk$Word")
  | _ => .int
theorem n_D : ∀ a, a < 2 → ∀ b, b < 2 → a ≠ b → (F_D a).2.1 ≠ (F_D b).2.1 := by decide +kernel
theorem t_D_ok : ∀ k, k < 2 → parseFieldDescriptor (F_D k).2.2.1 = some (t_D k) := by decide +kernel
theorem u_D : ∀ w ∈ u_ws R_D F_D 2, w ∈ zz := by
  intro w hw
  obtain ⟨k, hk, rfl⟩ := List.mem_map.mp hw
  have hk := List.mem_range.mp hk
  match k, hk with
  | 0, _ => exact zz_in 82 (by decide +kernel) (by decide +kernel)
  | 1, _ => exact zz_in 84 (by decide +kernel) (by decide +kernel)
def F_E : u_T := fun k => match k with
  | _ => ("SpellDesk$EditTable", "cost", "[[I", true)
def t_E : Nat → FieldType := fun k => match k with
  | _ => .array (.array .int)
theorem n_E : ∀ a, a < 1 → ∀ b, b < 1 → a ≠ b → (F_E a).2.1 ≠ (F_E b).2.1 := by decide +kernel
theorem t_E_ok : ∀ k, k < 1 → parseFieldDescriptor (F_E k).2.2.1 = some (t_E k) := by decide +kernel
theorem u_E : ∀ w ∈ u_ws R_E F_E 1, w ∈ zz := by
  intro w hw
  obtain ⟨k, hk, rfl⟩ := List.mem_map.mp hw
  have hk := List.mem_range.mp hk
  match k, hk with
  | 0, _ => exact zz_in 96 (by decide +kernel) (by decide +kernel)
def F_R : u_T := fun k => match k with
  | _ => ("SpellDesk$DropTable", "lists", "[[I", true)
def t_R : Nat → FieldType := fun k => match k with
  | _ => .array (.array .int)
theorem n_R : ∀ a, a < 1 → ∀ b, b < 1 → a ≠ b → (F_R a).2.1 ≠ (F_R b).2.1 := by decide +kernel
theorem t_R_ok : ∀ k, k < 1 → parseFieldDescriptor (F_R k).2.2.1 = some (t_R k) := by decide +kernel
theorem u_R : ∀ w ∈ u_ws R_R F_R 1, w ∈ zz := by
  intro w hw
  obtain ⟨k, hk, rfl⟩ := List.mem_map.mp hw
  have hk := List.mem_range.mp hk
  match k, hk with
  | 0, _ => exact zz_in 107 (by decide +kernel) (by decide +kernel)
def F_S : u_T := fun k => match k with
  | 0 => ("SpellDesk", "input", "LSpellDesk$Letters;", true)
  | 1 => ("SpellDesk", "dictionary", "LSpellDesk$Dictionary;", true)
  | 2 => ("SpellDesk", "edits", "LSpellDesk$EditTable;", true)
  | 3 => ("SpellDesk", "dropTable", "LSpellDesk$DropTable;", true)
  | _ => ("SpellDesk", "distances", "[I", true)
def t_S : Nat → FieldType := fun k => match k with
  | 0 => .object "SpellDesk$Letters"
  | 1 => .object "SpellDesk$Dictionary"
  | 2 => .object "SpellDesk$EditTable"
  | 3 => .object "SpellDesk$DropTable"
  | _ => .array .int
theorem n_S : ∀ a, a < 5 → ∀ b, b < 5 → a ≠ b → (F_S a).2.1 ≠ (F_S b).2.1 := by decide +kernel
theorem t_S_ok : ∀ k, k < 5 → parseFieldDescriptor (F_S k).2.2.1 = some (t_S k) := by decide +kernel
theorem u_S : ∀ w ∈ u_ws R_S F_S 5, w ∈ zz := by
  intro w hw
  obtain ⟨k, hk, rfl⟩ := List.mem_map.mp hw
  have hk := List.mem_range.mp hk
  match k, hk with
  | 0, _ => exact zz_in 115 (by decide +kernel) (by decide +kernel)
  | 1, _ => exact zz_in 117 (by decide +kernel) (by decide +kernel)
  | 2, _ => exact zz_in 119 (by decide +kernel) (by decide +kernel)
  | 3, _ => exact zz_in 121 (by decide +kernel) (by decide +kernel)
  | 4, _ => exact zz_in 123 (by decide +kernel) (by decide +kernel)
def F_M : u_T := fun k => match k with
  | 0 => ("SpellDeskModel", "typed", "[I", true)
  | 1 => ("SpellDeskModel", "length", "I", false)
  | 2 => ("SpellDeskModel", "letters", "[I", true)
  | 3 => ("SpellDeskModel", "sizes", "[I", true)
  | 4 => ("SpellDeskModel", "counts", "[I", true)
  | 5 => ("SpellDeskModel", "words", "I", false)
  | 6 => ("SpellDeskModel", "reached", "[I", true)
  | _ => ("SpellDeskModel", "lists", "[J", true)
def t_M : Nat → FieldType := fun k => match k with
  | 0 => .array .int
  | 1 => .int
  | 2 => .array .int
  | 3 => .array .int
  | 4 => .array .int
  | 5 => .int
  | 6 => .array .int
  | _ => .array .long
theorem n_M : ∀ a, a < 8 → ∀ b, b < 8 → a ≠ b → (F_M a).2.1 ≠ (F_M b).2.1 := by decide +kernel
theorem t_M_ok : ∀ k, k < 8 → parseFieldDescriptor (F_M k).2.2.1 = some (t_M k) := by decide +kernel
theorem u_M : ∀ w ∈ u_ws R_M F_M 8, w ∈ zz := by
  intro w hw
  obtain ⟨k, hk, rfl⟩ := List.mem_map.mp hw
  have hk := List.mem_range.mp hk
  match k, hk with
  | 0, _ => exact zz_in 338 (by decide +kernel) (by decide +kernel)
  | 1, _ => exact zz_in 340 (by decide +kernel) (by decide +kernel)
  | 2, _ => exact zz_in 342 (by decide +kernel) (by decide +kernel)
  | 3, _ => exact zz_in 344 (by decide +kernel) (by decide +kernel)
  | 4, _ => exact zz_in 346 (by decide +kernel) (by decide +kernel)
  | 5, _ => exact zz_in 348 (by decide +kernel) (by decide +kernel)
  | 6, _ => exact zz_in 350 (by decide +kernel) (by decide +kernel)
  | 7, _ => exact zz_in 352 (by decide +kernel) (by decide +kernel)
abbrev classes : List vw_C := [(R_L, F_L, 2), (R_W, F_W, 2), (R_D, F_D, 2), (R_E, F_E, 1), (R_R, F_R, 1), (R_S, F_S, 5), (R_M, F_M, 8)]
abbrev kL : Nat := 0
abbrev kW : Nat := 1
abbrev kD : Nat := 2
abbrev kE : Nat := 3
abbrev kR : Nat := 4
abbrev kS : Nat := 5
abbrev kM : Nat := 6
abbrev b_S_init : ByteArray := prog_1_method_1_code
def y_S_init : MethodName := ⟨R_S, "<init>", "()V"⟩
abbrev b_S_key : ByteArray := prog_1_method_2_code
def y_S_key : MethodName := ⟨R_S, "key", "(I)Z"⟩
abbrev b_S_back : ByteArray := prog_1_method_3_code
def y_S_back : MethodName := ⟨R_S, "back", "()Z"⟩
abbrev b_S_wipe : ByteArray := prog_1_method_4_code
def y_S_wipe : MethodName := ⟨R_S, "wipe", "()V"⟩
abbrev b_S_length : ByteArray := prog_1_method_5_code
def y_S_length : MethodName := ⟨R_S, "length", "()I"⟩
abbrev b_S_typed : ByteArray := prog_1_method_6_code
def y_S_typed : MethodName := ⟨R_S, "typed", "(I)I"⟩
abbrev b_S_learn : ByteArray := prog_1_method_7_code
def y_S_learn : MethodName := ⟨R_S, "learn", "(I)I"⟩
abbrev b_S_forget : ByteArray := prog_1_method_8_code
def y_S_forget : MethodName := ⟨R_S, "forget", "(I)Z"⟩
abbrev b_S_words : ByteArray := prog_1_method_9_code
def y_S_words : MethodName := ⟨R_S, "words", "()I"⟩
abbrev b_S_letter : ByteArray := prog_1_method_10_code
def y_S_letter : MethodName := ⟨R_S, "letter", "(II)I"⟩
abbrev b_S_count : ByteArray := prog_1_method_11_code
def y_S_count : MethodName := ⟨R_S, "count", "(I)I"⟩
abbrev b_S_rank : ByteArray := prog_1_method_12_code
def y_S_rank : MethodName := ⟨R_S, "rank", "()I"⟩
abbrev b_S_distance : ByteArray := prog_1_method_13_code
def y_S_distance : MethodName := ⟨R_S, "distance", "(I)I"⟩
abbrev b_S_near : ByteArray := prog_1_method_14_code
def y_S_near : MethodName := ⟨R_S, "near", "(I)I"⟩
abbrev b_S_suggest : ByteArray := prog_1_method_15_code
def y_S_suggest : MethodName := ⟨R_S, "suggest", "(II)I"⟩
abbrev b_S_complete : ByteArray := prog_1_method_16_code
def y_S_complete : MethodName := ⟨R_S, "complete", "(I)I"⟩
abbrev b_S_edit : ByteArray := prog_1_method_17_code
def y_S_edit : MethodName := ⟨R_S, "edit", "(II)I"⟩
abbrev b_S_drops : ByteArray := prog_1_method_18_code
def y_S_drops : MethodName := ⟨R_S, "drops", "(I)I"⟩
abbrev b_S_measureAll : ByteArray := prog_1_method_19_code
def y_S_measureAll : MethodName := ⟨R_S, "measureAll", "()V"⟩
abbrev b_S_placeAmongSuggestions : ByteArray := prog_1_method_20_code
def y_S_placeAmongSuggestions : MethodName := ⟨R_S, "placeAmongSuggestions", "(I)I"⟩
abbrev b_S_isSuggestedBefore : ByteArray := prog_1_method_21_code
def y_S_isSuggestedBefore : MethodName := ⟨R_S, "isSuggestedBefore", "(II)Z"⟩
abbrev b_S_placeAmongCompletions : ByteArray := prog_1_method_22_code
def y_S_placeAmongCompletions : MethodName := ⟨R_S, "placeAmongCompletions", "(I)I"⟩
abbrev b_S_isCompletion : ByteArray := prog_1_method_23_code
def y_S_isCompletion : MethodName := ⟨R_S, "isCompletion", "(I)Z"⟩
abbrev b_M_init : ByteArray := prog_8_method_1_code
def y_M_init : MethodName := ⟨R_M, "<init>", "()V"⟩
abbrev b_M_key : ByteArray := prog_8_method_2_code
def y_M_key : MethodName := ⟨R_M, "key", "(I)Z"⟩
abbrev b_M_back : ByteArray := prog_8_method_3_code
def y_M_back : MethodName := ⟨R_M, "back", "()Z"⟩
abbrev b_M_wipe : ByteArray := prog_8_method_4_code
def y_M_wipe : MethodName := ⟨R_M, "wipe", "()V"⟩
abbrev b_M_length : ByteArray := prog_8_method_5_code
def y_M_length : MethodName := ⟨R_M, "length", "()I"⟩
abbrev b_M_typed : ByteArray := prog_8_method_6_code
def y_M_typed : MethodName := ⟨R_M, "typed", "(I)I"⟩
abbrev b_M_at : ByteArray := prog_8_method_7_code
def y_M_at : MethodName := ⟨R_M, "at", "(II)I"⟩
abbrev b_M_before : ByteArray := prog_8_method_8_code
def y_M_before : MethodName := ⟨R_M, "before", "(II)Z"⟩
abbrev b_M_rankOf : ByteArray := prog_8_method_9_code
def y_M_rankOf : MethodName := ⟨R_M, "rankOf", "(I)I"⟩
abbrev b_M_place : ByteArray := prog_8_method_10_code
def y_M_place : MethodName := ⟨R_M, "place", "(I)I"⟩
abbrev b_M_beginsTyped : ByteArray := prog_8_method_11_code
def y_M_beginsTyped : MethodName := ⟨R_M, "beginsTyped", "(I)Z"⟩
abbrev b_M_same : ByteArray := prog_8_method_12_code
def y_M_same : MethodName := ⟨R_M, "same", "()I"⟩
abbrev b_M_learn : ByteArray := prog_8_method_13_code
def y_M_learn : MethodName := ⟨R_M, "learn", "(I)I"⟩
abbrev b_M_forget : ByteArray := prog_8_method_14_code
def y_M_forget : MethodName := ⟨R_M, "forget", "(I)Z"⟩
abbrev b_M_words : ByteArray := prog_8_method_15_code
def y_M_words : MethodName := ⟨R_M, "words", "()I"⟩
abbrev b_M_letter : ByteArray := prog_8_method_16_code
def y_M_letter : MethodName := ⟨R_M, "letter", "(II)I"⟩
abbrev b_M_count : ByteArray := prog_8_method_17_code
def y_M_count : MethodName := ⟨R_M, "count", "(I)I"⟩
abbrev b_M_rank : ByteArray := prog_8_method_18_code
def y_M_rank : MethodName := ⟨R_M, "rank", "()I"⟩
abbrev b_M_reach : ByteArray := prog_8_method_19_code
def y_M_reach : MethodName := ⟨R_M, "reach", "(II)V"⟩
abbrev b_M_far : ByteArray := prog_8_method_20_code
def y_M_far : MethodName := ⟨R_M, "far", "(III)I"⟩
abbrev b_M_distance : ByteArray := prog_8_method_21_code
def y_M_distance : MethodName := ⟨R_M, "distance", "(I)I"⟩
abbrev b_M_near : ByteArray := prog_8_method_22_code
def y_M_near : MethodName := ⟨R_M, "near", "(I)I"⟩
abbrev b_M_better : ByteArray := prog_8_method_23_code
def y_M_better : MethodName := ⟨R_M, "better", "(IIII)Z"⟩
abbrev b_M_suggest : ByteArray := prog_8_method_24_code
def y_M_suggest : MethodName := ⟨R_M, "suggest", "(II)I"⟩
abbrev b_M_complete : ByteArray := prog_8_method_25_code
def y_M_complete : MethodName := ⟨R_M, "complete", "(I)I"⟩
abbrev b_M_edit : ByteArray := prog_8_method_26_code
def y_M_edit : MethodName := ⟨R_M, "edit", "(II)I"⟩
abbrev b_M_next : ByteArray := prog_8_method_27_code
def y_M_next : MethodName := ⟨R_M, "next", "(IIII)I"⟩
abbrev b_M_left : ByteArray := prog_8_method_28_code
def y_M_left : MethodName := ⟨R_M, "left", "(I)J"⟩
abbrev b_M_bits : ByteArray := prog_8_method_29_code
def y_M_bits : MethodName := ⟨R_M, "bits", "(I)I"⟩
abbrev b_M_drops : ByteArray := prog_8_method_30_code
def y_M_drops : MethodName := ⟨R_M, "drops", "(I)I"⟩
abbrev b_D_init : ByteArray := prog_2_method_1_code
def y_D_init : MethodName := ⟨R_D, "<init>", "()V"⟩
abbrev b_D_has : ByteArray := prog_2_method_2_code
def y_D_has : MethodName := ⟨R_D, "has", "(I)Z"⟩
abbrev b_D_lettersOf : ByteArray := prog_2_method_3_code
def y_D_lettersOf : MethodName := ⟨R_D, "lettersOf", "(I)LSpellDesk$Letters;"⟩
abbrev b_D_timesOf : ByteArray := prog_2_method_4_code
def y_D_timesOf : MethodName := ⟨R_D, "timesOf", "(I)I"⟩
abbrev b_D_addTimes : ByteArray := prog_2_method_5_code
def y_D_addTimes : MethodName := ⟨R_D, "addTimes", "(II)V"⟩
abbrev b_D_isPreferred : ByteArray := prog_2_method_6_code
def y_D_isPreferred : MethodName := ⟨R_D, "isPreferred", "(II)Z"⟩
abbrev b_D_find : ByteArray := prog_2_method_7_code
def y_D_find : MethodName := ⟨R_D, "find", "(LSpellDesk$Letters;)I"⟩
abbrev b_D_insert : ByteArray := prog_2_method_8_code
def y_D_insert : MethodName := ⟨R_D, "insert", "(LSpellDesk$Letters;I)Z"⟩
abbrev b_D_remove : ByteArray := prog_2_method_9_code
def y_D_remove : MethodName := ⟨R_D, "remove", "(I)Z"⟩
abbrev b_D_placeFor : ByteArray := prog_2_method_10_code
def y_D_placeFor : MethodName := ⟨R_D, "placeFor", "(LSpellDesk$Letters;)I"⟩
abbrev b_R_init : ByteArray := prog_3_method_1_code
def y_R_init : MethodName := ⟨R_R, "<init>", "()V"⟩
abbrev b_R_listsOf : ByteArray := prog_3_method_2_code
def y_R_listsOf : MethodName := ⟨R_R, "listsOf", "(LSpellDesk$Letters;I)I"⟩
abbrev b_R_listsWithin : ByteArray := prog_3_method_3_code
def y_R_listsWithin : MethodName := ⟨R_R, "listsWithin", "(LSpellDesk$Letters;II)I"⟩
abbrev b_R_placeBefore : ByteArray := prog_3_method_4_code
def y_R_placeBefore : MethodName := ⟨R_R, "placeBefore", "(LSpellDesk$Letters;I)I"⟩
abbrev b_E_init : ByteArray := prog_4_method_1_code
def y_E_init : MethodName := ⟨R_E, "<init>", "()V"⟩
abbrev b_E_measure : ByteArray := prog_4_method_2_code
def y_E_measure : MethodName := ⟨R_E, "measure", "(LSpellDesk$Letters;LSpellDesk$Letters;)I"⟩
abbrev b_E_editAt : ByteArray := prog_4_method_3_code
def y_E_editAt : MethodName := ⟨R_E, "editAt", "(LSpellDesk$Letters;LSpellDesk$Letters;I)I"⟩
abbrev b_E_leastCost : ByteArray := prog_4_method_4_code
def y_E_leastCost : MethodName := ⟨R_E, "leastCost", "(LSpellDesk$Letters;ILSpellDesk$Letters;I)I"⟩
abbrev b_E_firstEdit : ByteArray := prog_4_method_5_code
def y_E_firstEdit : MethodName := ⟨R_E, "firstEdit", "(LSpellDesk$Letters;ILSpellDesk$Letters;I)I"⟩
abbrev b_L_init : ByteArray := prog_5_method_1_code
def y_L_init : MethodName := ⟨R_L, "<init>", "(I)V"⟩
abbrev b_L_at : ByteArray := prog_5_method_2_code
def y_L_at : MethodName := ⟨R_L, "at", "(I)I"⟩
abbrev b_L_append : ByteArray := prog_5_method_3_code
def y_L_append : MethodName := ⟨R_L, "append", "(I)Z"⟩
abbrev b_L_removeLast : ByteArray := prog_5_method_4_code
def y_L_removeLast : MethodName := ⟨R_L, "removeLast", "()Z"⟩
abbrev b_L_clear : ByteArray := prog_5_method_5_code
def y_L_clear : MethodName := ⟨R_L, "clear", "()V"⟩
abbrev b_L_copyFrom : ByteArray := prog_5_method_6_code
def y_L_copyFrom : MethodName := ⟨R_L, "copyFrom", "(LSpellDesk$Letters;)V"⟩
abbrev b_L_beginsWith : ByteArray := prog_5_method_7_code
def y_L_beginsWith : MethodName := ⟨R_L, "beginsWith", "(LSpellDesk$Letters;)Z"⟩
abbrev b_L_isSameAs : ByteArray := prog_5_method_8_code
def y_L_isSameAs : MethodName := ⟨R_L, "isSameAs", "(LSpellDesk$Letters;)Z"⟩
abbrev b_L_isBefore : ByteArray := prog_5_method_9_code
def y_L_isBefore : MethodName := ⟨R_L, "isBefore", "(LSpellDesk$Letters;)Z"⟩
abbrev b_W_init : ByteArray := prog_6_method_1_code
def y_W_init : MethodName := ⟨R_W, "<init>", "()V"⟩
abbrev b_A_law : ByteArray := code
def y_A_law : MethodName := ⟨R_A, "law", "([I)Z"⟩
theorem in_A : (Cond.initialized R_A) ∈ zz := zz_in 21 (by decide +kernel) (by decide +kernel)
theorem in_S : (Cond.initialized R_S) ∈ zz := zz_in 22 (by decide +kernel) (by decide +kernel)
theorem in_L : (Cond.initialized R_L) ∈ zz := zz_in 23 (by decide +kernel) (by decide +kernel)
theorem in_D : (Cond.initialized R_D) ∈ zz := zz_in 24 (by decide +kernel) (by decide +kernel)
theorem in_W : (Cond.initialized R_W) ∈ zz := zz_in 25 (by decide +kernel) (by decide +kernel)
theorem in_E : (Cond.initialized R_E) ∈ zz := zz_in 26 (by decide +kernel) (by decide +kernel)
theorem in_R : (Cond.initialized R_R) ∈ zz := zz_in 27 (by decide +kernel) (by decide +kernel)
theorem in_M : (Cond.initialized R_M) ∈ zz := zz_in 28 (by decide +kernel) (by decide +kernel)
theorem in_Math : (Cond.initialized "java/lang/Math") ∈ zz := zz_in 29 (by decide +kernel) (by decide +kernel)
theorem cl_A_7 : (Cond.classLink R_A (7) R_S) ∈ zz := zz_in 30 (by decide +kernel) (by decide +kernel)
theorem ib_S : (Cond.instantiable R_S (5)) ∈ zz := zz_in 31 (by decide +kernel) (by decide +kernel)
theorem ml_A_9 : (Cond.methodLink R_A (9) y_S_init) ∈ zz := zz_in 32 (by decide +kernel) (by decide +kernel)
theorem im_S_init : (Cond.instanceMethod y_S_init) ∈ zz := zz_in 33 (by decide +kernel) (by decide +kernel)
theorem cd_S_init : (Cond.code y_S_init prog_1_method_1_code (1) (Option.none : Option FieldType)) ∈ zz := zz_in 34 (by decide +kernel) (by decide +kernel)
theorem ml_S_3 : (Cond.methodLink R_S (3) ⟨"java/lang/Object", "<init>", "()V"⟩) ∈ zz := zz_in 35 (by decide +kernel) (by decide +kernel)
theorem im_Object_init : (Cond.instanceMethod ⟨"java/lang/Object", "<init>", "()V"⟩) ∈ zz := zz_in 36 (by decide +kernel) (by decide +kernel)
theorem cd_Object_init : (Cond.code ⟨"java/lang/Object", "<init>", "()V"⟩ object_method_1_code (1) (Option.none : Option FieldType)) ∈ zz := zz_in 37 (by decide +kernel) (by decide +kernel)
theorem cl_S_9 : (Cond.classLink R_S (9) R_L) ∈ zz := zz_in 38 (by decide +kernel) (by decide +kernel)
theorem ib_L : (Cond.instantiable R_L (2)) ∈ zz := zz_in 39 (by decide +kernel) (by decide +kernel)
theorem ml_S_11 : (Cond.methodLink R_S (11) y_L_init) ∈ zz := zz_in 40 (by decide +kernel) (by decide +kernel)
theorem im_L_init : (Cond.instanceMethod y_L_init) ∈ zz := zz_in 41 (by decide +kernel) (by decide +kernel)
theorem cd_L_init : (Cond.code y_L_init prog_5_method_1_code (2) (Option.none : Option FieldType)) ∈ zz := zz_in 42 (by decide +kernel) (by decide +kernel)
theorem ml_L_3 : (Cond.methodLink R_L (3) ⟨"java/lang/Object", "<init>", "()V"⟩) ∈ zz := zz_in 43 (by decide +kernel) (by decide +kernel)
theorem fl_L_9 : (Cond.fieldLink R_L (9) R_L "row" "[I") ∈ zz := zz_in 44 (by decide +kernel) (by decide +kernel)
theorem fl_L_15 : (Cond.fieldLink R_L (15) R_L "size" "I") ∈ zz := zz_in 45 (by decide +kernel) (by decide +kernel)
theorem ac_int : (Cond.arrayClass FieldType.int) ∈ zz := zz_in 54 (by decide +kernel) (by decide +kernel)
theorem cl_S_18 : (Cond.classLink R_S (18) R_D) ∈ zz := zz_in 55 (by decide +kernel) (by decide +kernel)
theorem ib_D : (Cond.instantiable R_D (2)) ∈ zz := zz_in 56 (by decide +kernel) (by decide +kernel)
theorem ml_S_20 : (Cond.methodLink R_S (20) y_D_init) ∈ zz := zz_in 57 (by decide +kernel) (by decide +kernel)
theorem im_D_init : (Cond.instanceMethod y_D_init) ∈ zz := zz_in 58 (by decide +kernel) (by decide +kernel)
theorem cd_D_init : (Cond.code y_D_init prog_2_method_1_code (2) (Option.none : Option FieldType)) ∈ zz := zz_in 59 (by decide +kernel) (by decide +kernel)
theorem ml_D_3 : (Cond.methodLink R_D (3) ⟨"java/lang/Object", "<init>", "()V"⟩) ∈ zz := zz_in 60 (by decide +kernel) (by decide +kernel)
theorem cl_D_9 : (Cond.classLink R_D (9) R_W) ∈ zz := zz_in 61 (by decide +kernel) (by decide +kernel)
theorem ib_W : (Cond.instantiable R_W (2)) ∈ zz := zz_in 63 (by decide +kernel) (by decide +kernel)
theorem ml_D_17 : (Cond.methodLink R_D (17) y_W_init) ∈ zz := zz_in 64 (by decide +kernel) (by decide +kernel)
theorem im_W_init : (Cond.instanceMethod y_W_init) ∈ zz := zz_in 65 (by decide +kernel) (by decide +kernel)
theorem cd_W_init : (Cond.code y_W_init prog_6_method_1_code (1) (Option.none : Option FieldType)) ∈ zz := zz_in 66 (by decide +kernel) (by decide +kernel)
theorem ml_W_3 : (Cond.methodLink R_W (3) ⟨"java/lang/Object", "<init>", "()V"⟩) ∈ zz := zz_in 67 (by decide +kernel) (by decide +kernel)
theorem cl_W_9 : (Cond.classLink R_W (9) R_L) ∈ zz := zz_in 68 (by decide +kernel) (by decide +kernel)
theorem ml_W_11 : (Cond.methodLink R_W (11) y_L_init) ∈ zz := zz_in 69 (by decide +kernel) (by decide +kernel)
theorem fl_W_14 : (Cond.fieldLink R_W (14) R_W "letters" "LSpellDesk$Letters;") ∈ zz := zz_in 70 (by decide +kernel) (by decide +kernel)
theorem fl_W_20 : (Cond.fieldLink R_W (20) R_W "times" "I") ∈ zz := zz_in 72 (by decide +kernel) (by decide +kernel)
theorem fl_D_11 : (Cond.fieldLink R_D (11) R_D "row" "[LSpellDesk$Word;") ∈ zz := zz_in 79 (by decide +kernel) (by decide +kernel)
theorem fl_D_18 : (Cond.fieldLink R_D (18) R_D "size" "I") ∈ zz := zz_in 80 (by decide +kernel) (by decide +kernel)
theorem cl_S_25 : (Cond.classLink R_S (25) R_E) ∈ zz := zz_in 87 (by decide +kernel) (by decide +kernel)
theorem ib_E : (Cond.instantiable R_E (1)) ∈ zz := zz_in 88 (by decide +kernel) (by decide +kernel)
theorem ml_S_27 : (Cond.methodLink R_S (27) y_E_init) ∈ zz := zz_in 89 (by decide +kernel) (by decide +kernel)
theorem im_E_init : (Cond.instanceMethod y_E_init) ∈ zz := zz_in 90 (by decide +kernel) (by decide +kernel)
theorem cd_E_init : (Cond.code y_E_init prog_4_method_1_code (1) (Option.none : Option FieldType)) ∈ zz := zz_in 91 (by decide +kernel) (by decide +kernel)
theorem ml_E_3 : (Cond.methodLink R_E (3) ⟨"java/lang/Object", "<init>", "()V"⟩) ∈ zz := zz_in 92 (by decide +kernel) (by decide +kernel)
theorem cl_E_9 : (Cond.classLink R_E (9) "[[I") ∈ zz := zz_in 93 (by decide +kernel) (by decide +kernel)
theorem fl_E_11 : (Cond.fieldLink R_E (11) R_E "cost" "[[I") ∈ zz := zz_in 95 (by decide +kernel) (by decide +kernel)
theorem cl_S_32 : (Cond.classLink R_S (32) R_R) ∈ zz := zz_in 99 (by decide +kernel) (by decide +kernel)
theorem ib_R : (Cond.instantiable R_R (1)) ∈ zz := zz_in 100 (by decide +kernel) (by decide +kernel)
theorem ml_S_34 : (Cond.methodLink R_S (34) y_R_init) ∈ zz := zz_in 101 (by decide +kernel) (by decide +kernel)
theorem im_R_init : (Cond.instanceMethod y_R_init) ∈ zz := zz_in 102 (by decide +kernel) (by decide +kernel)
theorem cd_R_init : (Cond.code y_R_init prog_3_method_1_code (1) (Option.none : Option FieldType)) ∈ zz := zz_in 103 (by decide +kernel) (by decide +kernel)
theorem ml_R_3 : (Cond.methodLink R_R (3) ⟨"java/lang/Object", "<init>", "()V"⟩) ∈ zz := zz_in 104 (by decide +kernel) (by decide +kernel)
theorem cl_R_9 : (Cond.classLink R_R (9) "[[I") ∈ zz := zz_in 105 (by decide +kernel) (by decide +kernel)
theorem fl_R_11 : (Cond.fieldLink R_R (11) R_R "lists" "[[I") ∈ zz := zz_in 106 (by decide +kernel) (by decide +kernel)
theorem fl_S_14 : (Cond.fieldLink R_S (14) R_S "input" "LSpellDesk$Letters;") ∈ zz := zz_in 110 (by decide +kernel) (by decide +kernel)
theorem fl_S_21 : (Cond.fieldLink R_S (21) R_S "dictionary" "LSpellDesk$Dictionary;") ∈ zz := zz_in 111 (by decide +kernel) (by decide +kernel)
theorem fl_S_28 : (Cond.fieldLink R_S (28) R_S "edits" "LSpellDesk$EditTable;") ∈ zz := zz_in 112 (by decide +kernel) (by decide +kernel)
theorem fl_S_35 : (Cond.fieldLink R_S (35) R_S "dropTable" "LSpellDesk$DropTable;") ∈ zz := zz_in 113 (by decide +kernel) (by decide +kernel)
theorem fl_S_39 : (Cond.fieldLink R_S (39) R_S "distances" "[I") ∈ zz := zz_in 114 (by decide +kernel) (by decide +kernel)
theorem ml_A_13 : (Cond.methodLink R_A (13) y_S_key) ∈ zz := zz_in 126 (by decide +kernel) (by decide +kernel)
theorem im_S_key : (Cond.instanceMethod y_S_key) ∈ zz := zz_in 127 (by decide +kernel) (by decide +kernel)
theorem se_S_key : (Cond.selects R_S y_S_key y_S_key) ∈ zz := zz_in 128 (by decide +kernel) (by decide +kernel)
theorem cd_S_key : (Cond.code y_S_key prog_1_method_2_code (2) (Option.some FieldType.boolean)) ∈ zz := zz_in 129 (by decide +kernel) (by decide +kernel)
theorem ml_S_43 : (Cond.methodLink R_S (43) y_L_append) ∈ zz := zz_in 130 (by decide +kernel) (by decide +kernel)
theorem im_L_append : (Cond.instanceMethod y_L_append) ∈ zz := zz_in 131 (by decide +kernel) (by decide +kernel)
theorem se_L_append : (Cond.selects R_L y_L_append y_L_append) ∈ zz := zz_in 132 (by decide +kernel) (by decide +kernel)
theorem cd_L_append : (Cond.code y_L_append prog_5_method_3_code (2) (Option.some FieldType.boolean)) ∈ zz := zz_in 133 (by decide +kernel) (by decide +kernel)
theorem ml_A_18 : (Cond.methodLink R_A (18) y_S_back) ∈ zz := zz_in 134 (by decide +kernel) (by decide +kernel)
theorem im_S_back : (Cond.instanceMethod y_S_back) ∈ zz := zz_in 135 (by decide +kernel) (by decide +kernel)
theorem se_S_back : (Cond.selects R_S y_S_back y_S_back) ∈ zz := zz_in 136 (by decide +kernel) (by decide +kernel)
theorem cd_S_back : (Cond.code y_S_back prog_1_method_3_code (1) (Option.some FieldType.boolean)) ∈ zz := zz_in 137 (by decide +kernel) (by decide +kernel)
theorem ml_S_47 : (Cond.methodLink R_S (47) y_L_removeLast) ∈ zz := zz_in 138 (by decide +kernel) (by decide +kernel)
theorem im_L_removeLast : (Cond.instanceMethod y_L_removeLast) ∈ zz := zz_in 139 (by decide +kernel) (by decide +kernel)
theorem se_L_removeLast : (Cond.selects R_L y_L_removeLast y_L_removeLast) ∈ zz := zz_in 140 (by decide +kernel) (by decide +kernel)
theorem cd_L_removeLast : (Cond.code y_L_removeLast prog_5_method_4_code (1) (Option.some FieldType.boolean)) ∈ zz := zz_in 141 (by decide +kernel) (by decide +kernel)
theorem ml_A_23 : (Cond.methodLink R_A (23) y_S_wipe) ∈ zz := zz_in 142 (by decide +kernel) (by decide +kernel)
theorem im_S_wipe : (Cond.instanceMethod y_S_wipe) ∈ zz := zz_in 143 (by decide +kernel) (by decide +kernel)
theorem se_S_wipe : (Cond.selects R_S y_S_wipe y_S_wipe) ∈ zz := zz_in 144 (by decide +kernel) (by decide +kernel)
theorem cd_S_wipe : (Cond.code y_S_wipe prog_1_method_4_code (1) (Option.none : Option FieldType)) ∈ zz := zz_in 145 (by decide +kernel) (by decide +kernel)
theorem ml_S_51 : (Cond.methodLink R_S (51) y_L_clear) ∈ zz := zz_in 146 (by decide +kernel) (by decide +kernel)
theorem im_L_clear : (Cond.instanceMethod y_L_clear) ∈ zz := zz_in 147 (by decide +kernel) (by decide +kernel)
theorem se_L_clear : (Cond.selects R_L y_L_clear y_L_clear) ∈ zz := zz_in 148 (by decide +kernel) (by decide +kernel)
theorem cd_L_clear : (Cond.code y_L_clear prog_5_method_5_code (1) (Option.none : Option FieldType)) ∈ zz := zz_in 149 (by decide +kernel) (by decide +kernel)
theorem ml_A_27 : (Cond.methodLink R_A (27) y_S_length) ∈ zz := zz_in 150 (by decide +kernel) (by decide +kernel)
theorem im_S_length : (Cond.instanceMethod y_S_length) ∈ zz := zz_in 151 (by decide +kernel) (by decide +kernel)
theorem se_S_length : (Cond.selects R_S y_S_length y_S_length) ∈ zz := zz_in 152 (by decide +kernel) (by decide +kernel)
theorem cd_S_length : (Cond.code y_S_length prog_1_method_5_code (1) (Option.some FieldType.int)) ∈ zz := zz_in 153 (by decide +kernel) (by decide +kernel)
theorem ml_A_32 : (Cond.methodLink R_A (32) y_S_typed) ∈ zz := zz_in 154 (by decide +kernel) (by decide +kernel)
theorem im_S_typed : (Cond.instanceMethod y_S_typed) ∈ zz := zz_in 155 (by decide +kernel) (by decide +kernel)
theorem se_S_typed : (Cond.selects R_S y_S_typed y_S_typed) ∈ zz := zz_in 156 (by decide +kernel) (by decide +kernel)
theorem cd_S_typed : (Cond.code y_S_typed prog_1_method_6_code (2) (Option.some FieldType.int)) ∈ zz := zz_in 157 (by decide +kernel) (by decide +kernel)
theorem ml_S_58 : (Cond.methodLink R_S (58) y_L_at) ∈ zz := zz_in 158 (by decide +kernel) (by decide +kernel)
theorem im_L_at : (Cond.instanceMethod y_L_at) ∈ zz := zz_in 159 (by decide +kernel) (by decide +kernel)
theorem se_L_at : (Cond.selects R_L y_L_at y_L_at) ∈ zz := zz_in 160 (by decide +kernel) (by decide +kernel)
theorem cd_L_at : (Cond.code y_L_at prog_5_method_2_code (2) (Option.some FieldType.int)) ∈ zz := zz_in 161 (by decide +kernel) (by decide +kernel)
theorem ml_A_37 : (Cond.methodLink R_A (37) y_S_learn) ∈ zz := zz_in 162 (by decide +kernel) (by decide +kernel)
theorem im_S_learn : (Cond.instanceMethod y_S_learn) ∈ zz := zz_in 163 (by decide +kernel) (by decide +kernel)
theorem se_S_learn : (Cond.selects R_S y_S_learn y_S_learn) ∈ zz := zz_in 164 (by decide +kernel) (by decide +kernel)
theorem cd_S_learn : (Cond.code y_S_learn prog_1_method_7_code (3) (Option.some FieldType.int)) ∈ zz := zz_in 165 (by decide +kernel) (by decide +kernel)
theorem cn_S_62 : (Cond.constant R_S (62) (1000000)) ∈ zz := zz_in 166 (by decide +kernel) (by decide +kernel)
theorem ml_S_63 : (Cond.methodLink R_S (63) y_D_find) ∈ zz := zz_in 167 (by decide +kernel) (by decide +kernel)
theorem im_D_find : (Cond.instanceMethod y_D_find) ∈ zz := zz_in 168 (by decide +kernel) (by decide +kernel)
theorem se_D_find : (Cond.selects R_D y_D_find y_D_find) ∈ zz := zz_in 169 (by decide +kernel) (by decide +kernel)
theorem cd_D_find : (Cond.code y_D_find prog_2_method_7_code (3) (Option.some FieldType.int)) ∈ zz := zz_in 170 (by decide +kernel) (by decide +kernel)
theorem ml_D_36 : (Cond.methodLink R_D (36) y_L_isSameAs) ∈ zz := zz_in 171 (by decide +kernel) (by decide +kernel)
theorem im_L_isSameAs : (Cond.instanceMethod y_L_isSameAs) ∈ zz := zz_in 172 (by decide +kernel) (by decide +kernel)
theorem se_L_isSameAs : (Cond.selects R_L y_L_isSameAs y_L_isSameAs) ∈ zz := zz_in 173 (by decide +kernel) (by decide +kernel)
theorem cd_L_isSameAs : (Cond.code y_L_isSameAs prog_5_method_8_code (2) (Option.some FieldType.boolean)) ∈ zz := zz_in 174 (by decide +kernel) (by decide +kernel)
theorem ml_L_30 : (Cond.methodLink R_L (30) y_L_beginsWith) ∈ zz := zz_in 175 (by decide +kernel) (by decide +kernel)
theorem im_L_beginsWith : (Cond.instanceMethod y_L_beginsWith) ∈ zz := zz_in 176 (by decide +kernel) (by decide +kernel)
theorem se_L_beginsWith : (Cond.selects R_L y_L_beginsWith y_L_beginsWith) ∈ zz := zz_in 177 (by decide +kernel) (by decide +kernel)
theorem cd_L_beginsWith : (Cond.code y_L_beginsWith prog_5_method_7_code (3) (Option.some FieldType.boolean)) ∈ zz := zz_in 178 (by decide +kernel) (by decide +kernel)
theorem ml_L_22 : (Cond.methodLink R_L (22) y_L_at) ∈ zz := zz_in 179 (by decide +kernel) (by decide +kernel)
theorem ml_S_67 : (Cond.methodLink R_S (67) y_D_addTimes) ∈ zz := zz_in 180 (by decide +kernel) (by decide +kernel)
theorem im_D_addTimes : (Cond.instanceMethod y_D_addTimes) ∈ zz := zz_in 181 (by decide +kernel) (by decide +kernel)
theorem se_D_addTimes : (Cond.selects R_D y_D_addTimes y_D_addTimes) ∈ zz := zz_in 182 (by decide +kernel) (by decide +kernel)
theorem cd_D_addTimes : (Cond.code y_D_addTimes prog_2_method_5_code (3) (Option.none : Option FieldType)) ∈ zz := zz_in 183 (by decide +kernel) (by decide +kernel)
theorem cn_D_29 : (Cond.constant R_D (29) (1000000)) ∈ zz := zz_in 184 (by decide +kernel) (by decide +kernel)
theorem ml_D_30 : (Cond.methodLink R_D (30) ⟨"java/lang/Math", "min", "(II)I"⟩) ∈ zz := zz_in 185 (by decide +kernel) (by decide +kernel)
theorem sm_Math_min : (Cond.static ⟨"java/lang/Math", "min", "(II)I"⟩) ∈ zz := zz_in 186 (by decide +kernel) (by decide +kernel)
theorem cd_Math_min : (Cond.code ⟨"java/lang/Math", "min", "(II)I"⟩ prog_9_method_69_code (2) (Option.some FieldType.int)) ∈ zz := zz_in 187 (by decide +kernel) (by decide +kernel)
theorem ml_S_71 : (Cond.methodLink R_S (71) y_D_insert) ∈ zz := zz_in 188 (by decide +kernel) (by decide +kernel)
theorem im_D_insert : (Cond.instanceMethod y_D_insert) ∈ zz := zz_in 189 (by decide +kernel) (by decide +kernel)
theorem se_D_insert : (Cond.selects R_D y_D_insert y_D_insert) ∈ zz := zz_in 190 (by decide +kernel) (by decide +kernel)
theorem cd_D_insert : (Cond.code y_D_insert prog_2_method_8_code (6) (Option.some FieldType.boolean)) ∈ zz := zz_in 191 (by decide +kernel) (by decide +kernel)
theorem ml_D_42 : (Cond.methodLink R_D (42) y_L_copyFrom) ∈ zz := zz_in 192 (by decide +kernel) (by decide +kernel)
theorem im_L_copyFrom : (Cond.instanceMethod y_L_copyFrom) ∈ zz := zz_in 193 (by decide +kernel) (by decide +kernel)
theorem se_L_copyFrom : (Cond.selects R_L y_L_copyFrom y_L_copyFrom) ∈ zz := zz_in 194 (by decide +kernel) (by decide +kernel)
theorem cd_L_copyFrom : (Cond.code y_L_copyFrom prog_5_method_6_code (3) (Option.none : Option FieldType)) ∈ zz := zz_in 195 (by decide +kernel) (by decide +kernel)
theorem ml_L_19 : (Cond.methodLink R_L (19) y_L_clear) ∈ zz := zz_in 196 (by decide +kernel) (by decide +kernel)
theorem ml_L_26 : (Cond.methodLink R_L (26) y_L_append) ∈ zz := zz_in 197 (by decide +kernel) (by decide +kernel)
theorem ml_D_46 : (Cond.methodLink R_D (46) y_D_placeFor) ∈ zz := zz_in 198 (by decide +kernel) (by decide +kernel)
theorem im_D_placeFor : (Cond.instanceMethod y_D_placeFor) ∈ zz := zz_in 200 (by decide +kernel) (by decide +kernel)
theorem cd_D_placeFor : (Cond.code y_D_placeFor prog_2_method_10_code (4) (Option.some FieldType.int)) ∈ zz := zz_in 201 (by decide +kernel) (by decide +kernel)
theorem ml_D_54 : (Cond.methodLink R_D (54) y_L_isBefore) ∈ zz := zz_in 202 (by decide +kernel) (by decide +kernel)
theorem im_L_isBefore : (Cond.instanceMethod y_L_isBefore) ∈ zz := zz_in 203 (by decide +kernel) (by decide +kernel)
theorem se_L_isBefore : (Cond.selects R_L y_L_isBefore y_L_isBefore) ∈ zz := zz_in 204 (by decide +kernel) (by decide +kernel)
theorem cd_L_isBefore : (Cond.code y_L_isBefore prog_5_method_9_code (3) (Option.some FieldType.boolean)) ∈ zz := zz_in 205 (by decide +kernel) (by decide +kernel)
theorem ml_A_41 : (Cond.methodLink R_A (41) y_S_forget) ∈ zz := zz_in 206 (by decide +kernel) (by decide +kernel)
theorem im_S_forget : (Cond.instanceMethod y_S_forget) ∈ zz := zz_in 207 (by decide +kernel) (by decide +kernel)
theorem se_S_forget : (Cond.selects R_S y_S_forget y_S_forget) ∈ zz := zz_in 208 (by decide +kernel) (by decide +kernel)
theorem cd_S_forget : (Cond.code y_S_forget prog_1_method_8_code (2) (Option.some FieldType.boolean)) ∈ zz := zz_in 209 (by decide +kernel) (by decide +kernel)
theorem ml_S_75 : (Cond.methodLink R_S (75) y_D_remove) ∈ zz := zz_in 210 (by decide +kernel) (by decide +kernel)
theorem im_D_remove : (Cond.instanceMethod y_D_remove) ∈ zz := zz_in 211 (by decide +kernel) (by decide +kernel)
theorem se_D_remove : (Cond.selects R_D y_D_remove y_D_remove) ∈ zz := zz_in 212 (by decide +kernel) (by decide +kernel)
theorem cd_D_remove : (Cond.code y_D_remove prog_2_method_9_code (4) (Option.some FieldType.boolean)) ∈ zz := zz_in 213 (by decide +kernel) (by decide +kernel)
theorem ml_D_50 : (Cond.methodLink R_D (50) y_D_has) ∈ zz := zz_in 214 (by decide +kernel) (by decide +kernel)
theorem im_D_has : (Cond.instanceMethod y_D_has) ∈ zz := zz_in 215 (by decide +kernel) (by decide +kernel)
theorem se_D_has : (Cond.selects R_D y_D_has y_D_has) ∈ zz := zz_in 216 (by decide +kernel) (by decide +kernel)
theorem cd_D_has : (Cond.code y_D_has prog_2_method_2_code (2) (Option.some FieldType.boolean)) ∈ zz := zz_in 217 (by decide +kernel) (by decide +kernel)
theorem ml_A_45 : (Cond.methodLink R_A (45) y_S_words) ∈ zz := zz_in 218 (by decide +kernel) (by decide +kernel)
theorem im_S_words : (Cond.instanceMethod y_S_words) ∈ zz := zz_in 219 (by decide +kernel) (by decide +kernel)
theorem se_S_words : (Cond.selects R_S y_S_words y_S_words) ∈ zz := zz_in 220 (by decide +kernel) (by decide +kernel)
theorem cd_S_words : (Cond.code y_S_words prog_1_method_9_code (1) (Option.some FieldType.int)) ∈ zz := zz_in 221 (by decide +kernel) (by decide +kernel)
theorem ml_A_49 : (Cond.methodLink R_A (49) y_S_letter) ∈ zz := zz_in 222 (by decide +kernel) (by decide +kernel)
theorem im_S_letter : (Cond.instanceMethod y_S_letter) ∈ zz := zz_in 223 (by decide +kernel) (by decide +kernel)
theorem se_S_letter : (Cond.selects R_S y_S_letter y_S_letter) ∈ zz := zz_in 224 (by decide +kernel) (by decide +kernel)
theorem cd_S_letter : (Cond.code y_S_letter prog_1_method_10_code (3) (Option.some FieldType.int)) ∈ zz := zz_in 225 (by decide +kernel) (by decide +kernel)
theorem ml_S_79 : (Cond.methodLink R_S (79) y_D_has) ∈ zz := zz_in 226 (by decide +kernel) (by decide +kernel)
theorem ml_S_82 : (Cond.methodLink R_S (82) y_D_lettersOf) ∈ zz := zz_in 227 (by decide +kernel) (by decide +kernel)
theorem im_D_lettersOf : (Cond.instanceMethod y_D_lettersOf) ∈ zz := zz_in 228 (by decide +kernel) (by decide +kernel)
theorem se_D_lettersOf : (Cond.selects R_D y_D_lettersOf y_D_lettersOf) ∈ zz := zz_in 229 (by decide +kernel) (by decide +kernel)
theorem cd_D_lettersOf : (Cond.code y_D_lettersOf prog_2_method_3_code (2) (Option.some (FieldType.object R_L))) ∈ zz := zz_in 230 (by decide +kernel) (by decide +kernel)
theorem ml_A_54 : (Cond.methodLink R_A (54) y_S_count) ∈ zz := zz_in 231 (by decide +kernel) (by decide +kernel)
theorem im_S_count : (Cond.instanceMethod y_S_count) ∈ zz := zz_in 232 (by decide +kernel) (by decide +kernel)
theorem se_S_count : (Cond.selects R_S y_S_count y_S_count) ∈ zz := zz_in 233 (by decide +kernel) (by decide +kernel)
theorem cd_S_count : (Cond.code y_S_count prog_1_method_11_code (2) (Option.some FieldType.int)) ∈ zz := zz_in 234 (by decide +kernel) (by decide +kernel)
theorem ml_S_86 : (Cond.methodLink R_S (86) y_D_timesOf) ∈ zz := zz_in 235 (by decide +kernel) (by decide +kernel)
theorem im_D_timesOf : (Cond.instanceMethod y_D_timesOf) ∈ zz := zz_in 236 (by decide +kernel) (by decide +kernel)
theorem se_D_timesOf : (Cond.selects R_D y_D_timesOf y_D_timesOf) ∈ zz := zz_in 237 (by decide +kernel) (by decide +kernel)
theorem cd_D_timesOf : (Cond.code y_D_timesOf prog_2_method_4_code (2) (Option.some FieldType.int)) ∈ zz := zz_in 238 (by decide +kernel) (by decide +kernel)
theorem ml_A_58 : (Cond.methodLink R_A (58) y_S_rank) ∈ zz := zz_in 239 (by decide +kernel) (by decide +kernel)
theorem im_S_rank : (Cond.instanceMethod y_S_rank) ∈ zz := zz_in 240 (by decide +kernel) (by decide +kernel)
theorem se_S_rank : (Cond.selects R_S y_S_rank y_S_rank) ∈ zz := zz_in 241 (by decide +kernel) (by decide +kernel)
theorem cd_S_rank : (Cond.code y_S_rank prog_1_method_12_code (1) (Option.some FieldType.int)) ∈ zz := zz_in 242 (by decide +kernel) (by decide +kernel)
theorem ml_A_62 : (Cond.methodLink R_A (62) y_S_distance) ∈ zz := zz_in 243 (by decide +kernel) (by decide +kernel)
theorem im_S_distance : (Cond.instanceMethod y_S_distance) ∈ zz := zz_in 244 (by decide +kernel) (by decide +kernel)
theorem se_S_distance : (Cond.selects R_S y_S_distance y_S_distance) ∈ zz := zz_in 245 (by decide +kernel) (by decide +kernel)
theorem cd_S_distance : (Cond.code y_S_distance prog_1_method_13_code (2) (Option.some FieldType.int)) ∈ zz := zz_in 246 (by decide +kernel) (by decide +kernel)
theorem ml_S_89 : (Cond.methodLink R_S (89) y_E_measure) ∈ zz := zz_in 247 (by decide +kernel) (by decide +kernel)
theorem im_E_measure : (Cond.instanceMethod y_E_measure) ∈ zz := zz_in 248 (by decide +kernel) (by decide +kernel)
theorem se_E_measure : (Cond.selects R_E y_E_measure y_E_measure) ∈ zz := zz_in 249 (by decide +kernel) (by decide +kernel)
theorem cd_E_measure : (Cond.code y_E_measure prog_4_method_2_code (5) (Option.some FieldType.int)) ∈ zz := zz_in 250 (by decide +kernel) (by decide +kernel)
theorem ml_E_22 : (Cond.methodLink R_E (22) y_E_leastCost) ∈ zz := zz_in 251 (by decide +kernel) (by decide +kernel)
theorem im_E_leastCost : (Cond.instanceMethod y_E_leastCost) ∈ zz := zz_in 253 (by decide +kernel) (by decide +kernel)
theorem cd_E_leastCost : (Cond.code y_E_leastCost prog_4_method_4_code (7) (Option.some FieldType.int)) ∈ zz := zz_in 254 (by decide +kernel) (by decide +kernel)
theorem ml_E_33 : (Cond.methodLink R_E (33) y_L_at) ∈ zz := zz_in 255 (by decide +kernel) (by decide +kernel)
theorem ml_E_37 : (Cond.methodLink R_E (37) ⟨"java/lang/Math", "min", "(II)I"⟩) ∈ zz := zz_in 256 (by decide +kernel) (by decide +kernel)
theorem ml_A_66 : (Cond.methodLink R_A (66) y_S_near) ∈ zz := zz_in 257 (by decide +kernel) (by decide +kernel)
theorem im_S_near : (Cond.instanceMethod y_S_near) ∈ zz := zz_in 258 (by decide +kernel) (by decide +kernel)
theorem se_S_near : (Cond.selects R_S y_S_near y_S_near) ∈ zz := zz_in 259 (by decide +kernel) (by decide +kernel)
theorem cd_S_near : (Cond.code y_S_near prog_1_method_14_code (4) (Option.some FieldType.int)) ∈ zz := zz_in 260 (by decide +kernel) (by decide +kernel)
theorem ml_S_93 : (Cond.methodLink R_S (93) y_S_measureAll) ∈ zz := zz_in 261 (by decide +kernel) (by decide +kernel)
theorem im_S_measureAll : (Cond.instanceMethod y_S_measureAll) ∈ zz := zz_in 263 (by decide +kernel) (by decide +kernel)
theorem cd_S_measureAll : (Cond.code y_S_measureAll prog_1_method_19_code (2) (Option.none : Option FieldType)) ∈ zz := zz_in 264 (by decide +kernel) (by decide +kernel)
theorem ml_A_70 : (Cond.methodLink R_A (70) y_S_suggest) ∈ zz := zz_in 265 (by decide +kernel) (by decide +kernel)
theorem im_S_suggest : (Cond.instanceMethod y_S_suggest) ∈ zz := zz_in 266 (by decide +kernel) (by decide +kernel)
theorem se_S_suggest : (Cond.selects R_S y_S_suggest y_S_suggest) ∈ zz := zz_in 267 (by decide +kernel) (by decide +kernel)
theorem cd_S_suggest : (Cond.code y_S_suggest prog_1_method_15_code (4) (Option.some FieldType.int)) ∈ zz := zz_in 268 (by decide +kernel) (by decide +kernel)
theorem ml_S_96 : (Cond.methodLink R_S (96) y_S_placeAmongSuggestions) ∈ zz := zz_in 269 (by decide +kernel) (by decide +kernel)
theorem im_S_placeAmongSuggestions : (Cond.instanceMethod y_S_placeAmongSuggestions) ∈ zz := zz_in 271 (by decide +kernel) (by decide +kernel)
theorem cd_S_placeAmongSuggestions : (Cond.code y_S_placeAmongSuggestions prog_1_method_20_code (4) (Option.some FieldType.int)) ∈ zz := zz_in 272 (by decide +kernel) (by decide +kernel)
theorem ml_S_113 : (Cond.methodLink R_S (113) y_S_isSuggestedBefore) ∈ zz := zz_in 273 (by decide +kernel) (by decide +kernel)
theorem im_S_isSuggestedBefore : (Cond.instanceMethod y_S_isSuggestedBefore) ∈ zz := zz_in 275 (by decide +kernel) (by decide +kernel)
theorem cd_S_isSuggestedBefore : (Cond.code y_S_isSuggestedBefore prog_1_method_21_code (3) (Option.some FieldType.boolean)) ∈ zz := zz_in 276 (by decide +kernel) (by decide +kernel)
theorem ml_S_117 : (Cond.methodLink R_S (117) y_D_isPreferred) ∈ zz := zz_in 277 (by decide +kernel) (by decide +kernel)
theorem im_D_isPreferred : (Cond.instanceMethod y_D_isPreferred) ∈ zz := zz_in 278 (by decide +kernel) (by decide +kernel)
theorem se_D_isPreferred : (Cond.selects R_D y_D_isPreferred y_D_isPreferred) ∈ zz := zz_in 279 (by decide +kernel) (by decide +kernel)
theorem cd_D_isPreferred : (Cond.code y_D_isPreferred prog_2_method_6_code (3) (Option.some FieldType.boolean)) ∈ zz := zz_in 280 (by decide +kernel) (by decide +kernel)
theorem ml_A_74 : (Cond.methodLink R_A (74) y_S_complete) ∈ zz := zz_in 281 (by decide +kernel) (by decide +kernel)
theorem im_S_complete : (Cond.instanceMethod y_S_complete) ∈ zz := zz_in 282 (by decide +kernel) (by decide +kernel)
theorem se_S_complete : (Cond.selects R_S y_S_complete y_S_complete) ∈ zz := zz_in 283 (by decide +kernel) (by decide +kernel)
theorem cd_S_complete : (Cond.code y_S_complete prog_1_method_16_code (3) (Option.some FieldType.int)) ∈ zz := zz_in 284 (by decide +kernel) (by decide +kernel)
theorem ml_S_99 : (Cond.methodLink R_S (99) y_S_isCompletion) ∈ zz := zz_in 285 (by decide +kernel) (by decide +kernel)
theorem im_S_isCompletion : (Cond.instanceMethod y_S_isCompletion) ∈ zz := zz_in 287 (by decide +kernel) (by decide +kernel)
theorem cd_S_isCompletion : (Cond.code y_S_isCompletion prog_1_method_23_code (2) (Option.some FieldType.boolean)) ∈ zz := zz_in 288 (by decide +kernel) (by decide +kernel)
theorem ml_S_120 : (Cond.methodLink R_S (120) y_L_beginsWith) ∈ zz := zz_in 289 (by decide +kernel) (by decide +kernel)
theorem ml_S_102 : (Cond.methodLink R_S (102) y_S_placeAmongCompletions) ∈ zz := zz_in 290 (by decide +kernel) (by decide +kernel)
theorem im_S_placeAmongCompletions : (Cond.instanceMethod y_S_placeAmongCompletions) ∈ zz := zz_in 292 (by decide +kernel) (by decide +kernel)
theorem cd_S_placeAmongCompletions : (Cond.code y_S_placeAmongCompletions prog_1_method_22_code (4) (Option.some FieldType.int)) ∈ zz := zz_in 293 (by decide +kernel) (by decide +kernel)
theorem ml_A_78 : (Cond.methodLink R_A (78) y_S_edit) ∈ zz := zz_in 294 (by decide +kernel) (by decide +kernel)
theorem im_S_edit : (Cond.instanceMethod y_S_edit) ∈ zz := zz_in 295 (by decide +kernel) (by decide +kernel)
theorem se_S_edit : (Cond.selects R_S y_S_edit y_S_edit) ∈ zz := zz_in 296 (by decide +kernel) (by decide +kernel)
theorem cd_S_edit : (Cond.code y_S_edit prog_1_method_17_code (3) (Option.some FieldType.int)) ∈ zz := zz_in 297 (by decide +kernel) (by decide +kernel)
theorem ml_S_105 : (Cond.methodLink R_S (105) y_E_editAt) ∈ zz := zz_in 298 (by decide +kernel) (by decide +kernel)
theorem im_E_editAt : (Cond.instanceMethod y_E_editAt) ∈ zz := zz_in 299 (by decide +kernel) (by decide +kernel)
theorem se_E_editAt : (Cond.selects R_E y_E_editAt y_E_editAt) ∈ zz := zz_in 300 (by decide +kernel) (by decide +kernel)
theorem cd_E_editAt : (Cond.code y_E_editAt prog_4_method_3_code (8) (Option.some FieldType.int)) ∈ zz := zz_in 301 (by decide +kernel) (by decide +kernel)
theorem ml_E_26 : (Cond.methodLink R_E (26) y_E_measure) ∈ zz := zz_in 302 (by decide +kernel) (by decide +kernel)
theorem ml_E_30 : (Cond.methodLink R_E (30) y_E_firstEdit) ∈ zz := zz_in 303 (by decide +kernel) (by decide +kernel)
theorem im_E_firstEdit : (Cond.instanceMethod y_E_firstEdit) ∈ zz := zz_in 305 (by decide +kernel) (by decide +kernel)
theorem cd_E_firstEdit : (Cond.code y_E_firstEdit prog_4_method_5_code (6) (Option.some FieldType.int)) ∈ zz := zz_in 306 (by decide +kernel) (by decide +kernel)
theorem ml_A_82 : (Cond.methodLink R_A (82) y_S_drops) ∈ zz := zz_in 307 (by decide +kernel) (by decide +kernel)
theorem im_S_drops : (Cond.instanceMethod y_S_drops) ∈ zz := zz_in 308 (by decide +kernel) (by decide +kernel)
theorem se_S_drops : (Cond.selects R_S y_S_drops y_S_drops) ∈ zz := zz_in 309 (by decide +kernel) (by decide +kernel)
theorem cd_S_drops : (Cond.code y_S_drops prog_1_method_18_code (2) (Option.some FieldType.int)) ∈ zz := zz_in 310 (by decide +kernel) (by decide +kernel)
theorem ml_S_109 : (Cond.methodLink R_S (109) y_R_listsOf) ∈ zz := zz_in 311 (by decide +kernel) (by decide +kernel)
theorem im_R_listsOf : (Cond.instanceMethod y_R_listsOf) ∈ zz := zz_in 312 (by decide +kernel) (by decide +kernel)
theorem se_R_listsOf : (Cond.selects R_R y_R_listsOf y_R_listsOf) ∈ zz := zz_in 313 (by decide +kernel) (by decide +kernel)
theorem cd_R_listsOf : (Cond.code y_R_listsOf prog_3_method_2_code (5) (Option.some FieldType.int)) ∈ zz := zz_in 314 (by decide +kernel) (by decide +kernel)
theorem ml_R_22 : (Cond.methodLink R_R (22) y_R_listsWithin) ∈ zz := zz_in 315 (by decide +kernel) (by decide +kernel)
theorem im_R_listsWithin : (Cond.instanceMethod y_R_listsWithin) ∈ zz := zz_in 317 (by decide +kernel) (by decide +kernel)
theorem cd_R_listsWithin : (Cond.code y_R_listsWithin prog_3_method_3_code (7) (Option.some FieldType.int)) ∈ zz := zz_in 318 (by decide +kernel) (by decide +kernel)
theorem ml_R_26 : (Cond.methodLink R_R (26) y_R_placeBefore) ∈ zz := zz_in 319 (by decide +kernel) (by decide +kernel)
theorem im_R_placeBefore : (Cond.instanceMethod y_R_placeBefore) ∈ zz := zz_in 321 (by decide +kernel) (by decide +kernel)
theorem cd_R_placeBefore : (Cond.code y_R_placeBefore prog_3_method_4_code (4) (Option.some FieldType.int)) ∈ zz := zz_in 322 (by decide +kernel) (by decide +kernel)
theorem ml_R_30 : (Cond.methodLink R_R (30) y_L_at) ∈ zz := zz_in 323 (by decide +kernel) (by decide +kernel)
theorem cl_A_10 : (Cond.classLink R_A (10) R_M) ∈ zz := zz_in 324 (by decide +kernel) (by decide +kernel)
theorem ib_M : (Cond.instantiable R_M (8)) ∈ zz := zz_in 325 (by decide +kernel) (by decide +kernel)
theorem ml_A_12 : (Cond.methodLink R_A (12) y_M_init) ∈ zz := zz_in 326 (by decide +kernel) (by decide +kernel)
theorem im_M_init : (Cond.instanceMethod y_M_init) ∈ zz := zz_in 327 (by decide +kernel) (by decide +kernel)
theorem cd_M_init : (Cond.code y_M_init prog_8_method_1_code (1) (Option.none : Option FieldType)) ∈ zz := zz_in 328 (by decide +kernel) (by decide +kernel)
theorem ml_M_1 : (Cond.methodLink R_M (1) ⟨"java/lang/Object", "<init>", "()V"⟩) ∈ zz := zz_in 329 (by decide +kernel) (by decide +kernel)
theorem fl_M_7 : (Cond.fieldLink R_M (7) R_M "typed" "[I") ∈ zz := zz_in 330 (by decide +kernel) (by decide +kernel)
theorem fl_M_29 : (Cond.fieldLink R_M (29) R_M "length" "I") ∈ zz := zz_in 331 (by decide +kernel) (by decide +kernel)
theorem fl_M_13 : (Cond.fieldLink R_M (13) R_M "letters" "[I") ∈ zz := zz_in 332 (by decide +kernel) (by decide +kernel)
theorem fl_M_16 : (Cond.fieldLink R_M (16) R_M "sizes" "[I") ∈ zz := zz_in 333 (by decide +kernel) (by decide +kernel)
theorem fl_M_19 : (Cond.fieldLink R_M (19) R_M "counts" "[I") ∈ zz := zz_in 334 (by decide +kernel) (by decide +kernel)
theorem fl_M_37 : (Cond.fieldLink R_M (37) R_M "words" "I") ∈ zz := zz_in 335 (by decide +kernel) (by decide +kernel)
theorem fl_M_22 : (Cond.fieldLink R_M (22) R_M "reached" "[I") ∈ zz := zz_in 336 (by decide +kernel) (by decide +kernel)
theorem fl_M_25 : (Cond.fieldLink R_M (25) R_M "lists" "[J") ∈ zz := zz_in 337 (by decide +kernel) (by decide +kernel)
theorem ac_long : (Cond.arrayClass FieldType.long) ∈ zz := zz_in 355 (by decide +kernel) (by decide +kernel)
theorem ml_A_17 : (Cond.methodLink R_A (17) y_M_key) ∈ zz := zz_in 356 (by decide +kernel) (by decide +kernel)
theorem im_M_key : (Cond.instanceMethod y_M_key) ∈ zz := zz_in 357 (by decide +kernel) (by decide +kernel)
theorem se_M_key : (Cond.selects R_M y_M_key y_M_key) ∈ zz := zz_in 358 (by decide +kernel) (by decide +kernel)
theorem cd_M_key : (Cond.code y_M_key prog_8_method_2_code (2) (Option.some FieldType.boolean)) ∈ zz := zz_in 359 (by decide +kernel) (by decide +kernel)
theorem ml_A_22 : (Cond.methodLink R_A (22) y_M_back) ∈ zz := zz_in 360 (by decide +kernel) (by decide +kernel)
theorem im_M_back : (Cond.instanceMethod y_M_back) ∈ zz := zz_in 361 (by decide +kernel) (by decide +kernel)
theorem se_M_back : (Cond.selects R_M y_M_back y_M_back) ∈ zz := zz_in 362 (by decide +kernel) (by decide +kernel)
theorem cd_M_back : (Cond.code y_M_back prog_8_method_3_code (1) (Option.some FieldType.boolean)) ∈ zz := zz_in 363 (by decide +kernel) (by decide +kernel)
theorem ml_A_26 : (Cond.methodLink R_A (26) y_M_wipe) ∈ zz := zz_in 364 (by decide +kernel) (by decide +kernel)
theorem im_M_wipe : (Cond.instanceMethod y_M_wipe) ∈ zz := zz_in 365 (by decide +kernel) (by decide +kernel)
theorem se_M_wipe : (Cond.selects R_M y_M_wipe y_M_wipe) ∈ zz := zz_in 366 (by decide +kernel) (by decide +kernel)
theorem cd_M_wipe : (Cond.code y_M_wipe prog_8_method_4_code (1) (Option.none : Option FieldType)) ∈ zz := zz_in 367 (by decide +kernel) (by decide +kernel)
theorem ml_A_31 : (Cond.methodLink R_A (31) y_M_length) ∈ zz := zz_in 368 (by decide +kernel) (by decide +kernel)
theorem im_M_length : (Cond.instanceMethod y_M_length) ∈ zz := zz_in 369 (by decide +kernel) (by decide +kernel)
theorem se_M_length : (Cond.selects R_M y_M_length y_M_length) ∈ zz := zz_in 370 (by decide +kernel) (by decide +kernel)
theorem cd_M_length : (Cond.code y_M_length prog_8_method_5_code (1) (Option.some FieldType.int)) ∈ zz := zz_in 371 (by decide +kernel) (by decide +kernel)
theorem ml_A_36 : (Cond.methodLink R_A (36) y_M_typed) ∈ zz := zz_in 372 (by decide +kernel) (by decide +kernel)
theorem im_M_typed : (Cond.instanceMethod y_M_typed) ∈ zz := zz_in 373 (by decide +kernel) (by decide +kernel)
theorem se_M_typed : (Cond.selects R_M y_M_typed y_M_typed) ∈ zz := zz_in 374 (by decide +kernel) (by decide +kernel)
theorem cd_M_typed : (Cond.code y_M_typed prog_8_method_6_code (2) (Option.some FieldType.int)) ∈ zz := zz_in 375 (by decide +kernel) (by decide +kernel)
theorem ml_A_40 : (Cond.methodLink R_A (40) y_M_learn) ∈ zz := zz_in 376 (by decide +kernel) (by decide +kernel)
theorem im_M_learn : (Cond.instanceMethod y_M_learn) ∈ zz := zz_in 377 (by decide +kernel) (by decide +kernel)
theorem se_M_learn : (Cond.selects R_M y_M_learn y_M_learn) ∈ zz := zz_in 378 (by decide +kernel) (by decide +kernel)
theorem cd_M_learn : (Cond.code y_M_learn prog_8_method_13_code (4) (Option.some FieldType.int)) ∈ zz := zz_in 379 (by decide +kernel) (by decide +kernel)
theorem cn_M_52 : (Cond.constant R_M (52) (1000000)) ∈ zz := zz_in 380 (by decide +kernel) (by decide +kernel)
theorem ml_M_53 : (Cond.methodLink R_M (53) y_M_same) ∈ zz := zz_in 381 (by decide +kernel) (by decide +kernel)
theorem im_M_same : (Cond.instanceMethod y_M_same) ∈ zz := zz_in 383 (by decide +kernel) (by decide +kernel)
theorem cd_M_same : (Cond.code y_M_same prog_8_method_12_code (2) (Option.some FieldType.int)) ∈ zz := zz_in 384 (by decide +kernel) (by decide +kernel)
theorem ml_M_48 : (Cond.methodLink R_M (48) y_M_beginsTyped) ∈ zz := zz_in 385 (by decide +kernel) (by decide +kernel)
theorem im_M_beginsTyped : (Cond.instanceMethod y_M_beginsTyped) ∈ zz := zz_in 387 (by decide +kernel) (by decide +kernel)
theorem cd_M_beginsTyped : (Cond.code y_M_beginsTyped prog_8_method_11_code (3) (Option.some FieldType.boolean)) ∈ zz := zz_in 388 (by decide +kernel) (by decide +kernel)
theorem ml_A_44 : (Cond.methodLink R_A (44) y_M_forget) ∈ zz := zz_in 389 (by decide +kernel) (by decide +kernel)
theorem im_M_forget : (Cond.instanceMethod y_M_forget) ∈ zz := zz_in 390 (by decide +kernel) (by decide +kernel)
theorem se_M_forget : (Cond.selects R_M y_M_forget y_M_forget) ∈ zz := zz_in 391 (by decide +kernel) (by decide +kernel)
theorem cd_M_forget : (Cond.code y_M_forget prog_8_method_14_code (4) (Option.some FieldType.boolean)) ∈ zz := zz_in 392 (by decide +kernel) (by decide +kernel)
theorem ml_M_57 : (Cond.methodLink R_M (57) y_M_place) ∈ zz := zz_in 393 (by decide +kernel) (by decide +kernel)
theorem im_M_place : (Cond.instanceMethod y_M_place) ∈ zz := zz_in 395 (by decide +kernel) (by decide +kernel)
theorem cd_M_place : (Cond.code y_M_place prog_8_method_10_code (3) (Option.some FieldType.int)) ∈ zz := zz_in 396 (by decide +kernel) (by decide +kernel)
theorem ml_M_44 : (Cond.methodLink R_M (44) y_M_rankOf) ∈ zz := zz_in 397 (by decide +kernel) (by decide +kernel)
theorem im_M_rankOf : (Cond.instanceMethod y_M_rankOf) ∈ zz := zz_in 399 (by decide +kernel) (by decide +kernel)
theorem cd_M_rankOf : (Cond.code y_M_rankOf prog_8_method_9_code (4) (Option.some FieldType.int)) ∈ zz := zz_in 400 (by decide +kernel) (by decide +kernel)
theorem ml_M_40 : (Cond.methodLink R_M (40) y_M_before) ∈ zz := zz_in 401 (by decide +kernel) (by decide +kernel)
theorem im_M_before : (Cond.instanceMethod y_M_before) ∈ zz := zz_in 403 (by decide +kernel) (by decide +kernel)
theorem cd_M_before : (Cond.code y_M_before prog_8_method_8_code (4) (Option.some FieldType.boolean)) ∈ zz := zz_in 404 (by decide +kernel) (by decide +kernel)
theorem ml_M_33 : (Cond.methodLink R_M (33) y_M_at) ∈ zz := zz_in 405 (by decide +kernel) (by decide +kernel)
theorem im_M_at : (Cond.instanceMethod y_M_at) ∈ zz := zz_in 407 (by decide +kernel) (by decide +kernel)
theorem cd_M_at : (Cond.code y_M_at prog_8_method_7_code (3) (Option.some FieldType.int)) ∈ zz := zz_in 408 (by decide +kernel) (by decide +kernel)
theorem ml_A_48 : (Cond.methodLink R_A (48) y_M_words) ∈ zz := zz_in 409 (by decide +kernel) (by decide +kernel)
theorem im_M_words : (Cond.instanceMethod y_M_words) ∈ zz := zz_in 410 (by decide +kernel) (by decide +kernel)
theorem se_M_words : (Cond.selects R_M y_M_words y_M_words) ∈ zz := zz_in 411 (by decide +kernel) (by decide +kernel)
theorem cd_M_words : (Cond.code y_M_words prog_8_method_15_code (1) (Option.some FieldType.int)) ∈ zz := zz_in 412 (by decide +kernel) (by decide +kernel)
theorem ml_A_53 : (Cond.methodLink R_A (53) y_M_letter) ∈ zz := zz_in 413 (by decide +kernel) (by decide +kernel)
theorem im_M_letter : (Cond.instanceMethod y_M_letter) ∈ zz := zz_in 414 (by decide +kernel) (by decide +kernel)
theorem se_M_letter : (Cond.selects R_M y_M_letter y_M_letter) ∈ zz := zz_in 415 (by decide +kernel) (by decide +kernel)
theorem cd_M_letter : (Cond.code y_M_letter prog_8_method_16_code (4) (Option.some FieldType.int)) ∈ zz := zz_in 416 (by decide +kernel) (by decide +kernel)
theorem ml_A_57 : (Cond.methodLink R_A (57) y_M_count) ∈ zz := zz_in 417 (by decide +kernel) (by decide +kernel)
theorem im_M_count : (Cond.instanceMethod y_M_count) ∈ zz := zz_in 418 (by decide +kernel) (by decide +kernel)
theorem se_M_count : (Cond.selects R_M y_M_count y_M_count) ∈ zz := zz_in 419 (by decide +kernel) (by decide +kernel)
theorem cd_M_count : (Cond.code y_M_count prog_8_method_17_code (3) (Option.some FieldType.int)) ∈ zz := zz_in 420 (by decide +kernel) (by decide +kernel)
theorem ml_A_61 : (Cond.methodLink R_A (61) y_M_rank) ∈ zz := zz_in 421 (by decide +kernel) (by decide +kernel)
theorem im_M_rank : (Cond.instanceMethod y_M_rank) ∈ zz := zz_in 422 (by decide +kernel) (by decide +kernel)
theorem se_M_rank : (Cond.selects R_M y_M_rank y_M_rank) ∈ zz := zz_in 423 (by decide +kernel) (by decide +kernel)
theorem cd_M_rank : (Cond.code y_M_rank prog_8_method_18_code (2) (Option.some FieldType.int)) ∈ zz := zz_in 424 (by decide +kernel) (by decide +kernel)
theorem ml_A_65 : (Cond.methodLink R_A (65) y_M_distance) ∈ zz := zz_in 425 (by decide +kernel) (by decide +kernel)
theorem im_M_distance : (Cond.instanceMethod y_M_distance) ∈ zz := zz_in 426 (by decide +kernel) (by decide +kernel)
theorem se_M_distance : (Cond.selects R_M y_M_distance y_M_distance) ∈ zz := zz_in 427 (by decide +kernel) (by decide +kernel)
theorem cd_M_distance : (Cond.code y_M_distance prog_8_method_21_code (3) (Option.some FieldType.int)) ∈ zz := zz_in 428 (by decide +kernel) (by decide +kernel)
theorem ml_M_64 : (Cond.methodLink R_M (64) y_M_far) ∈ zz := zz_in 429 (by decide +kernel) (by decide +kernel)
theorem im_M_far : (Cond.instanceMethod y_M_far) ∈ zz := zz_in 431 (by decide +kernel) (by decide +kernel)
theorem cd_M_far : (Cond.code y_M_far prog_8_method_20_code (8) (Option.some FieldType.int)) ∈ zz := zz_in 432 (by decide +kernel) (by decide +kernel)
theorem ml_M_60 : (Cond.methodLink R_M (60) y_M_reach) ∈ zz := zz_in 433 (by decide +kernel) (by decide +kernel)
theorem im_M_reach : (Cond.instanceMethod y_M_reach) ∈ zz := zz_in 435 (by decide +kernel) (by decide +kernel)
theorem cd_M_reach : (Cond.code y_M_reach prog_8_method_19_code (3) (Option.none : Option FieldType)) ∈ zz := zz_in 436 (by decide +kernel) (by decide +kernel)
theorem ml_A_69 : (Cond.methodLink R_A (69) y_M_near) ∈ zz := zz_in 437 (by decide +kernel) (by decide +kernel)
theorem im_M_near : (Cond.instanceMethod y_M_near) ∈ zz := zz_in 438 (by decide +kernel) (by decide +kernel)
theorem se_M_near : (Cond.selects R_M y_M_near y_M_near) ∈ zz := zz_in 439 (by decide +kernel) (by decide +kernel)
theorem cd_M_near : (Cond.code y_M_near prog_8_method_22_code (4) (Option.some FieldType.int)) ∈ zz := zz_in 440 (by decide +kernel) (by decide +kernel)
theorem ml_A_73 : (Cond.methodLink R_A (73) y_M_suggest) ∈ zz := zz_in 441 (by decide +kernel) (by decide +kernel)
theorem im_M_suggest : (Cond.instanceMethod y_M_suggest) ∈ zz := zz_in 442 (by decide +kernel) (by decide +kernel)
theorem se_M_suggest : (Cond.selects R_M y_M_suggest y_M_suggest) ∈ zz := zz_in 443 (by decide +kernel) (by decide +kernel)
theorem cd_M_suggest : (Cond.code y_M_suggest prog_8_method_24_code (8) (Option.some FieldType.int)) ∈ zz := zz_in 444 (by decide +kernel) (by decide +kernel)
theorem ml_M_68 : (Cond.methodLink R_M (68) y_M_better) ∈ zz := zz_in 445 (by decide +kernel) (by decide +kernel)
theorem im_M_better : (Cond.instanceMethod y_M_better) ∈ zz := zz_in 447 (by decide +kernel) (by decide +kernel)
theorem cd_M_better : (Cond.code y_M_better prog_8_method_23_code (5) (Option.some FieldType.boolean)) ∈ zz := zz_in 448 (by decide +kernel) (by decide +kernel)
theorem ml_A_77 : (Cond.methodLink R_A (77) y_M_complete) ∈ zz := zz_in 449 (by decide +kernel) (by decide +kernel)
theorem im_M_complete : (Cond.instanceMethod y_M_complete) ∈ zz := zz_in 450 (by decide +kernel) (by decide +kernel)
theorem se_M_complete : (Cond.selects R_M y_M_complete y_M_complete) ∈ zz := zz_in 451 (by decide +kernel) (by decide +kernel)
theorem cd_M_complete : (Cond.code y_M_complete prog_8_method_25_code (5) (Option.some FieldType.int)) ∈ zz := zz_in 452 (by decide +kernel) (by decide +kernel)
theorem ml_A_81 : (Cond.methodLink R_A (81) y_M_edit) ∈ zz := zz_in 453 (by decide +kernel) (by decide +kernel)
theorem im_M_edit : (Cond.instanceMethod y_M_edit) ∈ zz := zz_in 454 (by decide +kernel) (by decide +kernel)
theorem se_M_edit : (Cond.selects R_M y_M_edit y_M_edit) ∈ zz := zz_in 455 (by decide +kernel) (by decide +kernel)
theorem cd_M_edit : (Cond.code y_M_edit prog_8_method_26_code (9) (Option.some FieldType.int)) ∈ zz := zz_in 456 (by decide +kernel) (by decide +kernel)
theorem ml_M_72 : (Cond.methodLink R_M (72) y_M_next) ∈ zz := zz_in 457 (by decide +kernel) (by decide +kernel)
theorem im_M_next : (Cond.instanceMethod y_M_next) ∈ zz := zz_in 459 (by decide +kernel) (by decide +kernel)
theorem cd_M_next : (Cond.code y_M_next prog_8_method_27_code (9) (Option.some FieldType.int)) ∈ zz := zz_in 460 (by decide +kernel) (by decide +kernel)
theorem ml_A_85 : (Cond.methodLink R_A (85) y_M_drops) ∈ zz := zz_in 461 (by decide +kernel) (by decide +kernel)
theorem im_M_drops : (Cond.instanceMethod y_M_drops) ∈ zz := zz_in 462 (by decide +kernel) (by decide +kernel)
theorem se_M_drops : (Cond.selects R_M y_M_drops y_M_drops) ∈ zz := zz_in 463 (by decide +kernel) (by decide +kernel)
theorem cd_M_drops : (Cond.code y_M_drops prog_8_method_30_code (8) (Option.some FieldType.int)) ∈ zz := zz_in 464 (by decide +kernel) (by decide +kernel)
theorem ml_M_78 : (Cond.methodLink R_M (78) y_M_bits) ∈ zz := zz_in 465 (by decide +kernel) (by decide +kernel)
theorem sm_M_bits : (Cond.static y_M_bits) ∈ zz := zz_in 466 (by decide +kernel) (by decide +kernel)
theorem cd_M_bits : (Cond.code y_M_bits prog_8_method_29_code (3) (Option.some FieldType.int)) ∈ zz := zz_in 467 (by decide +kernel) (by decide +kernel)
theorem ml_M_81 : (Cond.methodLink R_M (81) y_M_left) ∈ zz := zz_in 468 (by decide +kernel) (by decide +kernel)
theorem im_M_left : (Cond.instanceMethod y_M_left) ∈ zz := zz_in 470 (by decide +kernel) (by decide +kernel)
theorem cd_M_left : (Cond.code y_M_left prog_8_method_28_code (5) (Option.some FieldType.long)) ∈ zz := zz_in 471 (by decide +kernel) (by decide +kernel)
theorem cn_M_76 : (Cond.constantLong R_M (76) (32)) ∈ zz := zz_in 472 (by decide +kernel) (by decide +kernel)
theorem se_D_placeFor : Cond.selects R_D y_D_placeFor y_D_placeFor ∈ zz := zz_in 0 (by decide +kernel) (by decide +kernel)
theorem se_E_leastCost : Cond.selects R_E y_E_leastCost y_E_leastCost ∈ zz := zz_in 1 (by decide +kernel) (by decide +kernel)
theorem se_S_measureAll : Cond.selects R_S y_S_measureAll y_S_measureAll ∈ zz := zz_in 2 (by decide +kernel) (by decide +kernel)
theorem se_S_placeAmongSuggestions : Cond.selects R_S y_S_placeAmongSuggestions y_S_placeAmongSuggestions ∈ zz := zz_in 3 (by decide +kernel) (by decide +kernel)
theorem se_S_isSuggestedBefore : Cond.selects R_S y_S_isSuggestedBefore y_S_isSuggestedBefore ∈ zz := zz_in 4 (by decide +kernel) (by decide +kernel)
theorem se_S_isCompletion : Cond.selects R_S y_S_isCompletion y_S_isCompletion ∈ zz := zz_in 5 (by decide +kernel) (by decide +kernel)
theorem se_S_placeAmongCompletions : Cond.selects R_S y_S_placeAmongCompletions y_S_placeAmongCompletions ∈ zz := zz_in 6 (by decide +kernel) (by decide +kernel)
theorem se_E_firstEdit : Cond.selects R_E y_E_firstEdit y_E_firstEdit ∈ zz := zz_in 7 (by decide +kernel) (by decide +kernel)
theorem se_R_listsWithin : Cond.selects R_R y_R_listsWithin y_R_listsWithin ∈ zz := zz_in 8 (by decide +kernel) (by decide +kernel)
theorem se_R_placeBefore : Cond.selects R_R y_R_placeBefore y_R_placeBefore ∈ zz := zz_in 9 (by decide +kernel) (by decide +kernel)
theorem se_M_same : Cond.selects R_M y_M_same y_M_same ∈ zz := zz_in 10 (by decide +kernel) (by decide +kernel)
theorem se_M_beginsTyped : Cond.selects R_M y_M_beginsTyped y_M_beginsTyped ∈ zz := zz_in 11 (by decide +kernel) (by decide +kernel)
theorem se_M_place : Cond.selects R_M y_M_place y_M_place ∈ zz := zz_in 12 (by decide +kernel) (by decide +kernel)
theorem se_M_rankOf : Cond.selects R_M y_M_rankOf y_M_rankOf ∈ zz := zz_in 13 (by decide +kernel) (by decide +kernel)
theorem se_M_before : Cond.selects R_M y_M_before y_M_before ∈ zz := zz_in 14 (by decide +kernel) (by decide +kernel)
theorem se_M_at : Cond.selects R_M y_M_at y_M_at ∈ zz := zz_in 15 (by decide +kernel) (by decide +kernel)
theorem se_M_far : Cond.selects R_M y_M_far y_M_far ∈ zz := zz_in 16 (by decide +kernel) (by decide +kernel)
theorem se_M_reach : Cond.selects R_M y_M_reach y_M_reach ∈ zz := zz_in 17 (by decide +kernel) (by decide +kernel)
theorem se_M_better : Cond.selects R_M y_M_better y_M_better ∈ zz := zz_in 18 (by decide +kernel) (by decide +kernel)
theorem se_M_next : Cond.selects R_M y_M_next y_M_next ∈ zz := zz_in 19 (by decide +kernel) (by decide +kernel)
theorem se_M_left : Cond.selects R_M y_M_left y_M_left ∈ zz := zz_in 20 (by decide +kernel) (by decide +kernel)
def zn : List Cond := [(Cond.fieldLinkNest R_E (16) R_L "size" "I" R_S), (Cond.fieldLinkNest R_R (16) R_L "size" "I" R_S), (Cond.fieldLinkNest R_S (54) R_L "size" "I" R_S), (Cond.fieldLinkNest R_D (22) R_W "letters" "LSpellDesk$Letters;" R_S), (Cond.fieldLinkNest R_D (26) R_W "times" "I" R_S), (Cond.fieldLinkNest R_S (78) R_D "size" "I" R_S)]
theorem zn_in : ∀ w ∈ zn, w ∈ lw_tbl := by
  intro w hw
  unfold zn at hw
  simp only [List.mem_cons, List.not_mem_nil, or_false] at hw
  rcases hw with rfl | rfl | rfl | rfl | rfl | rfl
  · exact List.mem_of_getElem? (i := 46) (by decide +kernel)
  · exact List.mem_of_getElem? (i := 47) (by decide +kernel)
  · exact List.mem_of_getElem? (i := 48) (by decide +kernel)
  · exact List.mem_of_getElem? (i := 71) (by decide +kernel)
  · exact List.mem_of_getElem? (i := 73) (by decide +kernel)
  · exact List.mem_of_getElem? (i := 81) (by decide +kernel)
theorem fn_E_16 : (Cond.fieldLinkNest R_E (16) R_L "size" "I" R_S) ∈ zn := List.mem_of_getElem? (i := 0) rfl
theorem fn_R_16 : (Cond.fieldLinkNest R_R (16) R_L "size" "I" R_S) ∈ zn := List.mem_of_getElem? (i := 1) rfl
theorem fn_S_54 : (Cond.fieldLinkNest R_S (54) R_L "size" "I" R_S) ∈ zn := List.mem_of_getElem? (i := 2) rfl
theorem fn_D_22 : (Cond.fieldLinkNest R_D (22) R_W "letters" "LSpellDesk$Letters;" R_S) ∈ zn := List.mem_of_getElem? (i := 3) rfl
theorem fn_D_26 : (Cond.fieldLinkNest R_D (26) R_W "times" "I" R_S) ∈ zn := List.mem_of_getElem? (i := 4) rfl
theorem fn_S_78 : (Cond.fieldLinkNest R_S (78) R_D "size" "I" R_S) ∈ zn := List.mem_of_getElem? (i := 5) rfl
