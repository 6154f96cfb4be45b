/-! names, words, decode rows of the class, the reference and the law: laid by wip/whole/names2.py -/
def nw_T : List Cond := lw_tbl.filter goodWord
theorem nw_in {w : Cond} {i : Nat} (h : lw_tbl[i]? = some w) (hg : goodWord w = true) : w ∈ nw_T := List.mem_filter.mpr ⟨List.mem_of_getElem? h, hg⟩
theorem nw_tbl {w : Cond} (h : w ∈ nw_T) : w ∈ lw_tbl := (List.mem_filter.mp h).1
theorem nw_good {w : Cond} (h : w ∈ nw_T) : goodWord w = true := (List.mem_filter.mp h).2
theorem nw_of {a : Cond} {ws : List Cond} (h : ∀ w ∈ ws, w ∈ nw_T) : GoodIn (a :: nw_T) ws := fun w hw => ⟨List.mem_cons_of_mem _ (h w hw), good_of_word (nw_good (h w hw))⟩
theorem nw_3 {w1 w2 w3 w4 : Cond} (h1 : w1 ∈ nw_T) (h2 : w2 ∈ nw_T) (h3 : w3 ∈ nw_T) (h4 : w4 ∈ nw_T) : ∀ w ∈ ([w1, w2, w3] : List Cond) ++ (w4 :: nw_T), w ∈ nw_T := by
  intro w hw
  simp only [List.cons_append, List.nil_append, List.mem_cons] at hw
  rcases hw with rfl | rfl | rfl | rfl | hw
  · exact h1
  · exact h2
  · exact h3
  · exact h4
  · exact hw
theorem nw_4 {w1 w2 w3 w4 w5 : Cond} (h1 : w1 ∈ nw_T) (h2 : w2 ∈ nw_T) (h3 : w3 ∈ nw_T) (h4 : w4 ∈ nw_T) (h5 : w5 ∈ nw_T) : ∀ w ∈ ([w1, w2, w3, w4] : List Cond) ++ (w5 :: nw_T), w ∈ nw_T := by
  intro w hw
  simp only [List.cons_append, List.nil_append, List.mem_cons] at hw
  rcases hw with rfl | rfl | rfl | rfl | rfl | hw
  · exact h1
  · exact h2
  · exact h3
  · exact h4
  · exact h5
  · exact hw
theorem nw_0 {w4 : Cond} (h4 : w4 ∈ nw_T) : ∀ w ∈ (w4 :: nw_T), w ∈ nw_T := by
  intro w hw
  rcases List.mem_cons.mp hw with rfl | hw
  · exact h4
  · exact hw
def nR_B : String := "RadixShelf$Branch"
def nT_B : u_T := fun k => match k with
  | 0 => ("RadixShelf$Branch", "stamp", "I", true)
  | _ => ("RadixShelf$Branch", "leaves", "[LRadixShelf$Leaf;", true)
def nt_B : Nat → FieldType := fun k => match k with
  | 0 => .int
  | _ => (.array (.object "RadixShelf$Leaf"))
theorem nn_B : ∀ a, a < 2 → ∀ b, b < 2 → a ≠ b → (nT_B a).2.1 ≠ (nT_B b).2.1 := by decide +kernel
theorem nk_B : ∀ k, k < 2 → parseFieldDescriptor (nT_B k).2.2.1 = some (nt_B k) := by decide +kernel
def nR_F : String := "RadixShelf$Leaf"
def nT_F : u_T := fun k => match k with
  | 0 => ("RadixShelf$Leaf", "stamp", "I", true)
  | _ => ("RadixShelf$Leaf", "values", "[J", true)
def nt_F : Nat → FieldType := fun k => match k with
  | 0 => .int
  | _ => (.array .long)
theorem nn_F : ∀ a, a < 2 → ∀ b, b < 2 → a ≠ b → (nT_F a).2.1 ≠ (nT_F b).2.1 := by decide +kernel
theorem nk_F : ∀ k, k < 2 → parseFieldDescriptor (nT_F k).2.2.1 = some (nt_F k) := by decide +kernel
def nR_R : String := "RadixShelf$Root"
def nT_R : u_T := fun k => match k with
  | 0 => ("RadixShelf$Root", "stamp", "I", true)
  | _ => ("RadixShelf$Root", "branches", "[LRadixShelf$Branch;", true)
def nt_R : Nat → FieldType := fun k => match k with
  | 0 => .int
  | _ => (.array (.object "RadixShelf$Branch"))
theorem nn_R : ∀ a, a < 2 → ∀ b, b < 2 → a ≠ b → (nT_R a).2.1 ≠ (nT_R b).2.1 := by decide +kernel
theorem nk_R : ∀ k, k < 2 → parseFieldDescriptor (nT_R k).2.2.1 = some (nt_R k) := by decide +kernel
def nR_Q : String := "RadixShelf$Sequence"
def nT_Q : u_T := fun k => match k with
  | 0 => ("RadixShelf$Sequence", "stamp", "I", true)
  | 1 => ("RadixShelf$Sequence", "root", "LRadixShelf$Root;", false)
  | 2 => ("RadixShelf$Sequence", "tail", "LRadixShelf$Leaf;", false)
  | 3 => ("RadixShelf$Sequence", "offset", "I", false)
  | _ => ("RadixShelf$Sequence", "count", "I", false)
def nt_Q : Nat → FieldType := fun k => match k with
  | 0 => .int
  | 1 => (.object "RadixShelf$Root")
  | 2 => (.object "RadixShelf$Leaf")
  | 3 => .int
  | _ => .int
theorem nn_Q : ∀ a, a < 5 → ∀ b, b < 5 → a ≠ b → (nT_Q a).2.1 ≠ (nT_Q b).2.1 := by decide +kernel
theorem nk_Q : ∀ k, k < 5 → parseFieldDescriptor (nT_Q k).2.2.1 = some (nt_Q k) := by decide +kernel
def nR_S : String := "RadixShelf"
def nT_S : u_T := fun k => match k with
  | 0 => ("RadixShelf", "empty", "LRadixShelf$Sequence;", true)
  | 1 => ("RadixShelf", "slots", "[LRadixShelf$Sequence;", true)
  | 2 => ("RadixShelf", "builder", "LRadixShelf$Sequence;", false)
  | _ => ("RadixShelf", "lastStamp", "I", false)
def nt_S : Nat → FieldType := fun k => match k with
  | 0 => (.object "RadixShelf$Sequence")
  | 1 => (.array (.object "RadixShelf$Sequence"))
  | 2 => (.object "RadixShelf$Sequence")
  | _ => .int
theorem nn_S : ∀ a, a < 4 → ∀ b, b < 4 → a ≠ b → (nT_S a).2.1 ≠ (nT_S b).2.1 := by decide +kernel
theorem nk_S : ∀ k, k < 4 → parseFieldDescriptor (nT_S k).2.2.1 = some (nt_S k) := by decide +kernel
def nR_M : String := "RadixShelfModel"
def nT_M : u_T := fun k => match k with
  | 0 => ("RadixShelfModel", "rows", "[[J", true)
  | 1 => ("RadixShelfModel", "sizes", "[I", true)
  | 2 => ("RadixShelfModel", "\x6fpen", "Z", false)
  | _ => ("RadixShelfModel", "code", "I", false)
def nt_M : Nat → FieldType := fun k => match k with
  | 0 => (.array (.array .long))
  | 1 => (.array .int)
  | 2 => .boolean
  | _ => .int
theorem nn_M : ∀ a, a < 4 → ∀ b, b < 4 → a ≠ b → (nT_M a).2.1 ≠ (nT_M b).2.1 := by decide +kernel
theorem nk_M : ∀ k, k < 4 → parseFieldDescriptor (nT_M k).2.2.1 = some (nt_M k) := by decide +kernel
abbrev n_cl : List vw_C := [(nR_B, nT_B, 2), (nR_F, nT_F, 2), (nR_R, nT_R, 2), (nR_Q, nT_Q, 5), (nR_S, nT_S, 4), (nR_M, nT_M, 4)]
abbrev nb_S_init : ByteArray := prog_1_method_1_code
def ny_S_init : MethodName := ⟨"RadixShelf", "<init>", "()V"⟩
def nw_S_init : List Cond := .code ny_S_init nb_S_init 2 none :: nw_T
abbrev nb_S_blankSequence : ByteArray := prog_1_method_20_code
def ny_S_blankSequence : MethodName := ⟨"RadixShelf", "blankSequence", "()LRadixShelf$Sequence;"⟩
def nw_S_blankSequence : List Cond := .code ny_S_blankSequence nb_S_blankSequence 5 (some (FieldType.object "RadixShelf$Sequence")) :: nw_T
abbrev nb_F_init : ByteArray := prog_3_method_1_code
def ny_F_init : MethodName := ⟨"RadixShelf$Leaf", "<init>", "(I[J)V"⟩
def nw_F_init : List Cond := .code ny_F_init nb_F_init 3 none :: nw_T
abbrev nb_B_init : ByteArray := prog_2_method_1_code
def ny_B_init : MethodName := ⟨"RadixShelf$Branch", "<init>", "(I[LRadixShelf$Leaf;)V"⟩
def nw_B_init : List Cond := .code ny_B_init nb_B_init 3 none :: nw_T
abbrev nb_R_init : ByteArray := prog_4_method_1_code
def ny_R_init : MethodName := ⟨"RadixShelf$Root", "<init>", "(I[LRadixShelf$Branch;)V"⟩
def nw_R_init : List Cond := .code ny_R_init nb_R_init 3 none :: nw_T
abbrev nb_Q_init : ByteArray := prog_5_method_1_code
def ny_Q_init : MethodName := ⟨"RadixShelf$Sequence", "<init>", "(ILRadixShelf$Root;LRadixShelf$Leaf;II)V"⟩
def nw_Q_init : List Cond := .code ny_Q_init nb_Q_init 6 none :: nw_T
abbrev nb_L_add : ByteArray := method_3_code
def ny_L_add : MethodName := ⟨"RadixShelfLaw", "add", "(LRadixShelf;IIJ[J)I"⟩
def nw_L_add : List Cond := .codeWith ny_L_add nb_L_add 7 (some FieldType.int) [(0, 12, 15, 13), (0, 12, 19, 15)] :: nw_T
abbrev nb_S_add : ByteArray := prog_1_method_2_code
def ny_S_add : MethodName := ⟨"RadixShelf", "add", "(IIJ)I"⟩
def nw_S_add : List Cond := .code ny_S_add nb_S_add 6 (some FieldType.int) :: nw_T
abbrev nb_S_checkSlot : ByteArray := prog_1_method_15_code
def ny_S_checkSlot : MethodName := ⟨"RadixShelf", "checkSlot", "(I)V"⟩
def nw_S_checkSlot : List Cond := .code ny_S_checkSlot nb_S_checkSlot 1 none :: nw_T
abbrev nb_S_checkRange : ByteArray := prog_1_method_16_code
def ny_S_checkRange : MethodName := ⟨"RadixShelf", "checkRange", "(III)V"⟩
def nw_S_checkRange : List Cond := .code ny_S_checkRange nb_S_checkRange 3 none :: nw_T
abbrev nb_S_checkRoom : ByteArray := prog_1_method_19_code
def ny_S_checkRoom : MethodName := ⟨"RadixShelf", "checkRoom", "(LRadixShelf$Sequence;)V"⟩
def nw_S_checkRoom : List Cond := .code ny_S_checkRoom nb_S_checkRoom 1 none :: nw_T
abbrev nb_S_draftOf : ByteArray := prog_1_method_14_code
def ny_S_draftOf : MethodName := ⟨"RadixShelf", "draftOf", "(LRadixShelf$Sequence;)LRadixShelf$Sequence;"⟩
def nw_S_draftOf : List Cond := .code ny_S_draftOf nb_S_draftOf 2 (some (FieldType.object "RadixShelf$Sequence")) :: nw_T
abbrev nb_Q_append : ByteArray := prog_5_method_3_code
def ny_Q_append : MethodName := ⟨"RadixShelf$Sequence", "append", "(J)V"⟩
def nw_Q_append : List Cond := .code ny_Q_append nb_Q_append 6 none :: nw_T
abbrev nb_Q_position : ByteArray := prog_5_method_7_code
def ny_Q_position : MethodName := ⟨"RadixShelf$Sequence", "position", "(I)I"⟩
def nw_Q_position : List Cond := .code ny_Q_position nb_Q_position 2 (some FieldType.int) :: nw_T
abbrev nb_Q_tailBlock : ByteArray := prog_5_method_8_code
def ny_Q_tailBlock : MethodName := ⟨"RadixShelf$Sequence", "tailBlock", "()I"⟩
def nw_Q_tailBlock : List Cond := .code ny_Q_tailBlock nb_Q_tailBlock 1 (some FieldType.int) :: nw_T
abbrev nb_Q_hang : ByteArray := prog_5_method_11_code
def ny_Q_hang : MethodName := ⟨"RadixShelf$Sequence", "hang", "(ILRadixShelf$Leaf;)V"⟩
def nw_Q_hang : List Cond := .code ny_Q_hang nb_Q_hang 3 none :: nw_T
abbrev nb_R_ownedBy : ByteArray := prog_4_method_2_code
def ny_R_ownedBy : MethodName := ⟨"RadixShelf$Root", "ownedBy", "(I)LRadixShelf$Root;"⟩
def nw_R_ownedBy : List Cond := .code ny_R_ownedBy nb_R_ownedBy 2 (some (FieldType.object "RadixShelf$Root")) :: nw_T
abbrev nb_R_hangOwned : ByteArray := prog_4_method_4_code
def ny_R_hangOwned : MethodName := ⟨"RadixShelf$Root", "hangOwned", "(ILRadixShelf$Leaf;)V"⟩
def nw_R_hangOwned : List Cond := .code ny_R_hangOwned nb_R_hangOwned 4 none :: nw_T
abbrev nb_B_ownedBy : ByteArray := prog_2_method_2_code
def ny_B_ownedBy : MethodName := ⟨"RadixShelf$Branch", "ownedBy", "(I)LRadixShelf$Branch;"⟩
def nw_B_ownedBy : List Cond := .code ny_B_ownedBy nb_B_ownedBy 2 (some (FieldType.object "RadixShelf$Branch")) :: nw_T
abbrev nb_R_leafOf : ByteArray := prog_4_method_3_code
def ny_R_leafOf : MethodName := ⟨"RadixShelf$Root", "leafOf", "(I)LRadixShelf$Leaf;"⟩
def nw_R_leafOf : List Cond := .code ny_R_leafOf nb_R_leafOf 2 (some (FieldType.object "RadixShelf$Leaf")) :: nw_T
abbrev nb_Q_write : ByteArray := prog_5_method_10_code
def ny_Q_write : MethodName := ⟨"RadixShelf$Sequence", "write", "(IJ)V"⟩
def nw_Q_write : List Cond := .code ny_Q_write nb_Q_write 6 none :: nw_T
abbrev nb_Q_leafOf : ByteArray := prog_5_method_9_code
def ny_Q_leafOf : MethodName := ⟨"RadixShelf$Sequence", "leafOf", "(I)LRadixShelf$Leaf;"⟩
def nw_Q_leafOf : List Cond := .code ny_Q_leafOf nb_Q_leafOf 2 (some (FieldType.object "RadixShelf$Leaf")) :: nw_T
abbrev nb_F_ownedBy : ByteArray := prog_3_method_2_code
def ny_F_ownedBy : MethodName := ⟨"RadixShelf$Leaf", "ownedBy", "(I)LRadixShelf$Leaf;"⟩
def nw_F_ownedBy : List Cond := .code ny_F_ownedBy nb_F_ownedBy 2 (some (FieldType.object "RadixShelf$Leaf")) :: nw_T
abbrev nb_L_push : ByteArray := method_4_code
def ny_L_push : MethodName := ⟨"RadixShelfLaw", "push", "(LRadixShelf;IIJ[J)I"⟩
def nw_L_push : List Cond := .codeWith ny_L_push nb_L_push 7 (some FieldType.int) [(0, 12, 15, 13), (0, 12, 19, 15)] :: nw_T
abbrev nb_S_push : ByteArray := prog_1_method_3_code
def ny_S_push : MethodName := ⟨"RadixShelf", "push", "(IIJ)I"⟩
def nw_S_push : List Cond := .code ny_S_push nb_S_push 6 (some FieldType.int) :: nw_T
abbrev nb_Q_prepend : ByteArray := prog_5_method_4_code
def ny_Q_prepend : MethodName := ⟨"RadixShelf$Sequence", "prepend", "(J)V"⟩
def nw_Q_prepend : List Cond := .code ny_Q_prepend nb_Q_prepend 3 none :: nw_T
abbrev nb_L_set : ByteArray := method_5_code
def ny_L_set : MethodName := ⟨"RadixShelfLaw", "set", "(LRadixShelf;IIIJ[J)I"⟩
def nw_L_set : List Cond := .codeWith ny_L_set nb_L_set 8 (some FieldType.int) [(0, 13, 16, 13), (0, 13, 20, 24)] :: nw_T
abbrev nb_S_set : ByteArray := prog_1_method_4_code
def ny_S_set : MethodName := ⟨"RadixShelf", "set", "(IIIJ)J"⟩
def nw_S_set : List Cond := .code ny_S_set nb_S_set 9 (some FieldType.long) :: nw_T
abbrev nb_S_checkElement : ByteArray := prog_1_method_18_code
def ny_S_checkElement : MethodName := ⟨"RadixShelf", "checkElement", "(LRadixShelf$Sequence;I)V"⟩
def nw_S_checkElement : List Cond := .code ny_S_checkElement nb_S_checkElement 2 none :: nw_T
abbrev nb_Q_element : ByteArray := prog_5_method_2_code
def ny_Q_element : MethodName := ⟨"RadixShelf$Sequence", "element", "(I)J"⟩
def nw_Q_element : List Cond := .code ny_Q_element nb_Q_element 3 (some FieldType.long) :: nw_T
abbrev nb_Q_replace : ByteArray := prog_5_method_5_code
def ny_Q_replace : MethodName := ⟨"RadixShelf$Sequence", "replace", "(IJ)V"⟩
def nw_Q_replace : List Cond := .code ny_Q_replace nb_Q_replace 4 none :: nw_T
abbrev nb_L_at : ByteArray := method_6_code
def ny_L_at : MethodName := ⟨"RadixShelfLaw", "at", "(LRadixShelf;II[J)I"⟩
def nw_L_at : List Cond := .codeWith ny_L_at nb_L_at 5 (some FieldType.int) [(0, 9, 12, 13), (0, 9, 16, 24)] :: nw_T
abbrev nb_S_at : ByteArray := prog_1_method_5_code
def ny_S_at : MethodName := ⟨"RadixShelf", "at", "(II)J"⟩
def nw_S_at : List Cond := .code ny_S_at nb_S_at 3 (some FieldType.long) :: nw_T
abbrev nb_L_cut : ByteArray := method_7_code
def ny_L_cut : MethodName := ⟨"RadixShelfLaw", "cut", "(LRadixShelf;IIII[J)I"⟩
def nw_L_cut : List Cond := .codeWith ny_L_cut nb_L_cut 7 (some FieldType.int) [(0, 14, 17, 13), (0, 14, 21, 24)] :: nw_T
abbrev nb_S_cut : ByteArray := prog_1_method_6_code
def ny_S_cut : MethodName := ⟨"RadixShelf", "cut", "(IIII)I"⟩
def nw_S_cut : List Cond := .code ny_S_cut nb_S_cut 6 (some FieldType.int) :: nw_T
abbrev nb_S_checkNotNegative : ByteArray := prog_1_method_17_code
def ny_S_checkNotNegative : MethodName := ⟨"RadixShelf", "checkNotNegative", "(I)V"⟩
def nw_S_checkNotNegative : List Cond := .code ny_S_checkNotNegative nb_S_checkNotNegative 1 none :: nw_T
abbrev nb_Q_trim : ByteArray := prog_5_method_6_code
def ny_Q_trim : MethodName := ⟨"RadixShelf$Sequence", "trim", "(II)V"⟩
def nw_Q_trim : List Cond := .code ny_Q_trim nb_Q_trim 4 none :: nw_T
abbrev nb_L_fill : ByteArray := method_8_code
def ny_L_fill : MethodName := ⟨"RadixShelfLaw", "fill", "(LRadixShelf;IJJI[J)I"⟩
def nw_L_fill : List Cond := .codeWith ny_L_fill nb_L_fill 9 (some FieldType.int) [(0, 15, 18, 13)] :: nw_T
abbrev nb_S_fill : ByteArray := prog_1_method_7_code
def ny_S_fill : MethodName := ⟨"RadixShelf", "fill", "(IJJI)I"⟩
def nw_S_fill : List Cond := .code ny_S_fill nb_S_fill 11 (some FieldType.int) :: nw_T
abbrev nb_L_size : ByteArray := method_9_code
def ny_L_size : MethodName := ⟨"RadixShelfLaw", "size", "(LRadixShelf;I[J)I"⟩
def nw_L_size : List Cond := .codeWith ny_L_size nb_L_size 4 (some FieldType.int) [(0, 9, 12, 13)] :: nw_T
abbrev nb_S_size : ByteArray := prog_1_method_8_code
def ny_S_size : MethodName := ⟨"RadixShelf", "size", "(I)I"⟩
def nw_S_size : List Cond := .code ny_S_size nb_S_size 2 (some FieldType.int) :: nw_T
abbrev nb_L_hash : ByteArray := method_10_code
def ny_L_hash : MethodName := ⟨"RadixShelfLaw", "hash", "(LRadixShelf;I[J)I"⟩
def nw_L_hash : List Cond := .codeWith ny_L_hash nb_L_hash 4 (some FieldType.int) [(0, 8, 11, 13)] :: nw_T
abbrev nb_S_hash : ByteArray := prog_1_method_9_code
def ny_S_hash : MethodName := ⟨"RadixShelf", "hash", "(I)J"⟩
def nw_S_hash : List Cond := .code ny_S_hash nb_S_hash 6 (some FieldType.long) :: nw_T
abbrev nb_L_open : ByteArray := method_11_code
def ny_L_open : MethodName := ⟨"RadixShelfLaw", "\x6fpen", "(LRadixShelf;I)I"⟩
def nw_L_open : List Cond := .codeWith ny_L_open nb_L_open 3 (some FieldType.int) [(0, 5, 8, 13), (0, 5, 11, 50)] :: nw_T
abbrev nb_S_open : ByteArray := prog_1_method_10_code
def ny_S_open : MethodName := ⟨"RadixShelf", "\x6fpen", "(I)V"⟩
def nw_S_open : List Cond := .code ny_S_open nb_S_open 2 none :: nw_T
abbrev nb_L_build : ByteArray := method_12_code
def ny_L_build : MethodName := ⟨"RadixShelfLaw", "build", "(LRadixShelf;IIJ[J)I"⟩
def nw_L_build : List Cond := .codeWith ny_L_build nb_L_build 7 (some FieldType.int) [(0, 12, 15, 13), (0, 12, 19, 50), (0, 12, 23, 24), (0, 12, 27, 15)] :: nw_T
abbrev nb_S_build : ByteArray := prog_1_method_11_code
def ny_S_build : MethodName := ⟨"RadixShelf", "build", "(IIJ)I"⟩
def nw_S_build : List Cond := .code ny_S_build nb_S_build 6 (some FieldType.int) :: nw_T
abbrev nb_S_presentBuilder : ByteArray := prog_1_method_13_code
def ny_S_presentBuilder : MethodName := ⟨"RadixShelf", "presentBuilder", "()LRadixShelf$Sequence;"⟩
def nw_S_presentBuilder : List Cond := .code ny_S_presentBuilder nb_S_presentBuilder 1 (some (FieldType.object "RadixShelf$Sequence")) :: nw_T
abbrev nb_L_freeze : ByteArray := method_13_code
def ny_L_freeze : MethodName := ⟨"RadixShelfLaw", "freeze", "(LRadixShelf;I[J)I"⟩
def nw_L_freeze : List Cond := .codeWith ny_L_freeze nb_L_freeze 4 (some FieldType.int) [(0, 9, 12, 13), (0, 9, 15, 50)] :: nw_T
abbrev nb_S_freeze : ByteArray := prog_1_method_12_code
def ny_S_freeze : MethodName := ⟨"RadixShelf", "freeze", "(I)I"⟩
def nw_S_freeze : List Cond := .code ny_S_freeze nb_S_freeze 3 (some FieldType.int) :: nw_T
abbrev nb_M_init : ByteArray := prog_7_method_1_code
def ny_M_init : MethodName := ⟨"RadixShelfModel", "<init>", "()V"⟩
def nw_M_init : List Cond := .code ny_M_init nb_M_init 1 none :: nw_T
abbrev nb_M_thrown : ByteArray := prog_7_method_2_code
def ny_M_thrown : MethodName := ⟨"RadixShelfModel", "thrown", "()I"⟩
def nw_M_thrown : List Cond := .code ny_M_thrown nb_M_thrown 1 (some FieldType.int) :: nw_T
abbrev nb_M_add : ByteArray := prog_7_method_6_code
def ny_M_add : MethodName := ⟨"RadixShelfModel", "add", "(IIJ)I"⟩
def nw_M_add : List Cond := .code ny_M_add nb_M_add 5 (some FieldType.int) :: nw_T
abbrev nb_M_isSlot : ByteArray := prog_7_method_4_code
def ny_M_isSlot : MethodName := ⟨"RadixShelfModel", "isSlot", "(I)Z"⟩
def nw_M_isSlot : List Cond := .code ny_M_isSlot nb_M_isSlot 1 (some FieldType.boolean) :: nw_T
abbrev nb_M_good : ByteArray := prog_7_method_3_code
def ny_M_good : MethodName := ⟨"RadixShelfModel", "good", "(ZI)Z"⟩
def nw_M_good : List Cond := .code ny_M_good nb_M_good 3 (some FieldType.boolean) :: nw_T
abbrev nb_M_copy : ByteArray := prog_7_method_5_code
def ny_M_copy : MethodName := ⟨"RadixShelfModel", "copy", "(II)V"⟩
def nw_M_copy : List Cond := .code ny_M_copy nb_M_copy 4 none :: nw_T
abbrev nb_M_push : ByteArray := prog_7_method_7_code
def ny_M_push : MethodName := ⟨"RadixShelfModel", "push", "(IIJ)I"⟩
def nw_M_push : List Cond := .code ny_M_push nb_M_push 6 (some FieldType.int) :: nw_T
abbrev nb_M_set : ByteArray := prog_7_method_8_code
def ny_M_set : MethodName := ⟨"RadixShelfModel", "set", "(IIIJ)J"⟩
def nw_M_set : List Cond := .code ny_M_set nb_M_set 8 (some FieldType.long) :: nw_T
abbrev nb_M_at : ByteArray := prog_7_method_9_code
def ny_M_at : MethodName := ⟨"RadixShelfModel", "at", "(II)J"⟩
def nw_M_at : List Cond := .code ny_M_at nb_M_at 3 (some FieldType.long) :: nw_T
abbrev nb_M_cut : ByteArray := prog_7_method_10_code
def ny_M_cut : MethodName := ⟨"RadixShelfModel", "cut", "(IIII)I"⟩
def nw_M_cut : List Cond := .code ny_M_cut nb_M_cut 7 (some FieldType.int) :: nw_T
abbrev nb_M_fill : ByteArray := prog_7_method_11_code
def ny_M_fill : MethodName := ⟨"RadixShelfModel", "fill", "(IJJI)I"⟩
def nw_M_fill : List Cond := .code ny_M_fill nb_M_fill 8 (some FieldType.int) :: nw_T
abbrev nb_M_size : ByteArray := prog_7_method_12_code
def ny_M_size : MethodName := ⟨"RadixShelfModel", "size", "(I)I"⟩
def nw_M_size : List Cond := .code ny_M_size nb_M_size 2 (some FieldType.int) :: nw_T
abbrev nb_M_hash : ByteArray := prog_7_method_13_code
def ny_M_hash : MethodName := ⟨"RadixShelfModel", "hash", "(I)J"⟩
def nw_M_hash : List Cond := .code ny_M_hash nb_M_hash 5 (some FieldType.long) :: nw_T
abbrev nb_M_open : ByteArray := prog_7_method_14_code
def ny_M_open : MethodName := ⟨"RadixShelfModel", "\x6fpen", "(I)V"⟩
def nw_M_open : List Cond := .code ny_M_open nb_M_open 2 none :: nw_T
abbrev nb_M_build : ByteArray := prog_7_method_15_code
def ny_M_build : MethodName := ⟨"RadixShelfModel", "build", "(IIJ)I"⟩
def nw_M_build : List Cond := .code ny_M_build nb_M_build 6 (some FieldType.int) :: nw_T
abbrev nb_M_freeze : ByteArray := prog_7_method_16_code
def ny_M_freeze : MethodName := ⟨"RadixShelfModel", "freeze", "(I)I"⟩
def nw_M_freeze : List Cond := .code ny_M_freeze nb_M_freeze 2 (some FieldType.int) :: nw_T
abbrev nb_L_law : ByteArray := code
def ny_L_law : MethodName := ⟨"RadixShelfLaw", "law", "([I)Z"⟩
theorem nh_se_S_draftOf : (.selects "RadixShelf" ny_S_draftOf ny_S_draftOf : Cond) ∈ nw_T := nw_in (i := 1) (by decide +kernel) (by decide +kernel)
theorem nh_se_Q_position : (.selects "RadixShelf$Sequence" ny_Q_position ny_Q_position : Cond) ∈ nw_T := nw_in (i := 2) (by decide +kernel) (by decide +kernel)
theorem nh_se_Q_tailBlock : (.selects "RadixShelf$Sequence" ny_Q_tailBlock ny_Q_tailBlock : Cond) ∈ nw_T := nw_in (i := 3) (by decide +kernel) (by decide +kernel)
theorem nh_se_Q_hang : (.selects "RadixShelf$Sequence" ny_Q_hang ny_Q_hang : Cond) ∈ nw_T := nw_in (i := 4) (by decide +kernel) (by decide +kernel)
theorem nh_se_Q_write : (.selects "RadixShelf$Sequence" ny_Q_write ny_Q_write : Cond) ∈ nw_T := nw_in (i := 5) (by decide +kernel) (by decide +kernel)
theorem nh_se_Q_leafOf : (.selects "RadixShelf$Sequence" ny_Q_leafOf ny_Q_leafOf : Cond) ∈ nw_T := nw_in (i := 6) (by decide +kernel) (by decide +kernel)
theorem nh_se_S_presentBuilder : (.selects "RadixShelf" ny_S_presentBuilder ny_S_presentBuilder : Cond) ∈ nw_T := nw_in (i := 7) (by decide +kernel) (by decide +kernel)
theorem nh_se_M_good : (.selects "RadixShelfModel" ny_M_good ny_M_good : Cond) ∈ nw_T := nw_in (i := 8) (by decide +kernel) (by decide +kernel)
theorem nh_se_M_copy : (.selects "RadixShelfModel" ny_M_copy ny_M_copy : Cond) ∈ nw_T := nw_in (i := 9) (by decide +kernel) (by decide +kernel)
theorem nh_in_L : (.initialized "RadixShelfLaw" : Cond) ∈ nw_T := nw_in (i := 10) (by decide +kernel) (by decide +kernel)
theorem nh_in_S : (.initialized "RadixShelf" : Cond) ∈ nw_T := nw_in (i := 11) (by decide +kernel) (by decide +kernel)
theorem nh_in_F : (.initialized "RadixShelf$Leaf" : Cond) ∈ nw_T := nw_in (i := 12) (by decide +kernel) (by decide +kernel)
theorem nh_in_B : (.initialized "RadixShelf$Branch" : Cond) ∈ nw_T := nw_in (i := 13) (by decide +kernel) (by decide +kernel)
theorem nh_in_Q : (.initialized "RadixShelf$Sequence" : Cond) ∈ nw_T := nw_in (i := 14) (by decide +kernel) (by decide +kernel)
theorem nh_in_R : (.initialized "RadixShelf$Root" : Cond) ∈ nw_T := nw_in (i := 15) (by decide +kernel) (by decide +kernel)
theorem nh_in_M : (.initialized "RadixShelfModel" : Cond) ∈ nw_T := nw_in (i := 16) (by decide +kernel) (by decide +kernel)
theorem nh_in_IAE : (.initialized "java/lang/IllegalArgumentException" : Cond) ∈ nw_T := nw_in (i := 20) (by decide +kernel) (by decide +kernel)
theorem nh_in_IOB : (.initialized "java/lang/IndexOutOfBoundsException" : Cond) ∈ nw_T := nw_in (i := 21) (by decide +kernel) (by decide +kernel)
theorem nh_in_NSE : (.initialized "java/util/NoSuchElementException" : Cond) ∈ nw_T := nw_in (i := 22) (by decide +kernel) (by decide +kernel)
theorem nh_in_ISE : (.initialized "java/lang/IllegalStateException" : Cond) ∈ nw_T := nw_in (i := 23) (by decide +kernel) (by decide +kernel)
theorem nh_cl_L_8 : (.classLink "RadixShelfLaw" 8 "RadixShelf" : Cond) ∈ nw_T := nw_in (i := 24) (by decide +kernel) (by decide +kernel)
theorem nh_is_S : (.instantiable "RadixShelf" 4 : Cond) ∈ nw_T := nw_in (i := 25) (by decide +kernel) (by decide +kernel)
theorem nh_ml_L_58 : (.methodLink "RadixShelfLaw" 58 ny_S_init : Cond) ∈ nw_T := nw_in (i := 26) (by decide +kernel) (by decide +kernel)
theorem nh_im_S_init : (.instanceMethod ny_S_init : Cond) ∈ nw_T := nw_in (i := 27) (by decide +kernel) (by decide +kernel)
theorem nh_co_S_init : (.code ny_S_init nb_S_init 2 none : Cond) ∈ nw_T := nw_in (i := 28) (by decide +kernel) (by decide +kernel)
theorem nh_ml_S_3 : (.methodLink "RadixShelf" 3 ⟨"java/lang/Object", "<init>", "()V"⟩ : Cond) ∈ nw_T := nw_in (i := 29) (by decide +kernel) (by decide +kernel)
theorem nh_im_obj : (.instanceMethod objectInit : Cond) ∈ nw_T := nw_in (i := 30) (by decide +kernel) (by decide +kernel)
theorem nh_co_obj : (.code objectInit ⟨#[0xb1]⟩ 1 none : Cond) ∈ nw_T := nw_in (i := 31) (by decide +kernel) (by decide +kernel)
theorem nh_ml_S_9 : (.methodLink "RadixShelf" 9 ny_S_blankSequence : Cond) ∈ nw_T := nw_in (i := 32) (by decide +kernel) (by decide +kernel)
theorem nh_st_S_blankSequence : (.static ny_S_blankSequence : Cond) ∈ nw_T := nw_in (i := 33) (by decide +kernel) (by decide +kernel)
theorem nh_co_S_blankSequence : (.code ny_S_blankSequence nb_S_blankSequence 5 (some (FieldType.object "RadixShelf$Sequence")) : Cond) ∈ nw_T := nw_in (i := 34) (by decide +kernel) (by decide +kernel)
theorem nh_cl_S_122 : (.classLink "RadixShelf" 122 "RadixShelf$Leaf" : Cond) ∈ nw_T := nw_in (i := 35) (by decide +kernel) (by decide +kernel)
theorem nh_is_F : (.instantiable "RadixShelf$Leaf" 2 : Cond) ∈ nw_T := nw_in (i := 36) (by decide +kernel) (by decide +kernel)
theorem nh_ml_S_124 : (.methodLink "RadixShelf" 124 ny_F_init : Cond) ∈ nw_T := nw_in (i := 37) (by decide +kernel) (by decide +kernel)
theorem nh_im_F_init : (.instanceMethod ny_F_init : Cond) ∈ nw_T := nw_in (i := 38) (by decide +kernel) (by decide +kernel)
theorem nh_co_F_init : (.code ny_F_init nb_F_init 3 none : Cond) ∈ nw_T := nw_in (i := 39) (by decide +kernel) (by decide +kernel)
theorem nh_ml_F_1 : (.methodLink "RadixShelf$Leaf" 1 ⟨"java/lang/Object", "<init>", "()V"⟩ : Cond) ∈ nw_T := nw_in (i := 40) (by decide +kernel) (by decide +kernel)
theorem nh_fl_F_7 : (.fieldLink "RadixShelf$Leaf" 7 "RadixShelf$Leaf" "stamp" "I" : Cond) ∈ nw_T := nw_in (i := 41) (by decide +kernel) (by decide +kernel)
theorem nh_fl_F_13 : (.fieldLink "RadixShelf$Leaf" 13 "RadixShelf$Leaf" "values" "[J" : Cond) ∈ nw_T := nw_in (i := 42) (by decide +kernel) (by decide +kernel)
theorem nh_fl_Q_37 : (.fieldLink "RadixShelf$Sequence" 37 "RadixShelf$Leaf" "values" "[J" : Cond) ∈ nw_T := nw_in (i := 43) (by decide +kernel) (by decide +kernel)
theorem nh_ac_long : (.arrayClass FieldType.long : Cond) ∈ nw_T := nw_in (i := 49) (by decide +kernel) (by decide +kernel)
theorem nh_cl_S_127 : (.classLink "RadixShelf" 127 "RadixShelf$Branch" : Cond) ∈ nw_T := nw_in (i := 51) (by decide +kernel) (by decide +kernel)
theorem nh_is_B : (.instantiable "RadixShelf$Branch" 2 : Cond) ∈ nw_T := nw_in (i := 52) (by decide +kernel) (by decide +kernel)
theorem nh_ml_S_129 : (.methodLink "RadixShelf" 129 ny_B_init : Cond) ∈ nw_T := nw_in (i := 53) (by decide +kernel) (by decide +kernel)
theorem nh_im_B_init : (.instanceMethod ny_B_init : Cond) ∈ nw_T := nw_in (i := 54) (by decide +kernel) (by decide +kernel)
theorem nh_co_B_init : (.code ny_B_init nb_B_init 3 none : Cond) ∈ nw_T := nw_in (i := 55) (by decide +kernel) (by decide +kernel)
theorem nh_ml_B_1 : (.methodLink "RadixShelf$Branch" 1 ⟨"java/lang/Object", "<init>", "()V"⟩ : Cond) ∈ nw_T := nw_in (i := 56) (by decide +kernel) (by decide +kernel)
theorem nh_fl_B_7 : (.fieldLink "RadixShelf$Branch" 7 "RadixShelf$Branch" "stamp" "I" : Cond) ∈ nw_T := nw_in (i := 57) (by decide +kernel) (by decide +kernel)
theorem nh_fl_B_13 : (.fieldLink "RadixShelf$Branch" 13 "RadixShelf$Branch" "leaves" "[LRadixShelf$Leaf;" : Cond) ∈ nw_T := nw_in (i := 58) (by decide +kernel) (by decide +kernel)
theorem nh_fl_R_27 : (.fieldLink "RadixShelf$Root" 27 "RadixShelf$Branch" "leaves" "[LRadixShelf$Leaf;" : Cond) ∈ nw_T := nw_in (i := 59) (by decide +kernel) (by decide +kernel)
theorem nh_cl_S_17 : (.classLink "RadixShelf" 17 "RadixShelf$Sequence" : Cond) ∈ nw_T := nw_in (i := 66) (by decide +kernel) (by decide +kernel)
theorem nh_is_Q : (.instantiable "RadixShelf$Sequence" 5 : Cond) ∈ nw_T := nw_in (i := 67) (by decide +kernel) (by decide +kernel)
theorem nh_cl_S_132 : (.classLink "RadixShelf" 132 "RadixShelf$Root" : Cond) ∈ nw_T := nw_in (i := 68) (by decide +kernel) (by decide +kernel)
theorem nh_is_R : (.instantiable "RadixShelf$Root" 2 : Cond) ∈ nw_T := nw_in (i := 69) (by decide +kernel) (by decide +kernel)
theorem nh_ml_S_134 : (.methodLink "RadixShelf" 134 ny_R_init : Cond) ∈ nw_T := nw_in (i := 70) (by decide +kernel) (by decide +kernel)
theorem nh_im_R_init : (.instanceMethod ny_R_init : Cond) ∈ nw_T := nw_in (i := 71) (by decide +kernel) (by decide +kernel)
theorem nh_co_R_init : (.code ny_R_init nb_R_init 3 none : Cond) ∈ nw_T := nw_in (i := 72) (by decide +kernel) (by decide +kernel)
theorem nh_ml_R_3 : (.methodLink "RadixShelf$Root" 3 ⟨"java/lang/Object", "<init>", "()V"⟩ : Cond) ∈ nw_T := nw_in (i := 73) (by decide +kernel) (by decide +kernel)
theorem nh_fl_R_9 : (.fieldLink "RadixShelf$Root" 9 "RadixShelf$Root" "stamp" "I" : Cond) ∈ nw_T := nw_in (i := 74) (by decide +kernel) (by decide +kernel)
theorem nh_fl_R_15 : (.fieldLink "RadixShelf$Root" 15 "RadixShelf$Root" "branches" "[LRadixShelf$Branch;" : Cond) ∈ nw_T := nw_in (i := 75) (by decide +kernel) (by decide +kernel)
theorem nh_ml_S_105 : (.methodLink "RadixShelf" 105 ny_Q_init : Cond) ∈ nw_T := nw_in (i := 81) (by decide +kernel) (by decide +kernel)
theorem nh_im_Q_init : (.instanceMethod ny_Q_init : Cond) ∈ nw_T := nw_in (i := 82) (by decide +kernel) (by decide +kernel)
theorem nh_co_Q_init : (.code ny_Q_init nb_Q_init 6 none : Cond) ∈ nw_T := nw_in (i := 83) (by decide +kernel) (by decide +kernel)
theorem nh_ml_Q_3 : (.methodLink "RadixShelf$Sequence" 3 ⟨"java/lang/Object", "<init>", "()V"⟩ : Cond) ∈ nw_T := nw_in (i := 84) (by decide +kernel) (by decide +kernel)
theorem nh_fl_Q_9 : (.fieldLink "RadixShelf$Sequence" 9 "RadixShelf$Sequence" "stamp" "I" : Cond) ∈ nw_T := nw_in (i := 85) (by decide +kernel) (by decide +kernel)
theorem nh_fl_Q_15 : (.fieldLink "RadixShelf$Sequence" 15 "RadixShelf$Sequence" "root" "LRadixShelf$Root;" : Cond) ∈ nw_T := nw_in (i := 86) (by decide +kernel) (by decide +kernel)
theorem nh_fl_S_94 : (.fieldLink "RadixShelf" 94 "RadixShelf$Sequence" "root" "LRadixShelf$Root;" : Cond) ∈ nw_T := nw_in (i := 87) (by decide +kernel) (by decide +kernel)
theorem nh_fl_Q_19 : (.fieldLink "RadixShelf$Sequence" 19 "RadixShelf$Sequence" "tail" "LRadixShelf$Leaf;" : Cond) ∈ nw_T := nw_in (i := 88) (by decide +kernel) (by decide +kernel)
theorem nh_fl_S_98 : (.fieldLink "RadixShelf" 98 "RadixShelf$Sequence" "tail" "LRadixShelf$Leaf;" : Cond) ∈ nw_T := nw_in (i := 89) (by decide +kernel) (by decide +kernel)
theorem nh_fl_Q_23 : (.fieldLink "RadixShelf$Sequence" 23 "RadixShelf$Sequence" "offset" "I" : Cond) ∈ nw_T := nw_in (i := 90) (by decide +kernel) (by decide +kernel)
theorem nh_fl_S_102 : (.fieldLink "RadixShelf" 102 "RadixShelf$Sequence" "offset" "I" : Cond) ∈ nw_T := nw_in (i := 91) (by decide +kernel) (by decide +kernel)
theorem nh_fl_Q_26 : (.fieldLink "RadixShelf$Sequence" 26 "RadixShelf$Sequence" "count" "I" : Cond) ∈ nw_T := nw_in (i := 92) (by decide +kernel) (by decide +kernel)
theorem nh_fl_S_46 : (.fieldLink "RadixShelf" 46 "RadixShelf$Sequence" "count" "I" : Cond) ∈ nw_T := nw_in (i := 93) (by decide +kernel) (by decide +kernel)
theorem nh_fl_S_13 : (.fieldLink "RadixShelf" 13 "RadixShelf" "empty" "LRadixShelf$Sequence;" : Cond) ∈ nw_T := nw_in (i := 106) (by decide +kernel) (by decide +kernel)
theorem nh_fl_S_19 : (.fieldLink "RadixShelf" 19 "RadixShelf" "slots" "[LRadixShelf$Sequence;" : Cond) ∈ nw_T := nw_in (i := 107) (by decide +kernel) (by decide +kernel)
theorem nh_fl_S_23 : (.fieldLink "RadixShelf" 23 "RadixShelf" "builder" "LRadixShelf$Sequence;" : Cond) ∈ nw_T := nw_in (i := 108) (by decide +kernel) (by decide +kernel)
theorem nh_fl_S_26 : (.fieldLink "RadixShelf" 26 "RadixShelf" "lastStamp" "I" : Cond) ∈ nw_T := nw_in (i := 109) (by decide +kernel) (by decide +kernel)
theorem nh_ml_L_64 : (.methodLink "RadixShelfLaw" 64 ny_L_add : Cond) ∈ nw_T := nw_in (i := 119) (by decide +kernel) (by decide +kernel)
theorem nh_st_L_add : (.static ny_L_add : Cond) ∈ nw_T := nw_in (i := 120) (by decide +kernel) (by decide +kernel)
theorem nh_co_L_add : (.codeWith ny_L_add nb_L_add 7 (some FieldType.int) [(0, 12, 15, 13), (0, 12, 19, 15)] : Cond) ∈ nw_T := nw_in (i := 121) (by decide +kernel) (by decide +kernel)
theorem nh_cl_L_13 : (.classLink "RadixShelfLaw" 13 "java/lang/IllegalArgumentException" : Cond) ∈ nw_T := nw_in (i := 122) (by decide +kernel) (by decide +kernel)
theorem nh_cl_L_15 : (.classLink "RadixShelfLaw" 15 "java/lang/IndexOutOfBoundsException" : Cond) ∈ nw_T := nw_in (i := 123) (by decide +kernel) (by decide +kernel)
theorem nh_ml_L_7 : (.methodLink "RadixShelfLaw" 7 ny_S_add : Cond) ∈ nw_T := nw_in (i := 124) (by decide +kernel) (by decide +kernel)
theorem nh_im_S_add : (.instanceMethod ny_S_add : Cond) ∈ nw_T := nw_in (i := 125) (by decide +kernel) (by decide +kernel)
theorem nh_se_S_add : (.selects "RadixShelf" ny_S_add ny_S_add : Cond) ∈ nw_T := nw_in (i := 126) (by decide +kernel) (by decide +kernel)
theorem nh_co_S_add : (.code ny_S_add nb_S_add 6 (some FieldType.int) : Cond) ∈ nw_T := nw_in (i := 127) (by decide +kernel) (by decide +kernel)
theorem nh_ml_S_30 : (.methodLink "RadixShelf" 30 ny_S_checkSlot : Cond) ∈ nw_T := nw_in (i := 128) (by decide +kernel) (by decide +kernel)
theorem nh_st_S_checkSlot : (.static ny_S_checkSlot : Cond) ∈ nw_T := nw_in (i := 129) (by decide +kernel) (by decide +kernel)
theorem nh_co_S_checkSlot : (.code ny_S_checkSlot nb_S_checkSlot 1 none : Cond) ∈ nw_T := nw_in (i := 130) (by decide +kernel) (by decide +kernel)
theorem nh_ml_S_78 : (.methodLink "RadixShelf" 78 ny_S_checkRange : Cond) ∈ nw_T := nw_in (i := 131) (by decide +kernel) (by decide +kernel)
theorem nh_st_S_checkRange : (.static ny_S_checkRange : Cond) ∈ nw_T := nw_in (i := 132) (by decide +kernel) (by decide +kernel)
theorem nh_co_S_checkRange : (.code ny_S_checkRange nb_S_checkRange 3 none : Cond) ∈ nw_T := nw_in (i := 133) (by decide +kernel) (by decide +kernel)
theorem nh_cl_S_108 : (.classLink "RadixShelf" 108 "java/lang/IllegalArgumentException" : Cond) ∈ nw_T := nw_in (i := 134) (by decide +kernel) (by decide +kernel)
theorem nh_is_IAE : (.instantiable "java/lang/IllegalArgumentException" 6 : Cond) ∈ nw_T := nw_in (i := 135) (by decide +kernel) (by decide +kernel)
theorem nh_ml_S_112 : (.methodLink "RadixShelf" 112 ⟨"java/lang/IllegalArgumentException", "<init>", "(Ljava/lang/String;)V"⟩ : Cond) ∈ nw_T := nw_in (i := 177) (by decide +kernel) (by decide +kernel)
theorem nh_ac_byte : (.arrayClass FieldType.byte : Cond) ∈ nw_T := nw_in (i := 202) (by decide +kernel) (by decide +kernel)
theorem nh_ml_S_34 : (.methodLink "RadixShelf" 34 ny_S_checkRoom : Cond) ∈ nw_T := nw_in (i := 203) (by decide +kernel) (by decide +kernel)
theorem nh_st_S_checkRoom : (.static ny_S_checkRoom : Cond) ∈ nw_T := nw_in (i := 204) (by decide +kernel) (by decide +kernel)
theorem nh_co_S_checkRoom : (.code ny_S_checkRoom nb_S_checkRoom 1 none : Cond) ∈ nw_T := nw_in (i := 205) (by decide +kernel) (by decide +kernel)
theorem nh_cl_S_117 : (.classLink "RadixShelf" 117 "java/lang/IndexOutOfBoundsException" : Cond) ∈ nw_T := nw_in (i := 206) (by decide +kernel) (by decide +kernel)
theorem nh_is_IOB : (.instantiable "java/lang/IndexOutOfBoundsException" 6 : Cond) ∈ nw_T := nw_in (i := 207) (by decide +kernel) (by decide +kernel)
theorem nh_ml_S_121 : (.methodLink "RadixShelf" 121 ⟨"java/lang/IndexOutOfBoundsException", "<init>", "(Ljava/lang/String;)V"⟩ : Cond) ∈ nw_T := nw_in (i := 216) (by decide +kernel) (by decide +kernel)
theorem nh_ml_S_38 : (.methodLink "RadixShelf" 38 ny_S_draftOf : Cond) ∈ nw_T := nw_in (i := 222) (by decide +kernel) (by decide +kernel)
theorem nh_im_S_draftOf : (.instanceMethod ny_S_draftOf : Cond) ∈ nw_T := nw_in (i := 224) (by decide +kernel) (by decide +kernel)
theorem nh_co_S_draftOf : (.code ny_S_draftOf nb_S_draftOf 2 (some (FieldType.object "RadixShelf$Sequence")) : Cond) ∈ nw_T := nw_in (i := 225) (by decide +kernel) (by decide +kernel)
theorem nh_ml_S_42 : (.methodLink "RadixShelf" 42 ny_Q_append : Cond) ∈ nw_T := nw_in (i := 226) (by decide +kernel) (by decide +kernel)
theorem nh_im_Q_append : (.instanceMethod ny_Q_append : Cond) ∈ nw_T := nw_in (i := 227) (by decide +kernel) (by decide +kernel)
theorem nh_se_Q_append : (.selects "RadixShelf$Sequence" ny_Q_append ny_Q_append : Cond) ∈ nw_T := nw_in (i := 228) (by decide +kernel) (by decide +kernel)
theorem nh_co_Q_append : (.code ny_Q_append nb_Q_append 6 none : Cond) ∈ nw_T := nw_in (i := 229) (by decide +kernel) (by decide +kernel)
theorem nh_ml_Q_29 : (.methodLink "RadixShelf$Sequence" 29 ny_Q_position : Cond) ∈ nw_T := nw_in (i := 230) (by decide +kernel) (by decide +kernel)
theorem nh_im_Q_position : (.instanceMethod ny_Q_position : Cond) ∈ nw_T := nw_in (i := 232) (by decide +kernel) (by decide +kernel)
theorem nh_co_Q_position : (.code ny_Q_position nb_Q_position 2 (some FieldType.int) : Cond) ∈ nw_T := nw_in (i := 233) (by decide +kernel) (by decide +kernel)
theorem nh_ml_Q_43 : (.methodLink "RadixShelf$Sequence" 43 ny_Q_tailBlock : Cond) ∈ nw_T := nw_in (i := 234) (by decide +kernel) (by decide +kernel)
theorem nh_im_Q_tailBlock : (.instanceMethod ny_Q_tailBlock : Cond) ∈ nw_T := nw_in (i := 236) (by decide +kernel) (by decide +kernel)
theorem nh_co_Q_tailBlock : (.code ny_Q_tailBlock nb_Q_tailBlock 1 (some FieldType.int) : Cond) ∈ nw_T := nw_in (i := 237) (by decide +kernel) (by decide +kernel)
theorem nh_ml_Q_47 : (.methodLink "RadixShelf$Sequence" 47 ny_Q_hang : Cond) ∈ nw_T := nw_in (i := 238) (by decide +kernel) (by decide +kernel)
theorem nh_im_Q_hang : (.instanceMethod ny_Q_hang : Cond) ∈ nw_T := nw_in (i := 240) (by decide +kernel) (by decide +kernel)
theorem nh_co_Q_hang : (.code ny_Q_hang nb_Q_hang 3 none : Cond) ∈ nw_T := nw_in (i := 241) (by decide +kernel) (by decide +kernel)
theorem nh_ml_Q_61 : (.methodLink "RadixShelf$Sequence" 61 ny_R_ownedBy : Cond) ∈ nw_T := nw_in (i := 242) (by decide +kernel) (by decide +kernel)
theorem nh_im_R_ownedBy : (.instanceMethod ny_R_ownedBy : Cond) ∈ nw_T := nw_in (i := 243) (by decide +kernel) (by decide +kernel)
theorem nh_se_R_ownedBy : (.selects "RadixShelf$Root" ny_R_ownedBy ny_R_ownedBy : Cond) ∈ nw_T := nw_in (i := 244) (by decide +kernel) (by decide +kernel)
theorem nh_co_R_ownedBy : (.code ny_R_ownedBy nb_R_ownedBy 2 (some (FieldType.object "RadixShelf$Root")) : Cond) ∈ nw_T := nw_in (i := 245) (by decide +kernel) (by decide +kernel)
theorem nh_cl_R_10 : (.classLink "RadixShelf$Root" 10 "RadixShelf$Root" : Cond) ∈ nw_T := nw_in (i := 246) (by decide +kernel) (by decide +kernel)
theorem nh_ml_R_19 : (.methodLink "RadixShelf$Root" 19 ⟨"[LRadixShelf$Branch;", "clone", "()Ljava/lang/Object;"⟩ : Cond) ∈ nw_T := nw_in (i := 247) (by decide +kernel) (by decide +kernel)
theorem nh_sm_clone_B : (.sameMethod "[LRadixShelf$Branch;" "java/lang/Object" "clone" "()Ljava/lang/Object;" : Cond) ∈ nw_T := nw_in (i := 248) (by decide +kernel) (by decide +kernel)
theorem nh_na_clone : (.native ⟨"java/lang/Object", "clone", "()Ljava/lang/Object;"⟩ : Cond) ∈ nw_T := nw_in (i := 249) (by decide +kernel) (by decide +kernel)
theorem nh_im_clone : (.instanceMethod ⟨"java/lang/Object", "clone", "()Ljava/lang/Object;"⟩ : Cond) ∈ nw_T := nw_in (i := 250) (by decide +kernel) (by decide +kernel)
theorem nh_se_clone_B : (.selects "[LRadixShelf$Branch;" ⟨"[LRadixShelf$Branch;", "clone", "()Ljava/lang/Object;"⟩ ⟨"java/lang/Object", "clone", "()Ljava/lang/Object;"⟩ : Cond) ∈ nw_T := nw_in (i := 251) (by decide +kernel) (by decide +kernel)
theorem nh_cl_R_20 : (.classLink "RadixShelf$Root" 20 "[LRadixShelf$Branch;" : Cond) ∈ nw_T := nw_in (i := 253) (by decide +kernel) (by decide +kernel)
theorem nh_ml_R_24 : (.methodLink "RadixShelf$Root" 24 ny_R_init : Cond) ∈ nw_T := nw_in (i := 254) (by decide +kernel) (by decide +kernel)
theorem nh_ml_Q_64 : (.methodLink "RadixShelf$Sequence" 64 ny_R_hangOwned : Cond) ∈ nw_T := nw_in (i := 255) (by decide +kernel) (by decide +kernel)
theorem nh_im_R_hangOwned : (.instanceMethod ny_R_hangOwned : Cond) ∈ nw_T := nw_in (i := 256) (by decide +kernel) (by decide +kernel)
theorem nh_se_R_hangOwned : (.selects "RadixShelf$Root" ny_R_hangOwned ny_R_hangOwned : Cond) ∈ nw_T := nw_in (i := 257) (by decide +kernel) (by decide +kernel)
theorem nh_co_R_hangOwned : (.code ny_R_hangOwned nb_R_hangOwned 4 none : Cond) ∈ nw_T := nw_in (i := 258) (by decide +kernel) (by decide +kernel)
theorem nh_ml_R_33 : (.methodLink "RadixShelf$Root" 33 ny_B_ownedBy : Cond) ∈ nw_T := nw_in (i := 259) (by decide +kernel) (by decide +kernel)
theorem nh_im_B_ownedBy : (.instanceMethod ny_B_ownedBy : Cond) ∈ nw_T := nw_in (i := 260) (by decide +kernel) (by decide +kernel)
theorem nh_se_B_ownedBy : (.selects "RadixShelf$Branch" ny_B_ownedBy ny_B_ownedBy : Cond) ∈ nw_T := nw_in (i := 261) (by decide +kernel) (by decide +kernel)
theorem nh_co_B_ownedBy : (.code ny_B_ownedBy nb_B_ownedBy 2 (some (FieldType.object "RadixShelf$Branch")) : Cond) ∈ nw_T := nw_in (i := 262) (by decide +kernel) (by decide +kernel)
theorem nh_cl_B_8 : (.classLink "RadixShelf$Branch" 8 "RadixShelf$Branch" : Cond) ∈ nw_T := nw_in (i := 263) (by decide +kernel) (by decide +kernel)
theorem nh_ml_B_17 : (.methodLink "RadixShelf$Branch" 17 ⟨"[LRadixShelf$Leaf;", "clone", "()Ljava/lang/Object;"⟩ : Cond) ∈ nw_T := nw_in (i := 264) (by decide +kernel) (by decide +kernel)
theorem nh_sm_clone_F : (.sameMethod "[LRadixShelf$Leaf;" "java/lang/Object" "clone" "()Ljava/lang/Object;" : Cond) ∈ nw_T := nw_in (i := 265) (by decide +kernel) (by decide +kernel)
theorem nh_se_clone_F : (.selects "[LRadixShelf$Leaf;" ⟨"[LRadixShelf$Leaf;", "clone", "()Ljava/lang/Object;"⟩ ⟨"java/lang/Object", "clone", "()Ljava/lang/Object;"⟩ : Cond) ∈ nw_T := nw_in (i := 266) (by decide +kernel) (by decide +kernel)
theorem nh_cl_B_18 : (.classLink "RadixShelf$Branch" 18 "[LRadixShelf$Leaf;" : Cond) ∈ nw_T := nw_in (i := 268) (by decide +kernel) (by decide +kernel)
theorem nh_ml_B_22 : (.methodLink "RadixShelf$Branch" 22 ny_B_init : Cond) ∈ nw_T := nw_in (i := 269) (by decide +kernel) (by decide +kernel)
theorem nh_ml_Q_51 : (.methodLink "RadixShelf$Sequence" 51 ny_R_leafOf : Cond) ∈ nw_T := nw_in (i := 270) (by decide +kernel) (by decide +kernel)
theorem nh_im_R_leafOf : (.instanceMethod ny_R_leafOf : Cond) ∈ nw_T := nw_in (i := 271) (by decide +kernel) (by decide +kernel)
theorem nh_se_R_leafOf : (.selects "RadixShelf$Root" ny_R_leafOf ny_R_leafOf : Cond) ∈ nw_T := nw_in (i := 272) (by decide +kernel) (by decide +kernel)
theorem nh_co_R_leafOf : (.code ny_R_leafOf nb_R_leafOf 2 (some (FieldType.object "RadixShelf$Leaf")) : Cond) ∈ nw_T := nw_in (i := 273) (by decide +kernel) (by decide +kernel)
theorem nh_ml_Q_54 : (.methodLink "RadixShelf$Sequence" 54 ny_Q_write : Cond) ∈ nw_T := nw_in (i := 274) (by decide +kernel) (by decide +kernel)
theorem nh_im_Q_write : (.instanceMethod ny_Q_write : Cond) ∈ nw_T := nw_in (i := 276) (by decide +kernel) (by decide +kernel)
theorem nh_co_Q_write : (.code ny_Q_write nb_Q_write 6 none : Cond) ∈ nw_T := nw_in (i := 277) (by decide +kernel) (by decide +kernel)
theorem nh_ml_Q_33 : (.methodLink "RadixShelf$Sequence" 33 ny_Q_leafOf : Cond) ∈ nw_T := nw_in (i := 278) (by decide +kernel) (by decide +kernel)
theorem nh_im_Q_leafOf : (.instanceMethod ny_Q_leafOf : Cond) ∈ nw_T := nw_in (i := 280) (by decide +kernel) (by decide +kernel)
theorem nh_co_Q_leafOf : (.code ny_Q_leafOf nb_Q_leafOf 2 (some (FieldType.object "RadixShelf$Leaf")) : Cond) ∈ nw_T := nw_in (i := 281) (by decide +kernel) (by decide +kernel)
theorem nh_ml_Q_58 : (.methodLink "RadixShelf$Sequence" 58 ny_F_ownedBy : Cond) ∈ nw_T := nw_in (i := 282) (by decide +kernel) (by decide +kernel)
theorem nh_im_F_ownedBy : (.instanceMethod ny_F_ownedBy : Cond) ∈ nw_T := nw_in (i := 283) (by decide +kernel) (by decide +kernel)
theorem nh_se_F_ownedBy : (.selects "RadixShelf$Leaf" ny_F_ownedBy ny_F_ownedBy : Cond) ∈ nw_T := nw_in (i := 284) (by decide +kernel) (by decide +kernel)
theorem nh_co_F_ownedBy : (.code ny_F_ownedBy nb_F_ownedBy 2 (some (FieldType.object "RadixShelf$Leaf")) : Cond) ∈ nw_T := nw_in (i := 285) (by decide +kernel) (by decide +kernel)
theorem nh_cl_F_8 : (.classLink "RadixShelf$Leaf" 8 "RadixShelf$Leaf" : Cond) ∈ nw_T := nw_in (i := 286) (by decide +kernel) (by decide +kernel)
theorem nh_ml_F_17 : (.methodLink "RadixShelf$Leaf" 17 ⟨"[J", "clone", "()Ljava/lang/Object;"⟩ : Cond) ∈ nw_T := nw_in (i := 287) (by decide +kernel) (by decide +kernel)
theorem nh_sm_clone_J : (.sameMethod "[J" "java/lang/Object" "clone" "()Ljava/lang/Object;" : Cond) ∈ nw_T := nw_in (i := 288) (by decide +kernel) (by decide +kernel)
theorem nh_se_clone_J : (.selects "[J" ⟨"[J", "clone", "()Ljava/lang/Object;"⟩ ⟨"java/lang/Object", "clone", "()Ljava/lang/Object;"⟩ : Cond) ∈ nw_T := nw_in (i := 289) (by decide +kernel) (by decide +kernel)
theorem nh_cl_F_18 : (.classLink "RadixShelf$Leaf" 18 "[J" : Cond) ∈ nw_T := nw_in (i := 291) (by decide +kernel) (by decide +kernel)
theorem nh_ml_F_22 : (.methodLink "RadixShelf$Leaf" 22 ny_F_init : Cond) ∈ nw_T := nw_in (i := 292) (by decide +kernel) (by decide +kernel)
theorem nh_ml_L_74 : (.methodLink "RadixShelfLaw" 74 ny_L_push : Cond) ∈ nw_T := nw_in (i := 293) (by decide +kernel) (by decide +kernel)
theorem nh_st_L_push : (.static ny_L_push : Cond) ∈ nw_T := nw_in (i := 294) (by decide +kernel) (by decide +kernel)
theorem nh_co_L_push : (.codeWith ny_L_push nb_L_push 7 (some FieldType.int) [(0, 12, 15, 13), (0, 12, 19, 15)] : Cond) ∈ nw_T := nw_in (i := 295) (by decide +kernel) (by decide +kernel)
theorem nh_ml_L_17 : (.methodLink "RadixShelfLaw" 17 ny_S_push : Cond) ∈ nw_T := nw_in (i := 296) (by decide +kernel) (by decide +kernel)
theorem nh_im_S_push : (.instanceMethod ny_S_push : Cond) ∈ nw_T := nw_in (i := 297) (by decide +kernel) (by decide +kernel)
theorem nh_se_S_push : (.selects "RadixShelf" ny_S_push ny_S_push : Cond) ∈ nw_T := nw_in (i := 298) (by decide +kernel) (by decide +kernel)
theorem nh_co_S_push : (.code ny_S_push nb_S_push 6 (some FieldType.int) : Cond) ∈ nw_T := nw_in (i := 299) (by decide +kernel) (by decide +kernel)
theorem nh_ml_S_49 : (.methodLink "RadixShelf" 49 ny_Q_prepend : Cond) ∈ nw_T := nw_in (i := 300) (by decide +kernel) (by decide +kernel)
theorem nh_im_Q_prepend : (.instanceMethod ny_Q_prepend : Cond) ∈ nw_T := nw_in (i := 301) (by decide +kernel) (by decide +kernel)
theorem nh_se_Q_prepend : (.selects "RadixShelf$Sequence" ny_Q_prepend ny_Q_prepend : Cond) ∈ nw_T := nw_in (i := 302) (by decide +kernel) (by decide +kernel)
theorem nh_co_Q_prepend : (.code ny_Q_prepend nb_Q_prepend 3 none : Cond) ∈ nw_T := nw_in (i := 303) (by decide +kernel) (by decide +kernel)
theorem nh_ml_L_77 : (.methodLink "RadixShelfLaw" 77 ny_L_set : Cond) ∈ nw_T := nw_in (i := 304) (by decide +kernel) (by decide +kernel)
theorem nh_st_L_set : (.static ny_L_set : Cond) ∈ nw_T := nw_in (i := 305) (by decide +kernel) (by decide +kernel)
theorem nh_co_L_set : (.codeWith ny_L_set nb_L_set 8 (some FieldType.int) [(0, 13, 16, 13), (0, 13, 20, 24)] : Cond) ∈ nw_T := nw_in (i := 306) (by decide +kernel) (by decide +kernel)
theorem nh_cl_L_24 : (.classLink "RadixShelfLaw" 24 "java/util/NoSuchElementException" : Cond) ∈ nw_T := nw_in (i := 307) (by decide +kernel) (by decide +kernel)
theorem nh_ml_L_20 : (.methodLink "RadixShelfLaw" 20 ny_S_set : Cond) ∈ nw_T := nw_in (i := 308) (by decide +kernel) (by decide +kernel)
theorem nh_im_S_set : (.instanceMethod ny_S_set : Cond) ∈ nw_T := nw_in (i := 309) (by decide +kernel) (by decide +kernel)
theorem nh_se_S_set : (.selects "RadixShelf" ny_S_set ny_S_set : Cond) ∈ nw_T := nw_in (i := 310) (by decide +kernel) (by decide +kernel)
theorem nh_co_S_set : (.code ny_S_set nb_S_set 9 (some FieldType.long) : Cond) ∈ nw_T := nw_in (i := 311) (by decide +kernel) (by decide +kernel)
theorem nh_ml_S_52 : (.methodLink "RadixShelf" 52 ny_S_checkElement : Cond) ∈ nw_T := nw_in (i := 312) (by decide +kernel) (by decide +kernel)
theorem nh_st_S_checkElement : (.static ny_S_checkElement : Cond) ∈ nw_T := nw_in (i := 313) (by decide +kernel) (by decide +kernel)
theorem nh_co_S_checkElement : (.code ny_S_checkElement nb_S_checkElement 2 none : Cond) ∈ nw_T := nw_in (i := 314) (by decide +kernel) (by decide +kernel)
theorem nh_cl_S_67 : (.classLink "RadixShelf" 67 "java/util/NoSuchElementException" : Cond) ∈ nw_T := nw_in (i := 315) (by decide +kernel) (by decide +kernel)
theorem nh_is_NSE : (.instantiable "java/util/NoSuchElementException" 6 : Cond) ∈ nw_T := nw_in (i := 316) (by decide +kernel) (by decide +kernel)
theorem nh_ml_S_71 : (.methodLink "RadixShelf" 71 ⟨"java/util/NoSuchElementException", "<init>", "(Ljava/lang/String;)V"⟩ : Cond) ∈ nw_T := nw_in (i := 325) (by decide +kernel) (by decide +kernel)
theorem nh_ml_S_56 : (.methodLink "RadixShelf" 56 ny_Q_element : Cond) ∈ nw_T := nw_in (i := 331) (by decide +kernel) (by decide +kernel)
theorem nh_im_Q_element : (.instanceMethod ny_Q_element : Cond) ∈ nw_T := nw_in (i := 332) (by decide +kernel) (by decide +kernel)
theorem nh_se_Q_element : (.selects "RadixShelf$Sequence" ny_Q_element ny_Q_element : Cond) ∈ nw_T := nw_in (i := 333) (by decide +kernel) (by decide +kernel)
theorem nh_co_Q_element : (.code ny_Q_element nb_Q_element 3 (some FieldType.long) : Cond) ∈ nw_T := nw_in (i := 334) (by decide +kernel) (by decide +kernel)
theorem nh_ml_S_60 : (.methodLink "RadixShelf" 60 ny_Q_replace : Cond) ∈ nw_T := nw_in (i := 335) (by decide +kernel) (by decide +kernel)
theorem nh_im_Q_replace : (.instanceMethod ny_Q_replace : Cond) ∈ nw_T := nw_in (i := 336) (by decide +kernel) (by decide +kernel)
theorem nh_se_Q_replace : (.selects "RadixShelf$Sequence" ny_Q_replace ny_Q_replace : Cond) ∈ nw_T := nw_in (i := 337) (by decide +kernel) (by decide +kernel)
theorem nh_co_Q_replace : (.code ny_Q_replace nb_Q_replace 4 none : Cond) ∈ nw_T := nw_in (i := 338) (by decide +kernel) (by decide +kernel)
theorem nh_ml_L_81 : (.methodLink "RadixShelfLaw" 81 ny_L_at : Cond) ∈ nw_T := nw_in (i := 339) (by decide +kernel) (by decide +kernel)
theorem nh_st_L_at : (.static ny_L_at : Cond) ∈ nw_T := nw_in (i := 340) (by decide +kernel) (by decide +kernel)
theorem nh_co_L_at : (.codeWith ny_L_at nb_L_at 5 (some FieldType.int) [(0, 9, 12, 13), (0, 9, 16, 24)] : Cond) ∈ nw_T := nw_in (i := 341) (by decide +kernel) (by decide +kernel)
theorem nh_ml_L_26 : (.methodLink "RadixShelfLaw" 26 ny_S_at : Cond) ∈ nw_T := nw_in (i := 342) (by decide +kernel) (by decide +kernel)
theorem nh_im_S_at : (.instanceMethod ny_S_at : Cond) ∈ nw_T := nw_in (i := 343) (by decide +kernel) (by decide +kernel)
theorem nh_se_S_at : (.selects "RadixShelf" ny_S_at ny_S_at : Cond) ∈ nw_T := nw_in (i := 344) (by decide +kernel) (by decide +kernel)
theorem nh_co_S_at : (.code ny_S_at nb_S_at 3 (some FieldType.long) : Cond) ∈ nw_T := nw_in (i := 345) (by decide +kernel) (by decide +kernel)
theorem nh_ml_L_85 : (.methodLink "RadixShelfLaw" 85 ny_L_cut : Cond) ∈ nw_T := nw_in (i := 346) (by decide +kernel) (by decide +kernel)
theorem nh_st_L_cut : (.static ny_L_cut : Cond) ∈ nw_T := nw_in (i := 347) (by decide +kernel) (by decide +kernel)
theorem nh_co_L_cut : (.codeWith ny_L_cut nb_L_cut 7 (some FieldType.int) [(0, 14, 17, 13), (0, 14, 21, 24)] : Cond) ∈ nw_T := nw_in (i := 348) (by decide +kernel) (by decide +kernel)
theorem nh_ml_L_30 : (.methodLink "RadixShelfLaw" 30 ny_S_cut : Cond) ∈ nw_T := nw_in (i := 349) (by decide +kernel) (by decide +kernel)
theorem nh_im_S_cut : (.instanceMethod ny_S_cut : Cond) ∈ nw_T := nw_in (i := 350) (by decide +kernel) (by decide +kernel)
theorem nh_se_S_cut : (.selects "RadixShelf" ny_S_cut ny_S_cut : Cond) ∈ nw_T := nw_in (i := 351) (by decide +kernel) (by decide +kernel)
theorem nh_co_S_cut : (.code ny_S_cut nb_S_cut 6 (some FieldType.int) : Cond) ∈ nw_T := nw_in (i := 352) (by decide +kernel) (by decide +kernel)
theorem nh_ml_S_64 : (.methodLink "RadixShelf" 64 ny_S_checkNotNegative : Cond) ∈ nw_T := nw_in (i := 353) (by decide +kernel) (by decide +kernel)
theorem nh_st_S_checkNotNegative : (.static ny_S_checkNotNegative : Cond) ∈ nw_T := nw_in (i := 354) (by decide +kernel) (by decide +kernel)
theorem nh_co_S_checkNotNegative : (.code ny_S_checkNotNegative nb_S_checkNotNegative 1 none : Cond) ∈ nw_T := nw_in (i := 355) (by decide +kernel) (by decide +kernel)
theorem nh_ml_S_74 : (.methodLink "RadixShelf" 74 ny_Q_trim : Cond) ∈ nw_T := nw_in (i := 358) (by decide +kernel) (by decide +kernel)
theorem nh_im_Q_trim : (.instanceMethod ny_Q_trim : Cond) ∈ nw_T := nw_in (i := 359) (by decide +kernel) (by decide +kernel)
theorem nh_se_Q_trim : (.selects "RadixShelf$Sequence" ny_Q_trim ny_Q_trim : Cond) ∈ nw_T := nw_in (i := 360) (by decide +kernel) (by decide +kernel)
theorem nh_co_Q_trim : (.code ny_Q_trim nb_Q_trim 4 none : Cond) ∈ nw_T := nw_in (i := 361) (by decide +kernel) (by decide +kernel)
theorem nh_ml_L_89 : (.methodLink "RadixShelfLaw" 89 ny_L_fill : Cond) ∈ nw_T := nw_in (i := 362) (by decide +kernel) (by decide +kernel)
theorem nh_st_L_fill : (.static ny_L_fill : Cond) ∈ nw_T := nw_in (i := 363) (by decide +kernel) (by decide +kernel)
theorem nh_co_L_fill : (.codeWith ny_L_fill nb_L_fill 9 (some FieldType.int) [(0, 15, 18, 13)] : Cond) ∈ nw_T := nw_in (i := 364) (by decide +kernel) (by decide +kernel)
theorem nh_ml_L_34 : (.methodLink "RadixShelfLaw" 34 ny_S_fill : Cond) ∈ nw_T := nw_in (i := 365) (by decide +kernel) (by decide +kernel)
theorem nh_im_S_fill : (.instanceMethod ny_S_fill : Cond) ∈ nw_T := nw_in (i := 366) (by decide +kernel) (by decide +kernel)
theorem nh_se_S_fill : (.selects "RadixShelf" ny_S_fill ny_S_fill : Cond) ∈ nw_T := nw_in (i := 367) (by decide +kernel) (by decide +kernel)
theorem nh_co_S_fill : (.code ny_S_fill nb_S_fill 11 (some FieldType.int) : Cond) ∈ nw_T := nw_in (i := 368) (by decide +kernel) (by decide +kernel)
theorem nh_ml_L_93 : (.methodLink "RadixShelfLaw" 93 ny_L_size : Cond) ∈ nw_T := nw_in (i := 369) (by decide +kernel) (by decide +kernel)
theorem nh_st_L_size : (.static ny_L_size : Cond) ∈ nw_T := nw_in (i := 370) (by decide +kernel) (by decide +kernel)
theorem nh_co_L_size : (.codeWith ny_L_size nb_L_size 4 (some FieldType.int) [(0, 9, 12, 13)] : Cond) ∈ nw_T := nw_in (i := 371) (by decide +kernel) (by decide +kernel)
theorem nh_ml_L_38 : (.methodLink "RadixShelfLaw" 38 ny_S_size : Cond) ∈ nw_T := nw_in (i := 372) (by decide +kernel) (by decide +kernel)
theorem nh_im_S_size : (.instanceMethod ny_S_size : Cond) ∈ nw_T := nw_in (i := 373) (by decide +kernel) (by decide +kernel)
theorem nh_se_S_size : (.selects "RadixShelf" ny_S_size ny_S_size : Cond) ∈ nw_T := nw_in (i := 374) (by decide +kernel) (by decide +kernel)
theorem nh_co_S_size : (.code ny_S_size nb_S_size 2 (some FieldType.int) : Cond) ∈ nw_T := nw_in (i := 375) (by decide +kernel) (by decide +kernel)
theorem nh_ml_L_97 : (.methodLink "RadixShelfLaw" 97 ny_L_hash : Cond) ∈ nw_T := nw_in (i := 376) (by decide +kernel) (by decide +kernel)
theorem nh_st_L_hash : (.static ny_L_hash : Cond) ∈ nw_T := nw_in (i := 377) (by decide +kernel) (by decide +kernel)
theorem nh_co_L_hash : (.codeWith ny_L_hash nb_L_hash 4 (some FieldType.int) [(0, 8, 11, 13)] : Cond) ∈ nw_T := nw_in (i := 378) (by decide +kernel) (by decide +kernel)
theorem nh_ml_L_42 : (.methodLink "RadixShelfLaw" 42 ny_S_hash : Cond) ∈ nw_T := nw_in (i := 379) (by decide +kernel) (by decide +kernel)
theorem nh_im_S_hash : (.instanceMethod ny_S_hash : Cond) ∈ nw_T := nw_in (i := 380) (by decide +kernel) (by decide +kernel)
theorem nh_se_S_hash : (.selects "RadixShelf" ny_S_hash ny_S_hash : Cond) ∈ nw_T := nw_in (i := 381) (by decide +kernel) (by decide +kernel)
theorem nh_co_S_hash : (.code ny_S_hash nb_S_hash 6 (some FieldType.long) : Cond) ∈ nw_T := nw_in (i := 382) (by decide +kernel) (by decide +kernel)
theorem nh_kl_S_82 : (.constantLong "RadixShelf" 82 31 : Cond) ∈ nw_T := nw_in (i := 383) (by decide +kernel) (by decide +kernel)
theorem nh_ml_L_100 : (.methodLink "RadixShelfLaw" 100 ny_L_open : Cond) ∈ nw_T := nw_in (i := 384) (by decide +kernel) (by decide +kernel)
theorem nh_st_L_open : (.static ny_L_open : Cond) ∈ nw_T := nw_in (i := 385) (by decide +kernel) (by decide +kernel)
theorem nh_co_L_open : (.codeWith ny_L_open nb_L_open 3 (some FieldType.int) [(0, 5, 8, 13), (0, 5, 11, 50)] : Cond) ∈ nw_T := nw_in (i := 386) (by decide +kernel) (by decide +kernel)
theorem nh_cl_L_50 : (.classLink "RadixShelfLaw" 50 "java/lang/IllegalStateException" : Cond) ∈ nw_T := nw_in (i := 387) (by decide +kernel) (by decide +kernel)
theorem nh_ml_L_46 : (.methodLink "RadixShelfLaw" 46 ny_S_open : Cond) ∈ nw_T := nw_in (i := 388) (by decide +kernel) (by decide +kernel)
theorem nh_im_S_open : (.instanceMethod ny_S_open : Cond) ∈ nw_T := nw_in (i := 389) (by decide +kernel) (by decide +kernel)
theorem nh_se_S_open : (.selects "RadixShelf" ny_S_open ny_S_open : Cond) ∈ nw_T := nw_in (i := 390) (by decide +kernel) (by decide +kernel)
theorem nh_co_S_open : (.code ny_S_open nb_S_open 2 none : Cond) ∈ nw_T := nw_in (i := 391) (by decide +kernel) (by decide +kernel)
theorem nh_cl_S_84 : (.classLink "RadixShelf" 84 "java/lang/IllegalStateException" : Cond) ∈ nw_T := nw_in (i := 392) (by decide +kernel) (by decide +kernel)
theorem nh_is_ISE : (.instantiable "java/lang/IllegalStateException" 6 : Cond) ∈ nw_T := nw_in (i := 393) (by decide +kernel) (by decide +kernel)
theorem nh_ml_S_88 : (.methodLink "RadixShelf" 88 ⟨"java/lang/IllegalStateException", "<init>", "(Ljava/lang/String;)V"⟩ : Cond) ∈ nw_T := nw_in (i := 402) (by decide +kernel) (by decide +kernel)
theorem nh_ml_L_104 : (.methodLink "RadixShelfLaw" 104 ny_L_build : Cond) ∈ nw_T := nw_in (i := 408) (by decide +kernel) (by decide +kernel)
theorem nh_st_L_build : (.static ny_L_build : Cond) ∈ nw_T := nw_in (i := 409) (by decide +kernel) (by decide +kernel)
theorem nh_co_L_build : (.codeWith ny_L_build nb_L_build 7 (some FieldType.int) [(0, 12, 15, 13), (0, 12, 19, 50), (0, 12, 23, 24), (0, 12, 27, 15)] : Cond) ∈ nw_T := nw_in (i := 410) (by decide +kernel) (by decide +kernel)
theorem nh_ml_L_52 : (.methodLink "RadixShelfLaw" 52 ny_S_build : Cond) ∈ nw_T := nw_in (i := 411) (by decide +kernel) (by decide +kernel)
theorem nh_im_S_build : (.instanceMethod ny_S_build : Cond) ∈ nw_T := nw_in (i := 412) (by decide +kernel) (by decide +kernel)
theorem nh_se_S_build : (.selects "RadixShelf" ny_S_build ny_S_build : Cond) ∈ nw_T := nw_in (i := 413) (by decide +kernel) (by decide +kernel)
theorem nh_co_S_build : (.code ny_S_build nb_S_build 6 (some FieldType.int) : Cond) ∈ nw_T := nw_in (i := 414) (by decide +kernel) (by decide +kernel)
theorem nh_ml_S_89 : (.methodLink "RadixShelf" 89 ny_S_presentBuilder : Cond) ∈ nw_T := nw_in (i := 415) (by decide +kernel) (by decide +kernel)
theorem nh_im_S_presentBuilder : (.instanceMethod ny_S_presentBuilder : Cond) ∈ nw_T := nw_in (i := 417) (by decide +kernel) (by decide +kernel)
theorem nh_co_S_presentBuilder : (.code ny_S_presentBuilder nb_S_presentBuilder 1 (some (FieldType.object "RadixShelf$Sequence")) : Cond) ∈ nw_T := nw_in (i := 418) (by decide +kernel) (by decide +kernel)
theorem nh_ml_L_107 : (.methodLink "RadixShelfLaw" 107 ny_L_freeze : Cond) ∈ nw_T := nw_in (i := 420) (by decide +kernel) (by decide +kernel)
theorem nh_st_L_freeze : (.static ny_L_freeze : Cond) ∈ nw_T := nw_in (i := 421) (by decide +kernel) (by decide +kernel)
theorem nh_co_L_freeze : (.codeWith ny_L_freeze nb_L_freeze 4 (some FieldType.int) [(0, 9, 12, 13), (0, 9, 15, 50)] : Cond) ∈ nw_T := nw_in (i := 422) (by decide +kernel) (by decide +kernel)
theorem nh_ml_L_55 : (.methodLink "RadixShelfLaw" 55 ny_S_freeze : Cond) ∈ nw_T := nw_in (i := 423) (by decide +kernel) (by decide +kernel)
theorem nh_im_S_freeze : (.instanceMethod ny_S_freeze : Cond) ∈ nw_T := nw_in (i := 424) (by decide +kernel) (by decide +kernel)
theorem nh_se_S_freeze : (.selects "RadixShelf" ny_S_freeze ny_S_freeze : Cond) ∈ nw_T := nw_in (i := 425) (by decide +kernel) (by decide +kernel)
theorem nh_co_S_freeze : (.code ny_S_freeze nb_S_freeze 3 (some FieldType.int) : Cond) ∈ nw_T := nw_in (i := 426) (by decide +kernel) (by decide +kernel)
theorem nh_cl_L_59 : (.classLink "RadixShelfLaw" 59 "RadixShelfModel" : Cond) ∈ nw_T := nw_in (i := 427) (by decide +kernel) (by decide +kernel)
theorem nh_is_M : (.instantiable "RadixShelfModel" 4 : Cond) ∈ nw_T := nw_in (i := 428) (by decide +kernel) (by decide +kernel)
theorem nh_ml_L_61 : (.methodLink "RadixShelfLaw" 61 ny_M_init : Cond) ∈ nw_T := nw_in (i := 429) (by decide +kernel) (by decide +kernel)
theorem nh_im_M_init : (.instanceMethod ny_M_init : Cond) ∈ nw_T := nw_in (i := 430) (by decide +kernel) (by decide +kernel)
theorem nh_co_M_init : (.code ny_M_init nb_M_init 1 none : Cond) ∈ nw_T := nw_in (i := 431) (by decide +kernel) (by decide +kernel)
theorem nh_ml_M_1 : (.methodLink "RadixShelfModel" 1 ⟨"java/lang/Object", "<init>", "()V"⟩ : Cond) ∈ nw_T := nw_in (i := 432) (by decide +kernel) (by decide +kernel)
theorem nh_cl_M_9 : (.classLink "RadixShelfModel" 9 "[[J" : Cond) ∈ nw_T := nw_in (i := 433) (by decide +kernel) (by decide +kernel)
theorem nh_fl_M_11 : (.fieldLink "RadixShelfModel" 11 "RadixShelfModel" "rows" "[[J" : Cond) ∈ nw_T := nw_in (i := 435) (by decide +kernel) (by decide +kernel)
theorem nh_fl_M_14 : (.fieldLink "RadixShelfModel" 14 "RadixShelfModel" "sizes" "[I" : Cond) ∈ nw_T := nw_in (i := 436) (by decide +kernel) (by decide +kernel)
theorem nh_fl_M_36 : (.fieldLink "RadixShelfModel" 36 "RadixShelfModel" "\x6fpen" "Z" : Cond) ∈ nw_T := nw_in (i := 437) (by decide +kernel) (by decide +kernel)
theorem nh_fl_M_18 : (.fieldLink "RadixShelfModel" 18 "RadixShelfModel" "code" "I" : Cond) ∈ nw_T := nw_in (i := 438) (by decide +kernel) (by decide +kernel)
theorem nh_ac_int : (.arrayClass FieldType.int : Cond) ∈ nw_T := nw_in (i := 448) (by decide +kernel) (by decide +kernel)
theorem nh_ml_L_70 : (.methodLink "RadixShelfLaw" 70 ny_M_thrown : Cond) ∈ nw_T := nw_in (i := 449) (by decide +kernel) (by decide +kernel)
theorem nh_im_M_thrown : (.instanceMethod ny_M_thrown : Cond) ∈ nw_T := nw_in (i := 450) (by decide +kernel) (by decide +kernel)
theorem nh_se_M_thrown : (.selects "RadixShelfModel" ny_M_thrown ny_M_thrown : Cond) ∈ nw_T := nw_in (i := 451) (by decide +kernel) (by decide +kernel)
theorem nh_co_M_thrown : (.code ny_M_thrown nb_M_thrown 1 (some FieldType.int) : Cond) ∈ nw_T := nw_in (i := 452) (by decide +kernel) (by decide +kernel)
theorem nh_ml_L_69 : (.methodLink "RadixShelfLaw" 69 ny_M_add : Cond) ∈ nw_T := nw_in (i := 453) (by decide +kernel) (by decide +kernel)
theorem nh_im_M_add : (.instanceMethod ny_M_add : Cond) ∈ nw_T := nw_in (i := 454) (by decide +kernel) (by decide +kernel)
theorem nh_se_M_add : (.selects "RadixShelfModel" ny_M_add ny_M_add : Cond) ∈ nw_T := nw_in (i := 455) (by decide +kernel) (by decide +kernel)
theorem nh_co_M_add : (.code ny_M_add nb_M_add 5 (some FieldType.int) : Cond) ∈ nw_T := nw_in (i := 456) (by decide +kernel) (by decide +kernel)
theorem nh_ml_M_22 : (.methodLink "RadixShelfModel" 22 ny_M_isSlot : Cond) ∈ nw_T := nw_in (i := 457) (by decide +kernel) (by decide +kernel)
theorem nh_st_M_isSlot : (.static ny_M_isSlot : Cond) ∈ nw_T := nw_in (i := 458) (by decide +kernel) (by decide +kernel)
theorem nh_co_M_isSlot : (.code ny_M_isSlot nb_M_isSlot 1 (some FieldType.boolean) : Cond) ∈ nw_T := nw_in (i := 459) (by decide +kernel) (by decide +kernel)
theorem nh_ml_M_26 : (.methodLink "RadixShelfModel" 26 ny_M_good : Cond) ∈ nw_T := nw_in (i := 460) (by decide +kernel) (by decide +kernel)
theorem nh_im_M_good : (.instanceMethod ny_M_good : Cond) ∈ nw_T := nw_in (i := 462) (by decide +kernel) (by decide +kernel)
theorem nh_co_M_good : (.code ny_M_good nb_M_good 3 (some FieldType.boolean) : Cond) ∈ nw_T := nw_in (i := 463) (by decide +kernel) (by decide +kernel)
theorem nh_ml_M_30 : (.methodLink "RadixShelfModel" 30 ny_M_copy : Cond) ∈ nw_T := nw_in (i := 464) (by decide +kernel) (by decide +kernel)
theorem nh_im_M_copy : (.instanceMethod ny_M_copy : Cond) ∈ nw_T := nw_in (i := 466) (by decide +kernel) (by decide +kernel)
theorem nh_co_M_copy : (.code ny_M_copy nb_M_copy 4 none : Cond) ∈ nw_T := nw_in (i := 467) (by decide +kernel) (by decide +kernel)
theorem nh_ml_L_76 : (.methodLink "RadixShelfLaw" 76 ny_M_push : Cond) ∈ nw_T := nw_in (i := 468) (by decide +kernel) (by decide +kernel)
theorem nh_im_M_push : (.instanceMethod ny_M_push : Cond) ∈ nw_T := nw_in (i := 469) (by decide +kernel) (by decide +kernel)
theorem nh_se_M_push : (.selects "RadixShelfModel" ny_M_push ny_M_push : Cond) ∈ nw_T := nw_in (i := 470) (by decide +kernel) (by decide +kernel)
theorem nh_co_M_push : (.code ny_M_push nb_M_push 6 (some FieldType.int) : Cond) ∈ nw_T := nw_in (i := 471) (by decide +kernel) (by decide +kernel)
theorem nh_ml_L_80 : (.methodLink "RadixShelfLaw" 80 ny_M_set : Cond) ∈ nw_T := nw_in (i := 472) (by decide +kernel) (by decide +kernel)
theorem nh_im_M_set : (.instanceMethod ny_M_set : Cond) ∈ nw_T := nw_in (i := 473) (by decide +kernel) (by decide +kernel)
theorem nh_se_M_set : (.selects "RadixShelfModel" ny_M_set ny_M_set : Cond) ∈ nw_T := nw_in (i := 474) (by decide +kernel) (by decide +kernel)
theorem nh_co_M_set : (.code ny_M_set nb_M_set 8 (some FieldType.long) : Cond) ∈ nw_T := nw_in (i := 475) (by decide +kernel) (by decide +kernel)
theorem nh_ml_L_84 : (.methodLink "RadixShelfLaw" 84 ny_M_at : Cond) ∈ nw_T := nw_in (i := 476) (by decide +kernel) (by decide +kernel)
theorem nh_im_M_at : (.instanceMethod ny_M_at : Cond) ∈ nw_T := nw_in (i := 477) (by decide +kernel) (by decide +kernel)
theorem nh_se_M_at : (.selects "RadixShelfModel" ny_M_at ny_M_at : Cond) ∈ nw_T := nw_in (i := 478) (by decide +kernel) (by decide +kernel)
theorem nh_co_M_at : (.code ny_M_at nb_M_at 3 (some FieldType.long) : Cond) ∈ nw_T := nw_in (i := 479) (by decide +kernel) (by decide +kernel)
theorem nh_ml_L_88 : (.methodLink "RadixShelfLaw" 88 ny_M_cut : Cond) ∈ nw_T := nw_in (i := 480) (by decide +kernel) (by decide +kernel)
theorem nh_im_M_cut : (.instanceMethod ny_M_cut : Cond) ∈ nw_T := nw_in (i := 481) (by decide +kernel) (by decide +kernel)
theorem nh_se_M_cut : (.selects "RadixShelfModel" ny_M_cut ny_M_cut : Cond) ∈ nw_T := nw_in (i := 482) (by decide +kernel) (by decide +kernel)
theorem nh_co_M_cut : (.code ny_M_cut nb_M_cut 7 (some FieldType.int) : Cond) ∈ nw_T := nw_in (i := 483) (by decide +kernel) (by decide +kernel)
theorem nh_ml_L_92 : (.methodLink "RadixShelfLaw" 92 ny_M_fill : Cond) ∈ nw_T := nw_in (i := 484) (by decide +kernel) (by decide +kernel)
theorem nh_im_M_fill : (.instanceMethod ny_M_fill : Cond) ∈ nw_T := nw_in (i := 485) (by decide +kernel) (by decide +kernel)
theorem nh_se_M_fill : (.selects "RadixShelfModel" ny_M_fill ny_M_fill : Cond) ∈ nw_T := nw_in (i := 486) (by decide +kernel) (by decide +kernel)
theorem nh_co_M_fill : (.code ny_M_fill nb_M_fill 8 (some FieldType.int) : Cond) ∈ nw_T := nw_in (i := 487) (by decide +kernel) (by decide +kernel)
theorem nh_ml_L_96 : (.methodLink "RadixShelfLaw" 96 ny_M_size : Cond) ∈ nw_T := nw_in (i := 488) (by decide +kernel) (by decide +kernel)
theorem nh_im_M_size : (.instanceMethod ny_M_size : Cond) ∈ nw_T := nw_in (i := 489) (by decide +kernel) (by decide +kernel)
theorem nh_se_M_size : (.selects "RadixShelfModel" ny_M_size ny_M_size : Cond) ∈ nw_T := nw_in (i := 490) (by decide +kernel) (by decide +kernel)
theorem nh_co_M_size : (.code ny_M_size nb_M_size 2 (some FieldType.int) : Cond) ∈ nw_T := nw_in (i := 491) (by decide +kernel) (by decide +kernel)
theorem nh_ml_L_99 : (.methodLink "RadixShelfLaw" 99 ny_M_hash : Cond) ∈ nw_T := nw_in (i := 492) (by decide +kernel) (by decide +kernel)
theorem nh_im_M_hash : (.instanceMethod ny_M_hash : Cond) ∈ nw_T := nw_in (i := 493) (by decide +kernel) (by decide +kernel)
theorem nh_se_M_hash : (.selects "RadixShelfModel" ny_M_hash ny_M_hash : Cond) ∈ nw_T := nw_in (i := 494) (by decide +kernel) (by decide +kernel)
theorem nh_co_M_hash : (.code ny_M_hash nb_M_hash 5 (some FieldType.long) : Cond) ∈ nw_T := nw_in (i := 495) (by decide +kernel) (by decide +kernel)
theorem nh_kl_M_34 : (.constantLong "RadixShelfModel" 34 31 : Cond) ∈ nw_T := nw_in (i := 496) (by decide +kernel) (by decide +kernel)
theorem nh_ml_L_103 : (.methodLink "RadixShelfLaw" 103 ny_M_open : Cond) ∈ nw_T := nw_in (i := 497) (by decide +kernel) (by decide +kernel)
theorem nh_im_M_open : (.instanceMethod ny_M_open : Cond) ∈ nw_T := nw_in (i := 498) (by decide +kernel) (by decide +kernel)
theorem nh_se_M_open : (.selects "RadixShelfModel" ny_M_open ny_M_open : Cond) ∈ nw_T := nw_in (i := 499) (by decide +kernel) (by decide +kernel)
theorem nh_co_M_open : (.code ny_M_open nb_M_open 2 none : Cond) ∈ nw_T := nw_in (i := 500) (by decide +kernel) (by decide +kernel)
theorem nh_ml_L_106 : (.methodLink "RadixShelfLaw" 106 ny_M_build : Cond) ∈ nw_T := nw_in (i := 501) (by decide +kernel) (by decide +kernel)
theorem nh_im_M_build : (.instanceMethod ny_M_build : Cond) ∈ nw_T := nw_in (i := 502) (by decide +kernel) (by decide +kernel)
theorem nh_se_M_build : (.selects "RadixShelfModel" ny_M_build ny_M_build : Cond) ∈ nw_T := nw_in (i := 503) (by decide +kernel) (by decide +kernel)
theorem nh_co_M_build : (.code ny_M_build nb_M_build 6 (some FieldType.int) : Cond) ∈ nw_T := nw_in (i := 504) (by decide +kernel) (by decide +kernel)
theorem nh_ml_L_109 : (.methodLink "RadixShelfLaw" 109 ny_M_freeze : Cond) ∈ nw_T := nw_in (i := 505) (by decide +kernel) (by decide +kernel)
theorem nh_im_M_freeze : (.instanceMethod ny_M_freeze : Cond) ∈ nw_T := nw_in (i := 506) (by decide +kernel) (by decide +kernel)
theorem nh_se_M_freeze : (.selects "RadixShelfModel" ny_M_freeze ny_M_freeze : Cond) ∈ nw_T := nw_in (i := 507) (by decide +kernel) (by decide +kernel)
theorem nh_co_M_freeze : (.code ny_M_freeze nb_M_freeze 2 (some FieldType.int) : Cond) ∈ nw_T := nw_in (i := 508) (by decide +kernel) (by decide +kernel)
theorem nh_kl_L_62 : (.constantLong "RadixShelfLaw" 62 4294967295 : Cond) ∈ nw_T := nw_in (i := 509) (by decide +kernel) (by decide +kernel)
theorem nu_B : ∀ w ∈ u_ws nR_B nT_B 2, w ∈ nw_T := fun w hw => by
  have h : (u_ws nR_B nT_B 2).all (fun w => decide (w ∈ lw_tbl) && goodWord w) = true := by decide +kernel
  have h1 := List.all_eq_true.mp h w hw
  simp only [Bool.and_eq_true, decide_eq_true_eq] at h1
  exact List.mem_filter.mpr h1
theorem nu_F : ∀ w ∈ u_ws nR_F nT_F 2, w ∈ nw_T := fun w hw => by
  have h : (u_ws nR_F nT_F 2).all (fun w => decide (w ∈ lw_tbl) && goodWord w) = true := by decide +kernel
  have h1 := List.all_eq_true.mp h w hw
  simp only [Bool.and_eq_true, decide_eq_true_eq] at h1
  exact List.mem_filter.mpr h1
theorem nu_R : ∀ w ∈ u_ws nR_R nT_R 2, w ∈ nw_T := fun w hw => by
  have h : (u_ws nR_R nT_R 2).all (fun w => decide (w ∈ lw_tbl) && goodWord w) = true := by decide +kernel
  have h1 := List.all_eq_true.mp h w hw
  simp only [Bool.and_eq_true, decide_eq_true_eq] at h1
  exact List.mem_filter.mpr h1
theorem nu_Q : ∀ w ∈ u_ws nR_Q nT_Q 5, w ∈ nw_T := fun w hw => by
  have h : (u_ws nR_Q nT_Q 5).all (fun w => decide (w ∈ lw_tbl) && goodWord w) = true := by decide +kernel
  have h1 := List.all_eq_true.mp h w hw
  simp only [Bool.and_eq_true, decide_eq_true_eq] at h1
  exact List.mem_filter.mpr h1
theorem nu_S : ∀ w ∈ u_ws nR_S nT_S 4, w ∈ nw_T := fun w hw => by
  have h : (u_ws nR_S nT_S 4).all (fun w => decide (w ∈ lw_tbl) && goodWord w) = true := by decide +kernel
  have h1 := List.all_eq_true.mp h w hw
  simp only [Bool.and_eq_true, decide_eq_true_eq] at h1
  exact List.mem_filter.mpr h1
theorem nu_M : ∀ w ∈ u_ws nR_M nT_M 4, w ∈ nw_T := fun w hw => by
  have h : (u_ws nR_M nT_M 4).all (fun w => decide (w ∈ lw_tbl) && goodWord w) = true := by decide +kernel
  have h1 := List.all_eq_true.mp h w hw
  simp only [Bool.and_eq_true, decide_eq_true_eq] at h1
  exact List.mem_filter.mpr h1
