section
-- ===== PART A: goes FIRST, ahead of the names: the tables' words, and 'selects' of the private methods out of them =====
/-- a private method of a class that the tables say can be made, by its rows of tables_1 -/
def lw_okq (q : MethodName × Nat) : Prop := (q.1.cls ≠ "java/lang/invoke/MethodHandle" ∧ q.1.cls ≠ "java/lang/invoke/VarHandle") ∧ Cond.instantiable q.1.cls q.2 ∈ tables_1 ∧ Cond.privateMethod q.1 ∈ tables_1 ∧ Cond.instanceMethod q.1 ∈ tables_1
theorem lw_p0 : lw_okq (⟨"ReaderRows$Cards", "placeOf", "(I)I"⟩, 4) := ⟨⟨by decide +kernel, by decide +kernel⟩, List.mem_of_getElem? (i := 67) (by decide +kernel), List.mem_of_getElem? (i := 189) (by decide +kernel), List.mem_of_getElem? (i := 190) (by decide +kernel)⟩
theorem lw_p1 : lw_okq (⟨"ReaderRows", "anonymiseLoansOf", "(IJ)I"⟩, 6) := ⟨⟨by decide +kernel, by decide +kernel⟩, List.mem_of_getElem? (i := 10) (by decide +kernel), List.mem_of_getElem? (i := 245) (by decide +kernel), List.mem_of_getElem? (i := 246) (by decide +kernel)⟩
theorem lw_p2 : lw_okq (⟨"ReaderRows", "anonymiseUnlessKept", "(IJ)Z"⟩, 6) := ⟨⟨by decide +kernel, by decide +kernel⟩, List.mem_of_getElem? (i := 10) (by decide +kernel), List.mem_of_getElem? (i := 257) (by decide +kernel), List.mem_of_getElem? (i := 258) (by decide +kernel)⟩
theorem lw_p3 : lw_okq (⟨"ReaderRows", "isKept", "(IJ)Z"⟩, 6) := ⟨⟨by decide +kernel, by decide +kernel⟩, List.mem_of_getElem? (i := 10) (by decide +kernel), List.mem_of_getElem? (i := 265) (by decide +kernel), List.mem_of_getElem? (i := 266) (by decide +kernel)⟩
theorem lw_p4 : lw_okq (⟨"ReaderRows$Loans", "putInOrder", "(I)V"⟩, 8) := ⟨⟨by decide +kernel, by decide +kernel⟩, List.mem_of_getElem? (i := 86) (by decide +kernel), List.mem_of_getElem? (i := 294) (by decide +kernel), List.mem_of_getElem? (i := 295) (by decide +kernel)⟩
theorem lw_p5 : lw_okq (⟨"ReaderRows", "mayJoin", "(II)Z"⟩, 6) := ⟨⟨by decide +kernel, by decide +kernel⟩, List.mem_of_getElem? (i := 10) (by decide +kernel), List.mem_of_getElem? (i := 319) (by decide +kernel), List.mem_of_getElem? (i := 320) (by decide +kernel)⟩
theorem lw_p6 : lw_okq (⟨"ReaderRows$Row", "readName", "()V"⟩, 5) := ⟨⟨by decide +kernel, by decide +kernel⟩, List.mem_of_getElem? (i := 117) (by decide +kernel), List.mem_of_getElem? (i := 362) (by decide +kernel), List.mem_of_getElem? (i := 363) (by decide +kernel)⟩
theorem lw_p7 : lw_okq (⟨"ReaderRows$Row", "isAmong", "(III)Z"⟩, 5) := ⟨⟨by decide +kernel, by decide +kernel⟩, List.mem_of_getElem? (i := 117) (by decide +kernel), List.mem_of_getElem? (i := 366) (by decide +kernel), List.mem_of_getElem? (i := 367) (by decide +kernel)⟩
theorem lw_p8 : lw_okq (⟨"ReaderRows$Row", "readYear", "(I)I"⟩, 5) := ⟨⟨by decide +kernel, by decide +kernel⟩, List.mem_of_getElem? (i := 117) (by decide +kernel), List.mem_of_getElem? (i := 374) (by decide +kernel), List.mem_of_getElem? (i := 375) (by decide +kernel)⟩
theorem lw_p9 : lw_okq (⟨"ReaderRows", "importFittingRow", "()I"⟩, 6) := ⟨⟨by decide +kernel, by decide +kernel⟩, List.mem_of_getElem? (i := 10) (by decide +kernel), List.mem_of_getElem? (i := 378) (by decide +kernel), List.mem_of_getElem? (i := 379) (by decide +kernel)⟩
theorem lw_p10 : lw_okq (⟨"ReaderRows", "firstNamed", "()I"⟩, 6) := ⟨⟨by decide +kernel, by decide +kernel⟩, List.mem_of_getElem? (i := 10) (by decide +kernel), List.mem_of_getElem? (i := 382) (by decide +kernel), List.mem_of_getElem? (i := 383) (by decide +kernel)⟩
theorem lw_p11 : lw_okq (⟨"ReaderRows$Names", "letterAt", "(II)I"⟩, 4) := ⟨⟨by decide +kernel, by decide +kernel⟩, List.mem_of_getElem? (i := 47) (by decide +kernel), List.mem_of_getElem? (i := 406) (by decide +kernel), List.mem_of_getElem? (i := 407) (by decide +kernel)⟩
theorem lw_p12 : lw_okq (⟨"ReaderRows", "nearestNamed", "()I"⟩, 6) := ⟨⟨by decide +kernel, by decide +kernel⟩, List.mem_of_getElem? (i := 10) (by decide +kernel), List.mem_of_getElem? (i := 431) (by decide +kernel), List.mem_of_getElem? (i := 432) (by decide +kernel)⟩
theorem lw_p13 : lw_okq (⟨"ReaderRowsModel", "who", "(I)I"⟩, 27) := ⟨⟨by decide +kernel, by decide +kernel⟩, List.mem_of_getElem? (i := 462) (by decide +kernel), List.mem_of_getElem? (i := 556) (by decide +kernel), List.mem_of_getElem? (i := 557) (by decide +kernel)⟩
theorem lw_p14 : lw_okq (⟨"ReaderRowsModel", "has", "(I)I"⟩, 27) := ⟨⟨by decide +kernel, by decide +kernel⟩, List.mem_of_getElem? (i := 462) (by decide +kernel), List.mem_of_getElem? (i := 567) (by decide +kernel), List.mem_of_getElem? (i := 568) (by decide +kernel)⟩
theorem lw_p15 : lw_okq (⟨"ReaderRowsModel", "find", "(I)I"⟩, 27) := ⟨⟨by decide +kernel, by decide +kernel⟩, List.mem_of_getElem? (i := 462) (by decide +kernel), List.mem_of_getElem? (i := 571) (by decide +kernel), List.mem_of_getElem? (i := 572) (by decide +kernel)⟩
def lw_privs_1 : List (MethodName × Nat) := [(⟨"ReaderRows$Cards", "placeOf", "(I)I"⟩, 4), (⟨"ReaderRows", "anonymiseLoansOf", "(IJ)I"⟩, 6), (⟨"ReaderRows", "anonymiseUnlessKept", "(IJ)Z"⟩, 6), (⟨"ReaderRows", "isKept", "(IJ)Z"⟩, 6), (⟨"ReaderRows$Loans", "putInOrder", "(I)V"⟩, 8), (⟨"ReaderRows", "mayJoin", "(II)Z"⟩, 6), (⟨"ReaderRows$Row", "readName", "()V"⟩, 5), (⟨"ReaderRows$Row", "isAmong", "(III)Z"⟩, 5), (⟨"ReaderRows$Row", "readYear", "(I)I"⟩, 5), (⟨"ReaderRows", "importFittingRow", "()I"⟩, 6), (⟨"ReaderRows", "firstNamed", "()I"⟩, 6), (⟨"ReaderRows$Names", "letterAt", "(II)I"⟩, 4), (⟨"ReaderRows", "nearestNamed", "()I"⟩, 6), (⟨"ReaderRowsModel", "who", "(I)I"⟩, 27), (⟨"ReaderRowsModel", "has", "(I)I"⟩, 27), (⟨"ReaderRowsModel", "find", "(I)I"⟩, 27)]
theorem lw_r1 : ∀ q ∈ lw_privs_1, lw_okq q := List.forall_mem_cons.mpr ⟨lw_p0, List.forall_mem_cons.mpr ⟨lw_p1, List.forall_mem_cons.mpr ⟨lw_p2, List.forall_mem_cons.mpr ⟨lw_p3, List.forall_mem_cons.mpr ⟨lw_p4, List.forall_mem_cons.mpr ⟨lw_p5, List.forall_mem_cons.mpr ⟨lw_p6, List.forall_mem_cons.mpr ⟨lw_p7, List.forall_mem_cons.mpr ⟨lw_p8, List.forall_mem_cons.mpr ⟨lw_p9, List.forall_mem_cons.mpr ⟨lw_p10, List.forall_mem_cons.mpr ⟨lw_p11, List.forall_mem_cons.mpr ⟨lw_p12, List.forall_mem_cons.mpr ⟨lw_p13, List.forall_mem_cons.mpr ⟨lw_p14, List.forall_mem_cons.mpr ⟨lw_p15, fun _ h => absurd h List.not_mem_nil⟩⟩⟩⟩⟩⟩⟩⟩⟩⟩⟩⟩⟩⟩⟩⟩
theorem lw_p16 : lw_okq (⟨"ReaderRowsModel", "add", "(II)V"⟩, 27) := ⟨⟨by decide +kernel, by decide +kernel⟩, List.mem_of_getElem? (i := 462) (by decide +kernel), List.mem_of_getElem? (i := 575) (by decide +kernel), List.mem_of_getElem? (i := 576) (by decide +kernel)⟩
theorem lw_p17 : lw_okq (⟨"ReaderRowsModel", "lasts", "(IIJ)Z"⟩, 27) := ⟨⟨by decide +kernel, by decide +kernel⟩, List.mem_of_getElem? (i := 462) (by decide +kernel), List.mem_of_getElem? (i := 599) (by decide +kernel), List.mem_of_getElem? (i := 600) (by decide +kernel)⟩
theorem lw_p18 : lw_okq (⟨"ReaderRowsModel", "forget", "(IJ)I"⟩, 27) := ⟨⟨by decide +kernel, by decide +kernel⟩, List.mem_of_getElem? (i := 462) (by decide +kernel), List.mem_of_getElem? (i := 607) (by decide +kernel), List.mem_of_getElem? (i := 608) (by decide +kernel)⟩
theorem lw_p19 : lw_okq (⟨"ReaderRowsModel", "isKept", "(IJ)Z"⟩, 27) := ⟨⟨by decide +kernel, by decide +kernel⟩, List.mem_of_getElem? (i := 462) (by decide +kernel), List.mem_of_getElem? (i := 611) (by decide +kernel), List.mem_of_getElem? (i := 612) (by decide +kernel)⟩
theorem lw_p20 : lw_okq (⟨"ReaderRowsModel", "isFor", "(IIJ)Z"⟩, 27) := ⟨⟨by decide +kernel, by decide +kernel⟩, List.mem_of_getElem? (i := 462) (by decide +kernel), List.mem_of_getElem? (i := 628) (by decide +kernel), List.mem_of_getElem? (i := 629) (by decide +kernel)⟩
theorem lw_p21 : lw_okq (⟨"ReaderRowsModel", "reads", "()Z"⟩, 27) := ⟨⟨by decide +kernel, by decide +kernel⟩, List.mem_of_getElem? (i := 462) (by decide +kernel), List.mem_of_getElem? (i := 653) (by decide +kernel), List.mem_of_getElem? (i := 654) (by decide +kernel)⟩
theorem lw_p22 : lw_okq (⟨"ReaderRowsModel", "letters", "()I"⟩, 27) := ⟨⟨by decide +kernel, by decide +kernel⟩, List.mem_of_getElem? (i := 462) (by decide +kernel), List.mem_of_getElem? (i := 657) (by decide +kernel), List.mem_of_getElem? (i := 658) (by decide +kernel)⟩
theorem lw_p23 : lw_okq (⟨"ReaderRowsModel", "look", "()I"⟩, 27) := ⟨⟨by decide +kernel, by decide +kernel⟩, List.mem_of_getElem? (i := 462) (by decide +kernel), List.mem_of_getElem? (i := 661) (by decide +kernel), List.mem_of_getElem? (i := 662) (by decide +kernel)⟩
theorem lw_p24 : lw_okq (⟨"ReaderRowsModel", "isNamed", "(II)Z"⟩, 27) := ⟨⟨by decide +kernel, by decide +kernel⟩, List.mem_of_getElem? (i := 462) (by decide +kernel), List.mem_of_getElem? (i := 665) (by decide +kernel), List.mem_of_getElem? (i := 666) (by decide +kernel)⟩
theorem lw_p25 : lw_okq (⟨"ReaderRowsModel", "far", "(II)I"⟩, 27) := ⟨⟨by decide +kernel, by decide +kernel⟩, List.mem_of_getElem? (i := 462) (by decide +kernel), List.mem_of_getElem? (i := 673) (by decide +kernel), List.mem_of_getElem? (i := 674) (by decide +kernel)⟩
def lw_privs_2 : List (MethodName × Nat) := [(⟨"ReaderRowsModel", "add", "(II)V"⟩, 27), (⟨"ReaderRowsModel", "lasts", "(IIJ)Z"⟩, 27), (⟨"ReaderRowsModel", "forget", "(IJ)I"⟩, 27), (⟨"ReaderRowsModel", "isKept", "(IJ)Z"⟩, 27), (⟨"ReaderRowsModel", "isFor", "(IIJ)Z"⟩, 27), (⟨"ReaderRowsModel", "reads", "()Z"⟩, 27), (⟨"ReaderRowsModel", "letters", "()I"⟩, 27), (⟨"ReaderRowsModel", "look", "()I"⟩, 27), (⟨"ReaderRowsModel", "isNamed", "(II)Z"⟩, 27), (⟨"ReaderRowsModel", "far", "(II)I"⟩, 27)]
theorem lw_r2 : ∀ q ∈ lw_privs_2, lw_okq q := List.forall_mem_cons.mpr ⟨lw_p16, List.forall_mem_cons.mpr ⟨lw_p17, List.forall_mem_cons.mpr ⟨lw_p18, List.forall_mem_cons.mpr ⟨lw_p19, List.forall_mem_cons.mpr ⟨lw_p20, List.forall_mem_cons.mpr ⟨lw_p21, List.forall_mem_cons.mpr ⟨lw_p22, List.forall_mem_cons.mpr ⟨lw_p23, List.forall_mem_cons.mpr ⟨lw_p24, List.forall_mem_cons.mpr ⟨lw_p25, fun _ h => absurd h List.not_mem_nil⟩⟩⟩⟩⟩⟩⟩⟩⟩⟩
def lw_privs : List (MethodName × Nat) := lw_privs_1 ++ (lw_privs_2)
def lw_tbl : List Cond := k2_sels lw_privs ++ tables_1
theorem lw_privs_ok : ∀ q ∈ lw_privs, lw_okq q := by
  show ∀ q ∈ lw_privs_1 ++ (lw_privs_2), lw_okq q
  exact List.forall_mem_append.mpr ⟨lw_r1, lw_r2⟩

-- the classes
def TX0 : u_T := fun k => match k with
  | 0 => ("ReaderRows$Cards", "count", "I", false)
  | 1 => ("ReaderRows$Cards", "codes", "[I", true)
  | 2 => ("ReaderRows$Cards", "holders", "[I", true)
  | _ => ("ReaderRows$Cards", "isLost", "[Z", true)
def tyX0 : Nat → FieldType := fun k => match k with
  | 0 => .int
  | 1 => .array .int
  | 2 => .array .int
  | _ => .array .boolean
theorem nmX0 : ∀ a, a < 4 → ∀ b, b < 4 → a ≠ b → (TX0 a).2.1 ≠ (TX0 b).2.1 := by decide +kernel
theorem tyX0_ok : ∀ k, k < 4 → parseFieldDescriptor (TX0 k).2.2.1 = some (tyX0 k) := by decide +kernel
def TX1 : u_T := fun k => match k with
  | 0 => ("ReaderRows$Loans", "count", "I", false)
  | 1 => ("ReaderRows$Loans", "holders", "[I", true)
  | 2 => ("ReaderRows$Loans", "kindsThen", "[I", true)
  | 3 => ("ReaderRows$Loans", "items", "[I", true)
  | 4 => ("ReaderRows$Loans", "firstDays", "[J", true)
  | 5 => ("ReaderRows$Loans", "lastDays", "[J", true)
  | 6 => ("ReaderRows$Loans", "anonymous", "[Z", true)
  | _ => ("ReaderRows$Loans", "byLastDay", "[I", true)
def tyX1 : Nat → FieldType := fun k => match k with
  | 0 => .int
  | 1 => .array .int
  | 2 => .array .int
  | 3 => .array .int
  | 4 => .array .long
  | 5 => .array .long
  | 6 => .array .boolean
  | _ => .array .int
theorem nmX1 : ∀ a, a < 8 → ∀ b, b < 8 → a ≠ b → (TX1 a).2.1 ≠ (TX1 b).2.1 := by decide +kernel
theorem tyX1_ok : ∀ k, k < 8 → parseFieldDescriptor (TX1 k).2.2.1 = some (tyX1 k) := by decide +kernel
def TX2 : u_T := fun k => match k with
  | 0 => ("ReaderRows$Names", "letters", "[C", true)
  | 1 => ("ReaderRows$Names", "lengths", "[I", true)
  | 2 => ("ReaderRows$Names", "years", "[I", true)
  | _ => ("ReaderRows$Names", "changes", "[I", true)
def tyX2 : Nat → FieldType := fun k => match k with
  | 0 => .array .char
  | 1 => .array .int
  | 2 => .array .int
  | _ => .array .int
theorem nmX2 : ∀ a, a < 4 → ∀ b, b < 4 → a ≠ b → (TX2 a).2.1 ≠ (TX2 b).2.1 := by decide +kernel
theorem tyX2_ok : ∀ k, k < 4 → parseFieldDescriptor (TX2 k).2.2.1 = some (tyX2 k) := by decide +kernel
def TX3 : u_T := fun k => match k with
  | 0 => ("ReaderRows$Readers", "count", "I", false)
  | 1 => ("ReaderRows$Readers", "standsFor", "[I", true)
  | 2 => ("ReaderRows$Readers", "kinds", "[I", true)
  | 3 => ("ReaderRows$Readers", "guardians", "[I", true)
  | 4 => ("ReaderRows$Readers", "consents", "[Z", true)
  | _ => ("ReaderRows$Readers", "blockEnds", "[J", true)
def tyX3 : Nat → FieldType := fun k => match k with
  | 0 => .int
  | 1 => .array .int
  | 2 => .array .int
  | 3 => .array .int
  | 4 => .array .boolean
  | _ => .array .long
theorem nmX3 : ∀ a, a < 6 → ∀ b, b < 6 → a ≠ b → (TX3 a).2.1 ≠ (TX3 b).2.1 := by decide +kernel
theorem tyX3_ok : ∀ k, k < 6 → parseFieldDescriptor (TX3 k).2.2.1 = some (tyX3 k) := by decide +kernel
def TX4 : u_T := fun k => match k with
  | 0 => ("ReaderRows$Row", "length", "I", false)
  | 1 => ("ReaderRows$Row", "nameLength", "I", false)
  | 2 => ("ReaderRows$Row", "kind", "I", false)
  | 3 => ("ReaderRows$Row", "year", "I", false)
  | _ => ("ReaderRows$Row", "signs", "[I", true)
def tyX4 : Nat → FieldType := fun k => match k with
  | 0 => .int
  | 1 => .int
  | 2 => .int
  | 3 => .int
  | _ => .array .int
theorem nmX4 : ∀ a, a < 5 → ∀ b, b < 5 → a ≠ b → (TX4 a).2.1 ≠ (TX4 b).2.1 := by decide +kernel
theorem tyX4_ok : ∀ k, k < 5 → parseFieldDescriptor (TX4 k).2.2.1 = some (tyX4 k) := by decide +kernel
def TX5 : u_T := fun k => match k with
  | 0 => ("ReaderRows", "readers", "LReaderRows$Readers;", true)
  | 1 => ("ReaderRows", "names", "LReaderRows$Names;", true)
  | 2 => ("ReaderRows", "cards", "LReaderRows$Cards;", true)
  | 3 => ("ReaderRows", "loans", "LReaderRows$Loans;", true)
  | 4 => ("ReaderRows", "row", "LReaderRows$Row;", true)
  | _ => ("ReaderRows", "daysKept", "[I", true)
def tyX5 : Nat → FieldType := fun k => match k with
  | 0 => .object "ReaderRows$Readers"
  | 1 => .object "ReaderRows$Names"
  | 2 => .object "ReaderRows$Cards"
  | 3 => .object "ReaderRows$Loans"
  | 4 => .object "ReaderRows$Row"
  | _ => .array .int
theorem nmX5 : ∀ a, a < 6 → ∀ b, b < 6 → a ≠ b → (TX5 a).2.1 ≠ (TX5 b).2.1 := by decide +kernel
theorem tyX5_ok : ∀ k, k < 6 → parseFieldDescriptor (TX5 k).2.2.1 = some (tyX5 k) := by decide +kernel
def TX6 : u_T := fun k => match k with
  | 0 => ("ReaderRowsModel", "thrown", "I", false)
  | 1 => ("ReaderRowsModel", "readers", "I", false)
  | 2 => ("ReaderRowsModel", "into", "[I", true)
  | 3 => ("ReaderRowsModel", "kinds", "[I", true)
  | 4 => ("ReaderRowsModel", "guardians", "[I", true)
  | 5 => ("ReaderRowsModel", "consents", "[Z", true)
  | 6 => ("ReaderRowsModel", "blocks", "[J", true)
  | 7 => ("ReaderRowsModel", "names", "[B", true)
  | 8 => ("ReaderRowsModel", "nameSizes", "[I", true)
  | 9 => ("ReaderRowsModel", "years", "[I", true)
  | 10 => ("ReaderRowsModel", "cards", "[I", true)
  | 11 => ("ReaderRowsModel", "owners", "[I", true)
  | 12 => ("ReaderRowsModel", "lost", "[Z", true)
  | 13 => ("ReaderRowsModel", "cardCount", "I", false)
  | 14 => ("ReaderRowsModel", "loanReader", "[I", true)
  | 15 => ("ReaderRowsModel", "loanKind", "[I", true)
  | 16 => ("ReaderRowsModel", "loanItem", "[I", true)
  | 17 => ("ReaderRowsModel", "loanFrom", "[J", true)
  | 18 => ("ReaderRowsModel", "loanTo", "[J", true)
  | 19 => ("ReaderRowsModel", "nobody", "[Z", true)
  | 20 => ("ReaderRowsModel", "loans", "I", false)
  | 21 => ("ReaderRowsModel", "keeps", "[I", true)
  | 22 => ("ReaderRowsModel", "said", "[B", true)
  | 23 => ("ReaderRowsModel", "size", "I", false)
  | 24 => ("ReaderRowsModel", "at", "I", false)
  | 25 => ("ReaderRowsModel", "row", "[I", true)
  | _ => ("ReaderRowsModel", "next", "[I", true)
def tyX6 : Nat → FieldType := fun k => match k with
  | 0 => .int
  | 1 => .int
  | 2 => .array .int
  | 3 => .array .int
  | 4 => .array .int
  | 5 => .array .boolean
  | 6 => .array .long
  | 7 => .array .byte
  | 8 => .array .int
  | 9 => .array .int
  | 10 => .array .int
  | 11 => .array .int
  | 12 => .array .boolean
  | 13 => .int
  | 14 => .array .int
  | 15 => .array .int
  | 16 => .array .int
  | 17 => .array .long
  | 18 => .array .long
  | 19 => .array .boolean
  | 20 => .int
  | 21 => .array .int
  | 22 => .array .byte
  | 23 => .int
  | 24 => .int
  | 25 => .array .int
  | _ => .array .int
theorem nmX6 : ∀ a, a < 27 → ∀ b, b < 27 → a ≠ b → (TX6 a).2.1 ≠ (TX6 b).2.1 := by decide +kernel
theorem tyX6_ok : ∀ k, k < 27 → parseFieldDescriptor (TX6 k).2.2.1 = some (tyX6 k) := by decide +kernel
abbrev vwCl : List vw_C := [("ReaderRows$Cards", TX0, 4), ("ReaderRows$Loans", TX1, 8), ("ReaderRows$Names", TX2, 4), ("ReaderRows$Readers", TX3, 6), ("ReaderRows$Row", TX4, 5), ("ReaderRows", TX5, 6), ("ReaderRowsModel", TX6, 27)]
-- the words of the tables, each by its place
def lw_g : List Cond := lw_tbl.filter goodWord
theorem lw_gin {w : Cond} (h : w ∈ lw_g) : w ∈ lw_tbl := (List.mem_filter.mp h).1
theorem mg {w : Cond} (h : w ∈ lw_tbl) (hg : goodWord w = true) : w ∈ lw_g := List.mem_filter.mpr ⟨h, hg⟩
theorem m_0 : (.initialized "ReaderRowsLaw" : Cond) ∈ lw_g := mg (List.mem_append_right _ (List.mem_of_getElem? (i := 0) (by decide +kernel))) rfl
theorem m_1 : (.initialized "ReaderRows" : Cond) ∈ lw_g := mg (List.mem_append_right _ (List.mem_of_getElem? (i := 1) (by decide +kernel))) rfl
theorem m_2 : (.initialized "ReaderRows$Readers" : Cond) ∈ lw_g := mg (List.mem_append_right _ (List.mem_of_getElem? (i := 2) (by decide +kernel))) rfl
theorem m_3 : (.initialized "ReaderRows$Names" : Cond) ∈ lw_g := mg (List.mem_append_right _ (List.mem_of_getElem? (i := 3) (by decide +kernel))) rfl
theorem m_4 : (.initialized "ReaderRows$Cards" : Cond) ∈ lw_g := mg (List.mem_append_right _ (List.mem_of_getElem? (i := 4) (by decide +kernel))) rfl
theorem m_5 : (.initialized "ReaderRows$Loans" : Cond) ∈ lw_g := mg (List.mem_append_right _ (List.mem_of_getElem? (i := 5) (by decide +kernel))) rfl
theorem m_6 : (.initialized "ReaderRows$Row" : Cond) ∈ lw_g := mg (List.mem_append_right _ (List.mem_of_getElem? (i := 6) (by decide +kernel))) rfl
theorem m_7 : (.initialized "ReaderRowsModel" : Cond) ∈ lw_g := mg (List.mem_append_right _ (List.mem_of_getElem? (i := 7) (by decide +kernel))) rfl
theorem m_8 : (.initialized "java/lang/Math" : Cond) ∈ lw_g := mg (List.mem_append_right _ (List.mem_of_getElem? (i := 8) (by decide +kernel))) rfl
theorem m_9 : (.classLink "ReaderRowsLaw" 7 "ReaderRows" : Cond) ∈ lw_g := mg (List.mem_append_right _ (List.mem_of_getElem? (i := 9) (by decide +kernel))) rfl
theorem m_10 : (.instantiable "ReaderRows" 6 : Cond) ∈ lw_g := mg (List.mem_append_right _ (List.mem_of_getElem? (i := 10) (by decide +kernel))) rfl
theorem m_11 : (.methodLink "ReaderRowsLaw" 9 ⟨"ReaderRows", "<init>", "()V"⟩ : Cond) ∈ lw_g := mg (List.mem_append_right _ (List.mem_of_getElem? (i := 11) (by decide +kernel))) rfl
theorem m_12 : (.instanceMethod ⟨"ReaderRows", "<init>", "()V"⟩ : Cond) ∈ lw_g := mg (List.mem_append_right _ (List.mem_of_getElem? (i := 12) (by decide +kernel))) rfl
theorem m_13 : (.code ⟨"ReaderRows", "<init>", "()V"⟩ prog_1_method_1_code 2 none : Cond) ∈ lw_g := mg (List.mem_append_right _ (List.mem_of_getElem? (i := 13) (by decide +kernel))) rfl
theorem m_14 : (.methodLink "ReaderRows" 1 ⟨"java/lang/Object", "<init>", "()V"⟩ : Cond) ∈ lw_g := mg (List.mem_append_right _ (List.mem_of_getElem? (i := 14) (by decide +kernel))) rfl
theorem m_15 : (.instanceMethod ⟨"java/lang/Object", "<init>", "()V"⟩ : Cond) ∈ lw_g := mg (List.mem_append_right _ (List.mem_of_getElem? (i := 15) (by decide +kernel))) rfl
theorem m_16 : (.code ⟨"java/lang/Object", "<init>", "()V"⟩ object_method_1_code 1 none : Cond) ∈ lw_g := mg (List.mem_append_right _ (List.mem_of_getElem? (i := 16) (by decide +kernel))) rfl
theorem m_17 : (.classLink "ReaderRows" 7 "ReaderRows$Readers" : Cond) ∈ lw_g := mg (List.mem_append_right _ (List.mem_of_getElem? (i := 17) (by decide +kernel))) rfl
theorem m_18 : (.instantiable "ReaderRows$Readers" 6 : Cond) ∈ lw_g := mg (List.mem_append_right _ (List.mem_of_getElem? (i := 18) (by decide +kernel))) rfl
theorem m_19 : (.methodLink "ReaderRows" 9 ⟨"ReaderRows$Readers", "<init>", "()V"⟩ : Cond) ∈ lw_g := mg (List.mem_append_right _ (List.mem_of_getElem? (i := 19) (by decide +kernel))) rfl
theorem m_20 : (.instanceMethod ⟨"ReaderRows$Readers", "<init>", "()V"⟩ : Cond) ∈ lw_g := mg (List.mem_append_right _ (List.mem_of_getElem? (i := 20) (by decide +kernel))) rfl
theorem m_21 : (.code ⟨"ReaderRows$Readers", "<init>", "()V"⟩ prog_5_method_1_code 2 none : Cond) ∈ lw_g := mg (List.mem_append_right _ (List.mem_of_getElem? (i := 21) (by decide +kernel))) rfl
theorem m_22 : (.methodLink "ReaderRows$Readers" 3 ⟨"java/lang/Object", "<init>", "()V"⟩ : Cond) ∈ lw_g := mg (List.mem_append_right _ (List.mem_of_getElem? (i := 22) (by decide +kernel))) rfl
theorem m_23 : (.constantLong "ReaderRows$Readers" 33 (-1) : Cond) ∈ lw_g := mg (List.mem_append_right _ (List.mem_of_getElem? (i := 23) (by decide +kernel))) rfl
theorem m_24 : (.fieldLink "ReaderRows$Readers" 9 "ReaderRows$Readers" "count" "I" : Cond) ∈ lw_g := mg (List.mem_append_right _ (List.mem_of_getElem? (i := 24) (by decide +kernel))) rfl
theorem m_25 : (.fieldLink "ReaderRows$Readers" 15 "ReaderRows$Readers" "standsFor" "[I" : Cond) ∈ lw_g := mg (List.mem_append_right _ (List.mem_of_getElem? (i := 25) (by decide +kernel))) rfl
theorem m_26 : (.fieldLink "ReaderRows$Readers" 19 "ReaderRows$Readers" "kinds" "[I" : Cond) ∈ lw_g := mg (List.mem_append_right _ (List.mem_of_getElem? (i := 26) (by decide +kernel))) rfl
theorem m_27 : (.fieldLink "ReaderRows$Readers" 22 "ReaderRows$Readers" "guardians" "[I" : Cond) ∈ lw_g := mg (List.mem_append_right _ (List.mem_of_getElem? (i := 27) (by decide +kernel))) rfl
theorem m_28 : (.fieldLink "ReaderRows$Readers" 25 "ReaderRows$Readers" "consents" "[Z" : Cond) ∈ lw_g := mg (List.mem_append_right _ (List.mem_of_getElem? (i := 28) (by decide +kernel))) rfl
theorem m_29 : (.fieldLink "ReaderRows$Readers" 29 "ReaderRows$Readers" "blockEnds" "[J" : Cond) ∈ lw_g := mg (List.mem_append_right _ (List.mem_of_getElem? (i := 29) (by decide +kernel))) rfl
theorem m_30 : (.lays "ReaderRows$Readers" "ReaderRows$Readers" "count" "I" : Cond) ∈ lw_g := mg (List.mem_append_right _ (List.mem_of_getElem? (i := 30) (by decide +kernel))) rfl
theorem m_31 : (.soleField "ReaderRows$Readers" "count" : Cond) ∈ lw_g := mg (List.mem_append_right _ (List.mem_of_getElem? (i := 31) (by decide +kernel))) rfl
theorem m_32 : (.laysFinal "ReaderRows$Readers" "ReaderRows$Readers" "standsFor" "[I" : Cond) ∈ lw_g := mg (List.mem_append_right _ (List.mem_of_getElem? (i := 32) (by decide +kernel))) rfl
theorem m_33 : (.soleField "ReaderRows$Readers" "standsFor" : Cond) ∈ lw_g := mg (List.mem_append_right _ (List.mem_of_getElem? (i := 33) (by decide +kernel))) rfl
theorem m_34 : (.laysFinal "ReaderRows$Readers" "ReaderRows$Readers" "kinds" "[I" : Cond) ∈ lw_g := mg (List.mem_append_right _ (List.mem_of_getElem? (i := 34) (by decide +kernel))) rfl
theorem m_35 : (.soleField "ReaderRows$Readers" "kinds" : Cond) ∈ lw_g := mg (List.mem_append_right _ (List.mem_of_getElem? (i := 35) (by decide +kernel))) rfl
theorem m_36 : (.laysFinal "ReaderRows$Readers" "ReaderRows$Readers" "guardians" "[I" : Cond) ∈ lw_g := mg (List.mem_append_right _ (List.mem_of_getElem? (i := 36) (by decide +kernel))) rfl
theorem m_37 : (.soleField "ReaderRows$Readers" "guardians" : Cond) ∈ lw_g := mg (List.mem_append_right _ (List.mem_of_getElem? (i := 37) (by decide +kernel))) rfl
theorem m_38 : (.laysFinal "ReaderRows$Readers" "ReaderRows$Readers" "consents" "[Z" : Cond) ∈ lw_g := mg (List.mem_append_right _ (List.mem_of_getElem? (i := 38) (by decide +kernel))) rfl
theorem m_39 : (.soleField "ReaderRows$Readers" "consents" : Cond) ∈ lw_g := mg (List.mem_append_right _ (List.mem_of_getElem? (i := 39) (by decide +kernel))) rfl
theorem m_40 : (.laysFinal "ReaderRows$Readers" "ReaderRows$Readers" "blockEnds" "[J" : Cond) ∈ lw_g := mg (List.mem_append_right _ (List.mem_of_getElem? (i := 40) (by decide +kernel))) rfl
theorem m_41 : (.soleField "ReaderRows$Readers" "blockEnds" : Cond) ∈ lw_g := mg (List.mem_append_right _ (List.mem_of_getElem? (i := 41) (by decide +kernel))) rfl
theorem m_42 : (.superclass "ReaderRows$Readers" "java/lang/Object" : Cond) ∈ lw_g := mg (List.mem_append_right _ (List.mem_of_getElem? (i := 42) (by decide +kernel))) rfl
theorem m_43 : (.arrayClass .int : Cond) ∈ lw_g := mg (List.mem_append_right _ (List.mem_of_getElem? (i := 43) (by decide +kernel))) rfl
theorem m_44 : (.arrayClass .boolean : Cond) ∈ lw_g := mg (List.mem_append_right _ (List.mem_of_getElem? (i := 44) (by decide +kernel))) rfl
theorem m_45 : (.arrayClass .long : Cond) ∈ lw_g := mg (List.mem_append_right _ (List.mem_of_getElem? (i := 45) (by decide +kernel))) rfl
theorem m_46 : (.classLink "ReaderRows" 16 "ReaderRows$Names" : Cond) ∈ lw_g := mg (List.mem_append_right _ (List.mem_of_getElem? (i := 46) (by decide +kernel))) rfl
theorem m_47 : (.instantiable "ReaderRows$Names" 4 : Cond) ∈ lw_g := mg (List.mem_append_right _ (List.mem_of_getElem? (i := 47) (by decide +kernel))) rfl
theorem m_48 : (.methodLink "ReaderRows" 18 ⟨"ReaderRows$Names", "<init>", "()V"⟩ : Cond) ∈ lw_g := mg (List.mem_append_right _ (List.mem_of_getElem? (i := 48) (by decide +kernel))) rfl
theorem m_49 : (.instanceMethod ⟨"ReaderRows$Names", "<init>", "()V"⟩ : Cond) ∈ lw_g := mg (List.mem_append_right _ (List.mem_of_getElem? (i := 49) (by decide +kernel))) rfl
theorem m_50 : (.code ⟨"ReaderRows$Names", "<init>", "()V"⟩ prog_4_method_1_code 1 none : Cond) ∈ lw_g := mg (List.mem_append_right _ (List.mem_of_getElem? (i := 50) (by decide +kernel))) rfl
theorem m_51 : (.methodLink "ReaderRows$Names" 1 ⟨"java/lang/Object", "<init>", "()V"⟩ : Cond) ∈ lw_g := mg (List.mem_append_right _ (List.mem_of_getElem? (i := 51) (by decide +kernel))) rfl
theorem m_52 : (.fieldLink "ReaderRows$Names" 11 "ReaderRows$Names" "letters" "[C" : Cond) ∈ lw_g := mg (List.mem_append_right _ (List.mem_of_getElem? (i := 52) (by decide +kernel))) rfl
theorem m_53 : (.fieldLink "ReaderRows$Names" 17 "ReaderRows$Names" "lengths" "[I" : Cond) ∈ lw_g := mg (List.mem_append_right _ (List.mem_of_getElem? (i := 53) (by decide +kernel))) rfl
theorem m_54 : (.fieldLink "ReaderRows$Names" 21 "ReaderRows$Names" "years" "[I" : Cond) ∈ lw_g := mg (List.mem_append_right _ (List.mem_of_getElem? (i := 54) (by decide +kernel))) rfl
theorem m_55 : (.fieldLink "ReaderRows$Names" 24 "ReaderRows$Names" "changes" "[I" : Cond) ∈ lw_g := mg (List.mem_append_right _ (List.mem_of_getElem? (i := 55) (by decide +kernel))) rfl
theorem m_56 : (.laysFinal "ReaderRows$Names" "ReaderRows$Names" "letters" "[C" : Cond) ∈ lw_g := mg (List.mem_append_right _ (List.mem_of_getElem? (i := 56) (by decide +kernel))) rfl
theorem m_57 : (.soleField "ReaderRows$Names" "letters" : Cond) ∈ lw_g := mg (List.mem_append_right _ (List.mem_of_getElem? (i := 57) (by decide +kernel))) rfl
theorem m_58 : (.laysFinal "ReaderRows$Names" "ReaderRows$Names" "lengths" "[I" : Cond) ∈ lw_g := mg (List.mem_append_right _ (List.mem_of_getElem? (i := 58) (by decide +kernel))) rfl
theorem m_59 : (.soleField "ReaderRows$Names" "lengths" : Cond) ∈ lw_g := mg (List.mem_append_right _ (List.mem_of_getElem? (i := 59) (by decide +kernel))) rfl
theorem m_60 : (.laysFinal "ReaderRows$Names" "ReaderRows$Names" "years" "[I" : Cond) ∈ lw_g := mg (List.mem_append_right _ (List.mem_of_getElem? (i := 60) (by decide +kernel))) rfl
theorem m_61 : (.soleField "ReaderRows$Names" "years" : Cond) ∈ lw_g := mg (List.mem_append_right _ (List.mem_of_getElem? (i := 61) (by decide +kernel))) rfl
theorem m_62 : (.laysFinal "ReaderRows$Names" "ReaderRows$Names" "changes" "[I" : Cond) ∈ lw_g := mg (List.mem_append_right _ (List.mem_of_getElem? (i := 62) (by decide +kernel))) rfl
theorem m_63 : (.soleField "ReaderRows$Names" "changes" : Cond) ∈ lw_g := mg (List.mem_append_right _ (List.mem_of_getElem? (i := 63) (by decide +kernel))) rfl
theorem m_64 : (.superclass "ReaderRows$Names" "java/lang/Object" : Cond) ∈ lw_g := mg (List.mem_append_right _ (List.mem_of_getElem? (i := 64) (by decide +kernel))) rfl
theorem m_65 : (.arrayClass .char : Cond) ∈ lw_g := mg (List.mem_append_right _ (List.mem_of_getElem? (i := 65) (by decide +kernel))) rfl
theorem m_66 : (.classLink "ReaderRows" 23 "ReaderRows$Cards" : Cond) ∈ lw_g := mg (List.mem_append_right _ (List.mem_of_getElem? (i := 66) (by decide +kernel))) rfl
theorem m_67 : (.instantiable "ReaderRows$Cards" 4 : Cond) ∈ lw_g := mg (List.mem_append_right _ (List.mem_of_getElem? (i := 67) (by decide +kernel))) rfl
theorem m_68 : (.methodLink "ReaderRows" 25 ⟨"ReaderRows$Cards", "<init>", "()V"⟩ : Cond) ∈ lw_g := mg (List.mem_append_right _ (List.mem_of_getElem? (i := 68) (by decide +kernel))) rfl
theorem m_69 : (.instanceMethod ⟨"ReaderRows$Cards", "<init>", "()V"⟩ : Cond) ∈ lw_g := mg (List.mem_append_right _ (List.mem_of_getElem? (i := 69) (by decide +kernel))) rfl
theorem m_70 : (.code ⟨"ReaderRows$Cards", "<init>", "()V"⟩ prog_2_method_1_code 1 none : Cond) ∈ lw_g := mg (List.mem_append_right _ (List.mem_of_getElem? (i := 70) (by decide +kernel))) rfl
theorem m_71 : (.methodLink "ReaderRows$Cards" 5 ⟨"java/lang/Object", "<init>", "()V"⟩ : Cond) ∈ lw_g := mg (List.mem_append_right _ (List.mem_of_getElem? (i := 71) (by decide +kernel))) rfl
theorem m_72 : (.fieldLink "ReaderRows$Cards" 11 "ReaderRows$Cards" "count" "I" : Cond) ∈ lw_g := mg (List.mem_append_right _ (List.mem_of_getElem? (i := 72) (by decide +kernel))) rfl
theorem m_73 : (.fieldLink "ReaderRows$Cards" 17 "ReaderRows$Cards" "codes" "[I" : Cond) ∈ lw_g := mg (List.mem_append_right _ (List.mem_of_getElem? (i := 73) (by decide +kernel))) rfl
theorem m_74 : (.fieldLink "ReaderRows$Cards" 21 "ReaderRows$Cards" "holders" "[I" : Cond) ∈ lw_g := mg (List.mem_append_right _ (List.mem_of_getElem? (i := 74) (by decide +kernel))) rfl
theorem m_75 : (.fieldLink "ReaderRows$Cards" 24 "ReaderRows$Cards" "isLost" "[Z" : Cond) ∈ lw_g := mg (List.mem_append_right _ (List.mem_of_getElem? (i := 75) (by decide +kernel))) rfl
theorem m_76 : (.lays "ReaderRows$Cards" "ReaderRows$Cards" "count" "I" : Cond) ∈ lw_g := mg (List.mem_append_right _ (List.mem_of_getElem? (i := 76) (by decide +kernel))) rfl
theorem m_77 : (.soleField "ReaderRows$Cards" "count" : Cond) ∈ lw_g := mg (List.mem_append_right _ (List.mem_of_getElem? (i := 77) (by decide +kernel))) rfl
theorem m_78 : (.laysFinal "ReaderRows$Cards" "ReaderRows$Cards" "codes" "[I" : Cond) ∈ lw_g := mg (List.mem_append_right _ (List.mem_of_getElem? (i := 78) (by decide +kernel))) rfl
theorem m_79 : (.soleField "ReaderRows$Cards" "codes" : Cond) ∈ lw_g := mg (List.mem_append_right _ (List.mem_of_getElem? (i := 79) (by decide +kernel))) rfl
theorem m_80 : (.laysFinal "ReaderRows$Cards" "ReaderRows$Cards" "holders" "[I" : Cond) ∈ lw_g := mg (List.mem_append_right _ (List.mem_of_getElem? (i := 80) (by decide +kernel))) rfl
theorem m_81 : (.soleField "ReaderRows$Cards" "holders" : Cond) ∈ lw_g := mg (List.mem_append_right _ (List.mem_of_getElem? (i := 81) (by decide +kernel))) rfl
theorem m_82 : (.laysFinal "ReaderRows$Cards" "ReaderRows$Cards" "isLost" "[Z" : Cond) ∈ lw_g := mg (List.mem_append_right _ (List.mem_of_getElem? (i := 82) (by decide +kernel))) rfl
theorem m_83 : (.soleField "ReaderRows$Cards" "isLost" : Cond) ∈ lw_g := mg (List.mem_append_right _ (List.mem_of_getElem? (i := 83) (by decide +kernel))) rfl
theorem m_84 : (.superclass "ReaderRows$Cards" "java/lang/Object" : Cond) ∈ lw_g := mg (List.mem_append_right _ (List.mem_of_getElem? (i := 84) (by decide +kernel))) rfl
theorem m_85 : (.classLink "ReaderRows" 30 "ReaderRows$Loans" : Cond) ∈ lw_g := mg (List.mem_append_right _ (List.mem_of_getElem? (i := 85) (by decide +kernel))) rfl
theorem m_86 : (.instantiable "ReaderRows$Loans" 8 : Cond) ∈ lw_g := mg (List.mem_append_right _ (List.mem_of_getElem? (i := 86) (by decide +kernel))) rfl
theorem m_87 : (.methodLink "ReaderRows" 32 ⟨"ReaderRows$Loans", "<init>", "()V"⟩ : Cond) ∈ lw_g := mg (List.mem_append_right _ (List.mem_of_getElem? (i := 87) (by decide +kernel))) rfl
theorem m_88 : (.instanceMethod ⟨"ReaderRows$Loans", "<init>", "()V"⟩ : Cond) ∈ lw_g := mg (List.mem_append_right _ (List.mem_of_getElem? (i := 88) (by decide +kernel))) rfl
theorem m_89 : (.code ⟨"ReaderRows$Loans", "<init>", "()V"⟩ prog_3_method_1_code 1 none : Cond) ∈ lw_g := mg (List.mem_append_right _ (List.mem_of_getElem? (i := 89) (by decide +kernel))) rfl
theorem m_90 : (.methodLink "ReaderRows$Loans" 1 ⟨"java/lang/Object", "<init>", "()V"⟩ : Cond) ∈ lw_g := mg (List.mem_append_right _ (List.mem_of_getElem? (i := 90) (by decide +kernel))) rfl
theorem m_91 : (.fieldLink "ReaderRows$Loans" 7 "ReaderRows$Loans" "count" "I" : Cond) ∈ lw_g := mg (List.mem_append_right _ (List.mem_of_getElem? (i := 91) (by decide +kernel))) rfl
theorem m_92 : (.fieldLink "ReaderRows$Loans" 13 "ReaderRows$Loans" "holders" "[I" : Cond) ∈ lw_g := mg (List.mem_append_right _ (List.mem_of_getElem? (i := 92) (by decide +kernel))) rfl
theorem m_93 : (.fieldLink "ReaderRows$Loans" 17 "ReaderRows$Loans" "kindsThen" "[I" : Cond) ∈ lw_g := mg (List.mem_append_right _ (List.mem_of_getElem? (i := 93) (by decide +kernel))) rfl
theorem m_94 : (.fieldLink "ReaderRows$Loans" 20 "ReaderRows$Loans" "items" "[I" : Cond) ∈ lw_g := mg (List.mem_append_right _ (List.mem_of_getElem? (i := 94) (by decide +kernel))) rfl
theorem m_95 : (.fieldLink "ReaderRows$Loans" 23 "ReaderRows$Loans" "firstDays" "[J" : Cond) ∈ lw_g := mg (List.mem_append_right _ (List.mem_of_getElem? (i := 95) (by decide +kernel))) rfl
theorem m_96 : (.fieldLink "ReaderRows$Loans" 27 "ReaderRows$Loans" "lastDays" "[J" : Cond) ∈ lw_g := mg (List.mem_append_right _ (List.mem_of_getElem? (i := 96) (by decide +kernel))) rfl
theorem m_97 : (.fieldLink "ReaderRows$Loans" 30 "ReaderRows$Loans" "anonymous" "[Z" : Cond) ∈ lw_g := mg (List.mem_append_right _ (List.mem_of_getElem? (i := 97) (by decide +kernel))) rfl
theorem m_98 : (.fieldLink "ReaderRows$Loans" 34 "ReaderRows$Loans" "byLastDay" "[I" : Cond) ∈ lw_g := mg (List.mem_append_right _ (List.mem_of_getElem? (i := 98) (by decide +kernel))) rfl
theorem m_99 : (.lays "ReaderRows$Loans" "ReaderRows$Loans" "count" "I" : Cond) ∈ lw_g := mg (List.mem_append_right _ (List.mem_of_getElem? (i := 99) (by decide +kernel))) rfl
theorem m_100 : (.soleField "ReaderRows$Loans" "count" : Cond) ∈ lw_g := mg (List.mem_append_right _ (List.mem_of_getElem? (i := 100) (by decide +kernel))) rfl
theorem m_101 : (.laysFinal "ReaderRows$Loans" "ReaderRows$Loans" "holders" "[I" : Cond) ∈ lw_g := mg (List.mem_append_right _ (List.mem_of_getElem? (i := 101) (by decide +kernel))) rfl
theorem m_102 : (.soleField "ReaderRows$Loans" "holders" : Cond) ∈ lw_g := mg (List.mem_append_right _ (List.mem_of_getElem? (i := 102) (by decide +kernel))) rfl
theorem m_103 : (.laysFinal "ReaderRows$Loans" "ReaderRows$Loans" "kindsThen" "[I" : Cond) ∈ lw_g := mg (List.mem_append_right _ (List.mem_of_getElem? (i := 103) (by decide +kernel))) rfl
theorem m_104 : (.soleField "ReaderRows$Loans" "kindsThen" : Cond) ∈ lw_g := mg (List.mem_append_right _ (List.mem_of_getElem? (i := 104) (by decide +kernel))) rfl
theorem m_105 : (.laysFinal "ReaderRows$Loans" "ReaderRows$Loans" "items" "[I" : Cond) ∈ lw_g := mg (List.mem_append_right _ (List.mem_of_getElem? (i := 105) (by decide +kernel))) rfl
theorem m_106 : (.soleField "ReaderRows$Loans" "items" : Cond) ∈ lw_g := mg (List.mem_append_right _ (List.mem_of_getElem? (i := 106) (by decide +kernel))) rfl
theorem m_107 : (.laysFinal "ReaderRows$Loans" "ReaderRows$Loans" "firstDays" "[J" : Cond) ∈ lw_g := mg (List.mem_append_right _ (List.mem_of_getElem? (i := 107) (by decide +kernel))) rfl
theorem m_108 : (.soleField "ReaderRows$Loans" "firstDays" : Cond) ∈ lw_g := mg (List.mem_append_right _ (List.mem_of_getElem? (i := 108) (by decide +kernel))) rfl
theorem m_109 : (.laysFinal "ReaderRows$Loans" "ReaderRows$Loans" "lastDays" "[J" : Cond) ∈ lw_g := mg (List.mem_append_right _ (List.mem_of_getElem? (i := 109) (by decide +kernel))) rfl
theorem m_110 : (.soleField "ReaderRows$Loans" "lastDays" : Cond) ∈ lw_g := mg (List.mem_append_right _ (List.mem_of_getElem? (i := 110) (by decide +kernel))) rfl
theorem m_111 : (.laysFinal "ReaderRows$Loans" "ReaderRows$Loans" "anonymous" "[Z" : Cond) ∈ lw_g := mg (List.mem_append_right _ (List.mem_of_getElem? (i := 111) (by decide +kernel))) rfl
theorem m_112 : (.soleField "ReaderRows$Loans" "anonymous" : Cond) ∈ lw_g := mg (List.mem_append_right _ (List.mem_of_getElem? (i := 112) (by decide +kernel))) rfl
theorem m_113 : (.laysFinal "ReaderRows$Loans" "ReaderRows$Loans" "byLastDay" "[I" : Cond) ∈ lw_g := mg (List.mem_append_right _ (List.mem_of_getElem? (i := 113) (by decide +kernel))) rfl
theorem m_114 : (.soleField "ReaderRows$Loans" "byLastDay" : Cond) ∈ lw_g := mg (List.mem_append_right _ (List.mem_of_getElem? (i := 114) (by decide +kernel))) rfl
theorem m_115 : (.superclass "ReaderRows$Loans" "java/lang/Object" : Cond) ∈ lw_g := mg (List.mem_append_right _ (List.mem_of_getElem? (i := 115) (by decide +kernel))) rfl
theorem m_116 : (.classLink "ReaderRows" 37 "ReaderRows$Row" : Cond) ∈ lw_g := mg (List.mem_append_right _ (List.mem_of_getElem? (i := 116) (by decide +kernel))) rfl
theorem m_117 : (.instantiable "ReaderRows$Row" 5 : Cond) ∈ lw_g := mg (List.mem_append_right _ (List.mem_of_getElem? (i := 117) (by decide +kernel))) rfl
theorem m_118 : (.methodLink "ReaderRows" 39 ⟨"ReaderRows$Row", "<init>", "()V"⟩ : Cond) ∈ lw_g := mg (List.mem_append_right _ (List.mem_of_getElem? (i := 118) (by decide +kernel))) rfl
theorem m_119 : (.instanceMethod ⟨"ReaderRows$Row", "<init>", "()V"⟩ : Cond) ∈ lw_g := mg (List.mem_append_right _ (List.mem_of_getElem? (i := 119) (by decide +kernel))) rfl
theorem m_120 : (.code ⟨"ReaderRows$Row", "<init>", "()V"⟩ prog_6_method_1_code 1 none : Cond) ∈ lw_g := mg (List.mem_append_right _ (List.mem_of_getElem? (i := 120) (by decide +kernel))) rfl
theorem m_121 : (.methodLink "ReaderRows$Row" 3 ⟨"java/lang/Object", "<init>", "()V"⟩ : Cond) ∈ lw_g := mg (List.mem_append_right _ (List.mem_of_getElem? (i := 121) (by decide +kernel))) rfl
theorem m_122 : (.fieldLink "ReaderRows$Row" 9 "ReaderRows$Row" "length" "I" : Cond) ∈ lw_g := mg (List.mem_append_right _ (List.mem_of_getElem? (i := 122) (by decide +kernel))) rfl
theorem m_123 : (.fieldLink "ReaderRows$Row" 19 "ReaderRows$Row" "nameLength" "I" : Cond) ∈ lw_g := mg (List.mem_append_right _ (List.mem_of_getElem? (i := 123) (by decide +kernel))) rfl
theorem m_124 : (.fieldLink "ReaderRows$Row" 22 "ReaderRows$Row" "kind" "I" : Cond) ∈ lw_g := mg (List.mem_append_right _ (List.mem_of_getElem? (i := 124) (by decide +kernel))) rfl
theorem m_125 : (.fieldLink "ReaderRows$Row" 25 "ReaderRows$Row" "year" "I" : Cond) ∈ lw_g := mg (List.mem_append_right _ (List.mem_of_getElem? (i := 125) (by decide +kernel))) rfl
theorem m_126 : (.fieldLink "ReaderRows$Row" 15 "ReaderRows$Row" "signs" "[I" : Cond) ∈ lw_g := mg (List.mem_append_right _ (List.mem_of_getElem? (i := 126) (by decide +kernel))) rfl
theorem m_127 : (.lays "ReaderRows$Row" "ReaderRows$Row" "length" "I" : Cond) ∈ lw_g := mg (List.mem_append_right _ (List.mem_of_getElem? (i := 127) (by decide +kernel))) rfl
theorem m_128 : (.soleField "ReaderRows$Row" "length" : Cond) ∈ lw_g := mg (List.mem_append_right _ (List.mem_of_getElem? (i := 128) (by decide +kernel))) rfl
theorem m_129 : (.lays "ReaderRows$Row" "ReaderRows$Row" "nameLength" "I" : Cond) ∈ lw_g := mg (List.mem_append_right _ (List.mem_of_getElem? (i := 129) (by decide +kernel))) rfl
theorem m_130 : (.soleField "ReaderRows$Row" "nameLength" : Cond) ∈ lw_g := mg (List.mem_append_right _ (List.mem_of_getElem? (i := 130) (by decide +kernel))) rfl
theorem m_131 : (.lays "ReaderRows$Row" "ReaderRows$Row" "kind" "I" : Cond) ∈ lw_g := mg (List.mem_append_right _ (List.mem_of_getElem? (i := 131) (by decide +kernel))) rfl
theorem m_132 : (.soleField "ReaderRows$Row" "kind" : Cond) ∈ lw_g := mg (List.mem_append_right _ (List.mem_of_getElem? (i := 132) (by decide +kernel))) rfl
theorem m_133 : (.lays "ReaderRows$Row" "ReaderRows$Row" "year" "I" : Cond) ∈ lw_g := mg (List.mem_append_right _ (List.mem_of_getElem? (i := 133) (by decide +kernel))) rfl
theorem m_134 : (.soleField "ReaderRows$Row" "year" : Cond) ∈ lw_g := mg (List.mem_append_right _ (List.mem_of_getElem? (i := 134) (by decide +kernel))) rfl
theorem m_135 : (.laysFinal "ReaderRows$Row" "ReaderRows$Row" "signs" "[I" : Cond) ∈ lw_g := mg (List.mem_append_right _ (List.mem_of_getElem? (i := 135) (by decide +kernel))) rfl
theorem m_136 : (.soleField "ReaderRows$Row" "signs" : Cond) ∈ lw_g := mg (List.mem_append_right _ (List.mem_of_getElem? (i := 136) (by decide +kernel))) rfl
theorem m_137 : (.superclass "ReaderRows$Row" "java/lang/Object" : Cond) ∈ lw_g := mg (List.mem_append_right _ (List.mem_of_getElem? (i := 137) (by decide +kernel))) rfl
theorem m_138 : (.fieldLink "ReaderRows" 10 "ReaderRows" "readers" "LReaderRows$Readers;" : Cond) ∈ lw_g := mg (List.mem_append_right _ (List.mem_of_getElem? (i := 138) (by decide +kernel))) rfl
theorem m_139 : (.fieldLink "ReaderRows" 19 "ReaderRows" "names" "LReaderRows$Names;" : Cond) ∈ lw_g := mg (List.mem_append_right _ (List.mem_of_getElem? (i := 139) (by decide +kernel))) rfl
theorem m_140 : (.fieldLink "ReaderRows" 26 "ReaderRows" "cards" "LReaderRows$Cards;" : Cond) ∈ lw_g := mg (List.mem_append_right _ (List.mem_of_getElem? (i := 140) (by decide +kernel))) rfl
theorem m_141 : (.fieldLink "ReaderRows" 33 "ReaderRows" "loans" "LReaderRows$Loans;" : Cond) ∈ lw_g := mg (List.mem_append_right _ (List.mem_of_getElem? (i := 141) (by decide +kernel))) rfl
theorem m_142 : (.fieldLink "ReaderRows" 40 "ReaderRows" "row" "LReaderRows$Row;" : Cond) ∈ lw_g := mg (List.mem_append_right _ (List.mem_of_getElem? (i := 142) (by decide +kernel))) rfl
theorem m_143 : (.fieldLink "ReaderRows" 44 "ReaderRows" "daysKept" "[I" : Cond) ∈ lw_g := mg (List.mem_append_right _ (List.mem_of_getElem? (i := 143) (by decide +kernel))) rfl
theorem m_144 : (.laysFinal "ReaderRows" "ReaderRows" "readers" "LReaderRows$Readers;" : Cond) ∈ lw_g := mg (List.mem_append_right _ (List.mem_of_getElem? (i := 144) (by decide +kernel))) rfl
theorem m_145 : (.soleField "ReaderRows" "readers" : Cond) ∈ lw_g := mg (List.mem_append_right _ (List.mem_of_getElem? (i := 145) (by decide +kernel))) rfl
theorem m_146 : (.laysFinal "ReaderRows" "ReaderRows" "names" "LReaderRows$Names;" : Cond) ∈ lw_g := mg (List.mem_append_right _ (List.mem_of_getElem? (i := 146) (by decide +kernel))) rfl
theorem m_147 : (.soleField "ReaderRows" "names" : Cond) ∈ lw_g := mg (List.mem_append_right _ (List.mem_of_getElem? (i := 147) (by decide +kernel))) rfl
theorem m_148 : (.laysFinal "ReaderRows" "ReaderRows" "cards" "LReaderRows$Cards;" : Cond) ∈ lw_g := mg (List.mem_append_right _ (List.mem_of_getElem? (i := 148) (by decide +kernel))) rfl
theorem m_149 : (.soleField "ReaderRows" "cards" : Cond) ∈ lw_g := mg (List.mem_append_right _ (List.mem_of_getElem? (i := 149) (by decide +kernel))) rfl
theorem m_150 : (.laysFinal "ReaderRows" "ReaderRows" "loans" "LReaderRows$Loans;" : Cond) ∈ lw_g := mg (List.mem_append_right _ (List.mem_of_getElem? (i := 150) (by decide +kernel))) rfl
theorem m_151 : (.soleField "ReaderRows" "loans" : Cond) ∈ lw_g := mg (List.mem_append_right _ (List.mem_of_getElem? (i := 151) (by decide +kernel))) rfl
theorem m_152 : (.laysFinal "ReaderRows" "ReaderRows" "row" "LReaderRows$Row;" : Cond) ∈ lw_g := mg (List.mem_append_right _ (List.mem_of_getElem? (i := 152) (by decide +kernel))) rfl
theorem m_153 : (.soleField "ReaderRows" "row" : Cond) ∈ lw_g := mg (List.mem_append_right _ (List.mem_of_getElem? (i := 153) (by decide +kernel))) rfl
theorem m_154 : (.laysFinal "ReaderRows" "ReaderRows" "daysKept" "[I" : Cond) ∈ lw_g := mg (List.mem_append_right _ (List.mem_of_getElem? (i := 154) (by decide +kernel))) rfl
theorem m_155 : (.soleField "ReaderRows" "daysKept" : Cond) ∈ lw_g := mg (List.mem_append_right _ (List.mem_of_getElem? (i := 155) (by decide +kernel))) rfl
theorem m_156 : (.superclass "ReaderRows" "java/lang/Object" : Cond) ∈ lw_g := mg (List.mem_append_right _ (List.mem_of_getElem? (i := 156) (by decide +kernel))) rfl
theorem m_157 : (.methodLink "ReaderRowsLaw" 13 ⟨"ReaderRows", "reader", "(II)I"⟩ : Cond) ∈ lw_g := mg (List.mem_append_right _ (List.mem_of_getElem? (i := 157) (by decide +kernel))) rfl
theorem m_158 : (.instanceMethod ⟨"ReaderRows", "reader", "(II)I"⟩ : Cond) ∈ lw_g := mg (List.mem_append_right _ (List.mem_of_getElem? (i := 158) (by decide +kernel))) rfl
theorem m_159 : (.selects "ReaderRows" ⟨"ReaderRows", "reader", "(II)I"⟩ ⟨"ReaderRows", "reader", "(II)I"⟩ : Cond) ∈ lw_g := mg (List.mem_append_right _ (List.mem_of_getElem? (i := 159) (by decide +kernel))) rfl
theorem m_160 : (.code ⟨"ReaderRows", "reader", "(II)I"⟩ prog_1_method_2_code 4 (some .int) : Cond) ∈ lw_g := mg (List.mem_append_right _ (List.mem_of_getElem? (i := 160) (by decide +kernel))) rfl
theorem m_161 : (.methodLink "ReaderRows" 48 ⟨"ReaderRows", "isKind", "(I)Z"⟩ : Cond) ∈ lw_g := mg (List.mem_append_right _ (List.mem_of_getElem? (i := 161) (by decide +kernel))) rfl
theorem m_162 : (.static ⟨"ReaderRows", "isKind", "(I)Z"⟩ : Cond) ∈ lw_g := mg (List.mem_append_right _ (List.mem_of_getElem? (i := 162) (by decide +kernel))) rfl
theorem m_163 : (.code ⟨"ReaderRows", "isKind", "(I)Z"⟩ prog_1_method_20_code 1 (some .boolean) : Cond) ∈ lw_g := mg (List.mem_append_right _ (List.mem_of_getElem? (i := 163) (by decide +kernel))) rfl
theorem m_164 : (.methodLink "ReaderRows" 52 ⟨"ReaderRows$Readers", "add", "(II)I"⟩ : Cond) ∈ lw_g := mg (List.mem_append_right _ (List.mem_of_getElem? (i := 164) (by decide +kernel))) rfl
theorem m_165 : (.instanceMethod ⟨"ReaderRows$Readers", "add", "(II)I"⟩ : Cond) ∈ lw_g := mg (List.mem_append_right _ (List.mem_of_getElem? (i := 165) (by decide +kernel))) rfl
theorem m_166 : (.selects "ReaderRows$Readers" ⟨"ReaderRows$Readers", "add", "(II)I"⟩ ⟨"ReaderRows$Readers", "add", "(II)I"⟩ : Cond) ∈ lw_g := mg (List.mem_append_right _ (List.mem_of_getElem? (i := 166) (by decide +kernel))) rfl
theorem m_167 : (.code ⟨"ReaderRows$Readers", "add", "(II)I"⟩ prog_5_method_3_code 3 (some .int) : Cond) ∈ lw_g := mg (List.mem_append_right _ (List.mem_of_getElem? (i := 167) (by decide +kernel))) rfl
theorem m_168 : (.methodLink "ReaderRows" 56 ⟨"ReaderRows$Readers", "find", "(I)I"⟩ : Cond) ∈ lw_g := mg (List.mem_append_right _ (List.mem_of_getElem? (i := 168) (by decide +kernel))) rfl
theorem m_169 : (.instanceMethod ⟨"ReaderRows$Readers", "find", "(I)I"⟩ : Cond) ∈ lw_g := mg (List.mem_append_right _ (List.mem_of_getElem? (i := 169) (by decide +kernel))) rfl
theorem m_170 : (.selects "ReaderRows$Readers" ⟨"ReaderRows$Readers", "find", "(I)I"⟩ ⟨"ReaderRows$Readers", "find", "(I)I"⟩ : Cond) ∈ lw_g := mg (List.mem_append_right _ (List.mem_of_getElem? (i := 170) (by decide +kernel))) rfl
theorem m_171 : (.code ⟨"ReaderRows$Readers", "find", "(I)I"⟩ prog_5_method_4_code 2 (some .int) : Cond) ∈ lw_g := mg (List.mem_append_right _ (List.mem_of_getElem? (i := 171) (by decide +kernel))) rfl
theorem m_172 : (.methodLink "ReaderRows" 60 ⟨"ReaderRows$Readers", "guardianOf", "(I)I"⟩ : Cond) ∈ lw_g := mg (List.mem_append_right _ (List.mem_of_getElem? (i := 172) (by decide +kernel))) rfl
theorem m_173 : (.instanceMethod ⟨"ReaderRows$Readers", "guardianOf", "(I)I"⟩ : Cond) ∈ lw_g := mg (List.mem_append_right _ (List.mem_of_getElem? (i := 173) (by decide +kernel))) rfl
theorem m_174 : (.selects "ReaderRows$Readers" ⟨"ReaderRows$Readers", "guardianOf", "(I)I"⟩ ⟨"ReaderRows$Readers", "guardianOf", "(I)I"⟩ : Cond) ∈ lw_g := mg (List.mem_append_right _ (List.mem_of_getElem? (i := 174) (by decide +kernel))) rfl
theorem m_175 : (.code ⟨"ReaderRows$Readers", "guardianOf", "(I)I"⟩ prog_5_method_7_code 2 (some .int) : Cond) ∈ lw_g := mg (List.mem_append_right _ (List.mem_of_getElem? (i := 175) (by decide +kernel))) rfl
theorem m_176 : (.methodLink "ReaderRowsLaw" 18 ⟨"ReaderRows", "card", "(II)I"⟩ : Cond) ∈ lw_g := mg (List.mem_append_right _ (List.mem_of_getElem? (i := 176) (by decide +kernel))) rfl
theorem m_177 : (.instanceMethod ⟨"ReaderRows", "card", "(II)I"⟩ : Cond) ∈ lw_g := mg (List.mem_append_right _ (List.mem_of_getElem? (i := 177) (by decide +kernel))) rfl
theorem m_178 : (.selects "ReaderRows" ⟨"ReaderRows", "card", "(II)I"⟩ ⟨"ReaderRows", "card", "(II)I"⟩ : Cond) ∈ lw_g := mg (List.mem_append_right _ (List.mem_of_getElem? (i := 178) (by decide +kernel))) rfl
theorem m_179 : (.code ⟨"ReaderRows", "card", "(II)I"⟩ prog_1_method_3_code 4 (some .int) : Cond) ∈ lw_g := mg (List.mem_append_right _ (List.mem_of_getElem? (i := 179) (by decide +kernel))) rfl
theorem m_180 : (.methodLink "ReaderRows" 63 ⟨"ReaderRows$Cards", "countOf", "(I)I"⟩ : Cond) ∈ lw_g := mg (List.mem_append_right _ (List.mem_of_getElem? (i := 180) (by decide +kernel))) rfl
theorem m_181 : (.instanceMethod ⟨"ReaderRows$Cards", "countOf", "(I)I"⟩ : Cond) ∈ lw_g := mg (List.mem_append_right _ (List.mem_of_getElem? (i := 181) (by decide +kernel))) rfl
theorem m_182 : (.selects "ReaderRows$Cards" ⟨"ReaderRows$Cards", "countOf", "(I)I"⟩ ⟨"ReaderRows$Cards", "countOf", "(I)I"⟩ : Cond) ∈ lw_g := mg (List.mem_append_right _ (List.mem_of_getElem? (i := 182) (by decide +kernel))) rfl
theorem m_183 : (.code ⟨"ReaderRows$Cards", "countOf", "(I)I"⟩ prog_2_method_6_code 4 (some .int) : Cond) ∈ lw_g := mg (List.mem_append_right _ (List.mem_of_getElem? (i := 183) (by decide +kernel))) rfl
theorem m_184 : (.methodLink "ReaderRows" 66 ⟨"ReaderRows$Cards", "isTaken", "(I)Z"⟩ : Cond) ∈ lw_g := mg (List.mem_append_right _ (List.mem_of_getElem? (i := 184) (by decide +kernel))) rfl
theorem m_185 : (.instanceMethod ⟨"ReaderRows$Cards", "isTaken", "(I)Z"⟩ : Cond) ∈ lw_g := mg (List.mem_append_right _ (List.mem_of_getElem? (i := 185) (by decide +kernel))) rfl
theorem m_186 : (.selects "ReaderRows$Cards" ⟨"ReaderRows$Cards", "isTaken", "(I)Z"⟩ ⟨"ReaderRows$Cards", "isTaken", "(I)Z"⟩ : Cond) ∈ lw_g := mg (List.mem_append_right _ (List.mem_of_getElem? (i := 186) (by decide +kernel))) rfl
theorem m_187 : (.code ⟨"ReaderRows$Cards", "isTaken", "(I)Z"⟩ prog_2_method_3_code 2 (some .boolean) : Cond) ∈ lw_g := mg (List.mem_append_right _ (List.mem_of_getElem? (i := 187) (by decide +kernel))) rfl
theorem m_188 : (.methodLink "ReaderRows$Cards" 28 ⟨"ReaderRows$Cards", "placeOf", "(I)I"⟩ : Cond) ∈ lw_g := mg (List.mem_append_right _ (List.mem_of_getElem? (i := 188) (by decide +kernel))) rfl
theorem m_190 : (.instanceMethod ⟨"ReaderRows$Cards", "placeOf", "(I)I"⟩ : Cond) ∈ lw_g := mg (List.mem_append_right _ (List.mem_of_getElem? (i := 190) (by decide +kernel))) rfl
theorem m_191 : (.code ⟨"ReaderRows$Cards", "placeOf", "(I)I"⟩ prog_2_method_8_code 3 (some .int) : Cond) ∈ lw_g := mg (List.mem_append_right _ (List.mem_of_getElem? (i := 191) (by decide +kernel))) rfl
theorem m_192 : (.methodLink "ReaderRows" 69 ⟨"ReaderRows$Cards", "add", "(II)V"⟩ : Cond) ∈ lw_g := mg (List.mem_append_right _ (List.mem_of_getElem? (i := 192) (by decide +kernel))) rfl
theorem m_193 : (.instanceMethod ⟨"ReaderRows$Cards", "add", "(II)V"⟩ : Cond) ∈ lw_g := mg (List.mem_append_right _ (List.mem_of_getElem? (i := 193) (by decide +kernel))) rfl
theorem m_194 : (.selects "ReaderRows$Cards" ⟨"ReaderRows$Cards", "add", "(II)V"⟩ ⟨"ReaderRows$Cards", "add", "(II)V"⟩ : Cond) ∈ lw_g := mg (List.mem_append_right _ (List.mem_of_getElem? (i := 194) (by decide +kernel))) rfl
theorem m_195 : (.code ⟨"ReaderRows$Cards", "add", "(II)V"⟩ prog_2_method_2_code 3 none : Cond) ∈ lw_g := mg (List.mem_append_right _ (List.mem_of_getElem? (i := 195) (by decide +kernel))) rfl
theorem m_196 : (.methodLink "ReaderRowsLaw" 22 ⟨"ReaderRows", "whose", "(I)I"⟩ : Cond) ∈ lw_g := mg (List.mem_append_right _ (List.mem_of_getElem? (i := 196) (by decide +kernel))) rfl
theorem m_197 : (.instanceMethod ⟨"ReaderRows", "whose", "(I)I"⟩ : Cond) ∈ lw_g := mg (List.mem_append_right _ (List.mem_of_getElem? (i := 197) (by decide +kernel))) rfl
theorem m_198 : (.selects "ReaderRows" ⟨"ReaderRows", "whose", "(I)I"⟩ ⟨"ReaderRows", "whose", "(I)I"⟩ : Cond) ∈ lw_g := mg (List.mem_append_right _ (List.mem_of_getElem? (i := 198) (by decide +kernel))) rfl
theorem m_199 : (.code ⟨"ReaderRows", "whose", "(I)I"⟩ prog_1_method_4_code 2 (some .int) : Cond) ∈ lw_g := mg (List.mem_append_right _ (List.mem_of_getElem? (i := 199) (by decide +kernel))) rfl
theorem m_200 : (.methodLink "ReaderRows" 72 ⟨"ReaderRows$Cards", "holderOfGood", "(I)I"⟩ : Cond) ∈ lw_g := mg (List.mem_append_right _ (List.mem_of_getElem? (i := 200) (by decide +kernel))) rfl
theorem m_201 : (.instanceMethod ⟨"ReaderRows$Cards", "holderOfGood", "(I)I"⟩ : Cond) ∈ lw_g := mg (List.mem_append_right _ (List.mem_of_getElem? (i := 201) (by decide +kernel))) rfl
theorem m_202 : (.selects "ReaderRows$Cards" ⟨"ReaderRows$Cards", "holderOfGood", "(I)I"⟩ ⟨"ReaderRows$Cards", "holderOfGood", "(I)I"⟩ : Cond) ∈ lw_g := mg (List.mem_append_right _ (List.mem_of_getElem? (i := 202) (by decide +kernel))) rfl
theorem m_203 : (.code ⟨"ReaderRows$Cards", "holderOfGood", "(I)I"⟩ prog_2_method_4_code 3 (some .int) : Cond) ∈ lw_g := mg (List.mem_append_right _ (List.mem_of_getElem? (i := 203) (by decide +kernel))) rfl
theorem m_204 : (.methodLink "ReaderRowsLaw" 27 ⟨"ReaderRows", "lost", "(II)I"⟩ : Cond) ∈ lw_g := mg (List.mem_append_right _ (List.mem_of_getElem? (i := 204) (by decide +kernel))) rfl
theorem m_205 : (.instanceMethod ⟨"ReaderRows", "lost", "(II)I"⟩ : Cond) ∈ lw_g := mg (List.mem_append_right _ (List.mem_of_getElem? (i := 205) (by decide +kernel))) rfl
theorem m_206 : (.selects "ReaderRows" ⟨"ReaderRows", "lost", "(II)I"⟩ ⟨"ReaderRows", "lost", "(II)I"⟩ : Cond) ∈ lw_g := mg (List.mem_append_right _ (List.mem_of_getElem? (i := 206) (by decide +kernel))) rfl
theorem m_207 : (.code ⟨"ReaderRows", "lost", "(II)I"⟩ prog_1_method_5_code 4 (some .int) : Cond) ∈ lw_g := mg (List.mem_append_right _ (List.mem_of_getElem? (i := 207) (by decide +kernel))) rfl
theorem m_208 : (.methodLink "ReaderRows" 75 ⟨"ReaderRows$Cards", "lose", "(I)V"⟩ : Cond) ∈ lw_g := mg (List.mem_append_right _ (List.mem_of_getElem? (i := 208) (by decide +kernel))) rfl
theorem m_209 : (.instanceMethod ⟨"ReaderRows$Cards", "lose", "(I)V"⟩ : Cond) ∈ lw_g := mg (List.mem_append_right _ (List.mem_of_getElem? (i := 209) (by decide +kernel))) rfl
theorem m_210 : (.selects "ReaderRows$Cards" ⟨"ReaderRows$Cards", "lose", "(I)V"⟩ ⟨"ReaderRows$Cards", "lose", "(I)V"⟩ : Cond) ∈ lw_g := mg (List.mem_append_right _ (List.mem_of_getElem? (i := 210) (by decide +kernel))) rfl
theorem m_211 : (.code ⟨"ReaderRows$Cards", "lose", "(I)V"⟩ prog_2_method_5_code 3 none : Cond) ∈ lw_g := mg (List.mem_append_right _ (List.mem_of_getElem? (i := 211) (by decide +kernel))) rfl
theorem m_212 : (.methodLink "ReaderRowsLaw" 33 ⟨"ReaderRows", "block", "(IIJ)I"⟩ : Cond) ∈ lw_g := mg (List.mem_append_right _ (List.mem_of_getElem? (i := 212) (by decide +kernel))) rfl
theorem m_213 : (.instanceMethod ⟨"ReaderRows", "block", "(IIJ)I"⟩ : Cond) ∈ lw_g := mg (List.mem_append_right _ (List.mem_of_getElem? (i := 213) (by decide +kernel))) rfl
theorem m_214 : (.selects "ReaderRows" ⟨"ReaderRows", "block", "(IIJ)I"⟩ ⟨"ReaderRows", "block", "(IIJ)I"⟩ : Cond) ∈ lw_g := mg (List.mem_append_right _ (List.mem_of_getElem? (i := 214) (by decide +kernel))) rfl
theorem m_215 : (.code ⟨"ReaderRows", "block", "(IIJ)I"⟩ prog_1_method_6_code 6 (some .int) : Cond) ∈ lw_g := mg (List.mem_append_right _ (List.mem_of_getElem? (i := 215) (by decide +kernel))) rfl
theorem m_216 : (.methodLink "ReaderRows" 79 ⟨"ReaderRows", "isDay", "(J)Z"⟩ : Cond) ∈ lw_g := mg (List.mem_append_right _ (List.mem_of_getElem? (i := 216) (by decide +kernel))) rfl
theorem m_217 : (.static ⟨"ReaderRows", "isDay", "(J)Z"⟩ : Cond) ∈ lw_g := mg (List.mem_append_right _ (List.mem_of_getElem? (i := 217) (by decide +kernel))) rfl
theorem m_218 : (.code ⟨"ReaderRows", "isDay", "(J)Z"⟩ prog_1_method_21_code 2 (some .boolean) : Cond) ∈ lw_g := mg (List.mem_append_right _ (List.mem_of_getElem? (i := 218) (by decide +kernel))) rfl
theorem m_219 : (.constantLong "ReaderRows" 170 (1000000000) : Cond) ∈ lw_g := mg (List.mem_append_right _ (List.mem_of_getElem? (i := 219) (by decide +kernel))) rfl
theorem m_220 : (.methodLink "ReaderRows" 83 ⟨"ReaderRows$Readers", "setBlock", "(IIJ)V"⟩ : Cond) ∈ lw_g := mg (List.mem_append_right _ (List.mem_of_getElem? (i := 220) (by decide +kernel))) rfl
theorem m_221 : (.instanceMethod ⟨"ReaderRows$Readers", "setBlock", "(IIJ)V"⟩ : Cond) ∈ lw_g := mg (List.mem_append_right _ (List.mem_of_getElem? (i := 221) (by decide +kernel))) rfl
theorem m_222 : (.selects "ReaderRows$Readers" ⟨"ReaderRows$Readers", "setBlock", "(IIJ)V"⟩ ⟨"ReaderRows$Readers", "setBlock", "(IIJ)V"⟩ : Cond) ∈ lw_g := mg (List.mem_append_right _ (List.mem_of_getElem? (i := 222) (by decide +kernel))) rfl
theorem m_223 : (.code ⟨"ReaderRows$Readers", "setBlock", "(IIJ)V"⟩ prog_5_method_10_code 5 none : Cond) ∈ lw_g := mg (List.mem_append_right _ (List.mem_of_getElem? (i := 223) (by decide +kernel))) rfl
theorem m_224 : (.methodLink "ReaderRowsLaw" 38 ⟨"ReaderRows", "blocked", "(IJ)I"⟩ : Cond) ∈ lw_g := mg (List.mem_append_right _ (List.mem_of_getElem? (i := 224) (by decide +kernel))) rfl
theorem m_225 : (.instanceMethod ⟨"ReaderRows", "blocked", "(IJ)I"⟩ : Cond) ∈ lw_g := mg (List.mem_append_right _ (List.mem_of_getElem? (i := 225) (by decide +kernel))) rfl
theorem m_226 : (.selects "ReaderRows" ⟨"ReaderRows", "blocked", "(IJ)I"⟩ ⟨"ReaderRows", "blocked", "(IJ)I"⟩ : Cond) ∈ lw_g := mg (List.mem_append_right _ (List.mem_of_getElem? (i := 226) (by decide +kernel))) rfl
theorem m_227 : (.code ⟨"ReaderRows", "blocked", "(IJ)I"⟩ prog_1_method_7_code 7 (some .int) : Cond) ∈ lw_g := mg (List.mem_append_right _ (List.mem_of_getElem? (i := 227) (by decide +kernel))) rfl
theorem m_228 : (.methodLink "ReaderRows" 87 ⟨"ReaderRows$Readers", "hasBlock", "(IIJ)Z"⟩ : Cond) ∈ lw_g := mg (List.mem_append_right _ (List.mem_of_getElem? (i := 228) (by decide +kernel))) rfl
theorem m_229 : (.instanceMethod ⟨"ReaderRows$Readers", "hasBlock", "(IIJ)Z"⟩ : Cond) ∈ lw_g := mg (List.mem_append_right _ (List.mem_of_getElem? (i := 229) (by decide +kernel))) rfl
theorem m_230 : (.selects "ReaderRows$Readers" ⟨"ReaderRows$Readers", "hasBlock", "(IIJ)Z"⟩ ⟨"ReaderRows$Readers", "hasBlock", "(IIJ)Z"⟩ : Cond) ∈ lw_g := mg (List.mem_append_right _ (List.mem_of_getElem? (i := 230) (by decide +kernel))) rfl
theorem m_231 : (.code ⟨"ReaderRows$Readers", "hasBlock", "(IIJ)Z"⟩ prog_5_method_11_code 7 (some .boolean) : Cond) ∈ lw_g := mg (List.mem_append_right _ (List.mem_of_getElem? (i := 231) (by decide +kernel))) rfl
theorem m_232 : (.methodLink "ReaderRowsLaw" 43 ⟨"ReaderRows", "consent", "(IZJ)I"⟩ : Cond) ∈ lw_g := mg (List.mem_append_right _ (List.mem_of_getElem? (i := 232) (by decide +kernel))) rfl
theorem m_233 : (.instanceMethod ⟨"ReaderRows", "consent", "(IZJ)I"⟩ : Cond) ∈ lw_g := mg (List.mem_append_right _ (List.mem_of_getElem? (i := 233) (by decide +kernel))) rfl
theorem m_234 : (.selects "ReaderRows" ⟨"ReaderRows", "consent", "(IZJ)I"⟩ ⟨"ReaderRows", "consent", "(IZJ)I"⟩ : Cond) ∈ lw_g := mg (List.mem_append_right _ (List.mem_of_getElem? (i := 234) (by decide +kernel))) rfl
theorem m_235 : (.code ⟨"ReaderRows", "consent", "(IZJ)I"⟩ prog_1_method_8_code 7 (some .int) : Cond) ∈ lw_g := mg (List.mem_append_right _ (List.mem_of_getElem? (i := 235) (by decide +kernel))) rfl
theorem m_236 : (.methodLink "ReaderRows" 91 ⟨"ReaderRows$Readers", "hasConsent", "(I)Z"⟩ : Cond) ∈ lw_g := mg (List.mem_append_right _ (List.mem_of_getElem? (i := 236) (by decide +kernel))) rfl
theorem m_237 : (.instanceMethod ⟨"ReaderRows$Readers", "hasConsent", "(I)Z"⟩ : Cond) ∈ lw_g := mg (List.mem_append_right _ (List.mem_of_getElem? (i := 237) (by decide +kernel))) rfl
theorem m_238 : (.selects "ReaderRows$Readers" ⟨"ReaderRows$Readers", "hasConsent", "(I)Z"⟩ ⟨"ReaderRows$Readers", "hasConsent", "(I)Z"⟩ : Cond) ∈ lw_g := mg (List.mem_append_right _ (List.mem_of_getElem? (i := 238) (by decide +kernel))) rfl
theorem m_239 : (.code ⟨"ReaderRows$Readers", "hasConsent", "(I)Z"⟩ prog_5_method_8_code 2 (some .boolean) : Cond) ∈ lw_g := mg (List.mem_append_right _ (List.mem_of_getElem? (i := 239) (by decide +kernel))) rfl
theorem m_240 : (.methodLink "ReaderRows" 94 ⟨"ReaderRows$Readers", "setConsent", "(IZ)V"⟩ : Cond) ∈ lw_g := mg (List.mem_append_right _ (List.mem_of_getElem? (i := 240) (by decide +kernel))) rfl
theorem m_241 : (.instanceMethod ⟨"ReaderRows$Readers", "setConsent", "(IZ)V"⟩ : Cond) ∈ lw_g := mg (List.mem_append_right _ (List.mem_of_getElem? (i := 241) (by decide +kernel))) rfl
theorem m_242 : (.selects "ReaderRows$Readers" ⟨"ReaderRows$Readers", "setConsent", "(IZ)V"⟩ ⟨"ReaderRows$Readers", "setConsent", "(IZ)V"⟩ : Cond) ∈ lw_g := mg (List.mem_append_right _ (List.mem_of_getElem? (i := 242) (by decide +kernel))) rfl
theorem m_243 : (.code ⟨"ReaderRows$Readers", "setConsent", "(IZ)V"⟩ prog_5_method_9_code 3 none : Cond) ∈ lw_g := mg (List.mem_append_right _ (List.mem_of_getElem? (i := 243) (by decide +kernel))) rfl
theorem m_244 : (.methodLink "ReaderRows" 98 ⟨"ReaderRows", "anonymiseLoansOf", "(IJ)I"⟩ : Cond) ∈ lw_g := mg (List.mem_append_right _ (List.mem_of_getElem? (i := 244) (by decide +kernel))) rfl
theorem m_246 : (.instanceMethod ⟨"ReaderRows", "anonymiseLoansOf", "(IJ)I"⟩ : Cond) ∈ lw_g := mg (List.mem_append_right _ (List.mem_of_getElem? (i := 246) (by decide +kernel))) rfl
theorem m_247 : (.code ⟨"ReaderRows", "anonymiseLoansOf", "(IJ)I"⟩ prog_1_method_24_code 6 (some .int) : Cond) ∈ lw_g := mg (List.mem_append_right _ (List.mem_of_getElem? (i := 247) (by decide +kernel))) rfl
theorem m_248 : (.methodLink "ReaderRows" 110 ⟨"ReaderRows$Loans", "count", "()I"⟩ : Cond) ∈ lw_g := mg (List.mem_append_right _ (List.mem_of_getElem? (i := 248) (by decide +kernel))) rfl
theorem m_249 : (.instanceMethod ⟨"ReaderRows$Loans", "count", "()I"⟩ : Cond) ∈ lw_g := mg (List.mem_append_right _ (List.mem_of_getElem? (i := 249) (by decide +kernel))) rfl
theorem m_250 : (.selects "ReaderRows$Loans" ⟨"ReaderRows$Loans", "count", "()I"⟩ ⟨"ReaderRows$Loans", "count", "()I"⟩ : Cond) ∈ lw_g := mg (List.mem_append_right _ (List.mem_of_getElem? (i := 250) (by decide +kernel))) rfl
theorem m_251 : (.code ⟨"ReaderRows$Loans", "count", "()I"⟩ prog_3_method_2_code 1 (some .int) : Cond) ∈ lw_g := mg (List.mem_append_right _ (List.mem_of_getElem? (i := 251) (by decide +kernel))) rfl
theorem m_252 : (.methodLink "ReaderRows" 117 ⟨"ReaderRows$Loans", "holderOf", "(I)I"⟩ : Cond) ∈ lw_g := mg (List.mem_append_right _ (List.mem_of_getElem? (i := 252) (by decide +kernel))) rfl
theorem m_253 : (.instanceMethod ⟨"ReaderRows$Loans", "holderOf", "(I)I"⟩ : Cond) ∈ lw_g := mg (List.mem_append_right _ (List.mem_of_getElem? (i := 253) (by decide +kernel))) rfl
theorem m_254 : (.selects "ReaderRows$Loans" ⟨"ReaderRows$Loans", "holderOf", "(I)I"⟩ ⟨"ReaderRows$Loans", "holderOf", "(I)I"⟩ : Cond) ∈ lw_g := mg (List.mem_append_right _ (List.mem_of_getElem? (i := 254) (by decide +kernel))) rfl
theorem m_255 : (.code ⟨"ReaderRows$Loans", "holderOf", "(I)I"⟩ prog_3_method_6_code 2 (some .int) : Cond) ∈ lw_g := mg (List.mem_append_right _ (List.mem_of_getElem? (i := 255) (by decide +kernel))) rfl
theorem m_256 : (.methodLink "ReaderRows" 127 ⟨"ReaderRows", "anonymiseUnlessKept", "(IJ)Z"⟩ : Cond) ∈ lw_g := mg (List.mem_append_right _ (List.mem_of_getElem? (i := 256) (by decide +kernel))) rfl
theorem m_258 : (.instanceMethod ⟨"ReaderRows", "anonymiseUnlessKept", "(IJ)Z"⟩ : Cond) ∈ lw_g := mg (List.mem_append_right _ (List.mem_of_getElem? (i := 258) (by decide +kernel))) rfl
theorem m_259 : (.code ⟨"ReaderRows", "anonymiseUnlessKept", "(IJ)Z"⟩ prog_1_method_23_code 4 (some .boolean) : Cond) ∈ lw_g := mg (List.mem_append_right _ (List.mem_of_getElem? (i := 259) (by decide +kernel))) rfl
theorem m_260 : (.methodLink "ReaderRows" 172 ⟨"ReaderRows$Loans", "isAnonymous", "(I)Z"⟩ : Cond) ∈ lw_g := mg (List.mem_append_right _ (List.mem_of_getElem? (i := 260) (by decide +kernel))) rfl
theorem m_261 : (.instanceMethod ⟨"ReaderRows$Loans", "isAnonymous", "(I)Z"⟩ : Cond) ∈ lw_g := mg (List.mem_append_right _ (List.mem_of_getElem? (i := 261) (by decide +kernel))) rfl
theorem m_262 : (.selects "ReaderRows$Loans" ⟨"ReaderRows$Loans", "isAnonymous", "(I)Z"⟩ ⟨"ReaderRows$Loans", "isAnonymous", "(I)Z"⟩ : Cond) ∈ lw_g := mg (List.mem_append_right _ (List.mem_of_getElem? (i := 262) (by decide +kernel))) rfl
theorem m_263 : (.code ⟨"ReaderRows$Loans", "isAnonymous", "(I)Z"⟩ prog_3_method_9_code 2 (some .boolean) : Cond) ∈ lw_g := mg (List.mem_append_right _ (List.mem_of_getElem? (i := 263) (by decide +kernel))) rfl
theorem m_264 : (.methodLink "ReaderRows" 120 ⟨"ReaderRows", "isKept", "(IJ)Z"⟩ : Cond) ∈ lw_g := mg (List.mem_append_right _ (List.mem_of_getElem? (i := 264) (by decide +kernel))) rfl
theorem m_266 : (.instanceMethod ⟨"ReaderRows", "isKept", "(IJ)Z"⟩ : Cond) ∈ lw_g := mg (List.mem_append_right _ (List.mem_of_getElem? (i := 266) (by decide +kernel))) rfl
theorem m_267 : (.code ⟨"ReaderRows", "isKept", "(IJ)Z"⟩ prog_1_method_22_code 5 (some .boolean) : Cond) ∈ lw_g := mg (List.mem_append_right _ (List.mem_of_getElem? (i := 267) (by decide +kernel))) rfl
theorem m_268 : (.methodLink "ReaderRows" 175 ⟨"ReaderRows$Loans", "lastDayOf", "(I)J"⟩ : Cond) ∈ lw_g := mg (List.mem_append_right _ (List.mem_of_getElem? (i := 268) (by decide +kernel))) rfl
theorem m_269 : (.instanceMethod ⟨"ReaderRows$Loans", "lastDayOf", "(I)J"⟩ : Cond) ∈ lw_g := mg (List.mem_append_right _ (List.mem_of_getElem? (i := 269) (by decide +kernel))) rfl
theorem m_270 : (.selects "ReaderRows$Loans" ⟨"ReaderRows$Loans", "lastDayOf", "(I)J"⟩ ⟨"ReaderRows$Loans", "lastDayOf", "(I)J"⟩ : Cond) ∈ lw_g := mg (List.mem_append_right _ (List.mem_of_getElem? (i := 270) (by decide +kernel))) rfl
theorem m_271 : (.code ⟨"ReaderRows$Loans", "lastDayOf", "(I)J"⟩ prog_3_method_8_code 2 (some .long) : Cond) ∈ lw_g := mg (List.mem_append_right _ (List.mem_of_getElem? (i := 271) (by decide +kernel))) rfl
theorem m_272 : (.methodLink "ReaderRows" 103 ⟨"ReaderRows$Readers", "kindOf", "(I)I"⟩ : Cond) ∈ lw_g := mg (List.mem_append_right _ (List.mem_of_getElem? (i := 272) (by decide +kernel))) rfl
theorem m_273 : (.instanceMethod ⟨"ReaderRows$Readers", "kindOf", "(I)I"⟩ : Cond) ∈ lw_g := mg (List.mem_append_right _ (List.mem_of_getElem? (i := 273) (by decide +kernel))) rfl
theorem m_274 : (.selects "ReaderRows$Readers" ⟨"ReaderRows$Readers", "kindOf", "(I)I"⟩ ⟨"ReaderRows$Readers", "kindOf", "(I)I"⟩ : Cond) ∈ lw_g := mg (List.mem_append_right _ (List.mem_of_getElem? (i := 274) (by decide +kernel))) rfl
theorem m_275 : (.code ⟨"ReaderRows$Readers", "kindOf", "(I)I"⟩ prog_5_method_6_code 2 (some .int) : Cond) ∈ lw_g := mg (List.mem_append_right _ (List.mem_of_getElem? (i := 275) (by decide +kernel))) rfl
theorem m_276 : (.methodLink "ReaderRows" 179 ⟨"ReaderRows$Loans", "makeAnonymous", "(I)V"⟩ : Cond) ∈ lw_g := mg (List.mem_append_right _ (List.mem_of_getElem? (i := 276) (by decide +kernel))) rfl
theorem m_277 : (.instanceMethod ⟨"ReaderRows$Loans", "makeAnonymous", "(I)V"⟩ : Cond) ∈ lw_g := mg (List.mem_append_right _ (List.mem_of_getElem? (i := 277) (by decide +kernel))) rfl
theorem m_278 : (.selects "ReaderRows$Loans" ⟨"ReaderRows$Loans", "makeAnonymous", "(I)V"⟩ ⟨"ReaderRows$Loans", "makeAnonymous", "(I)V"⟩ : Cond) ∈ lw_g := mg (List.mem_append_right _ (List.mem_of_getElem? (i := 278) (by decide +kernel))) rfl
theorem m_279 : (.code ⟨"ReaderRows$Loans", "makeAnonymous", "(I)V"⟩ prog_3_method_10_code 2 none : Cond) ∈ lw_g := mg (List.mem_append_right _ (List.mem_of_getElem? (i := 279) (by decide +kernel))) rfl
theorem m_280 : (.methodLink "ReaderRowsLaw" 48 ⟨"ReaderRows", "keeps", "(II)I"⟩ : Cond) ∈ lw_g := mg (List.mem_append_right _ (List.mem_of_getElem? (i := 280) (by decide +kernel))) rfl
theorem m_281 : (.instanceMethod ⟨"ReaderRows", "keeps", "(II)I"⟩ : Cond) ∈ lw_g := mg (List.mem_append_right _ (List.mem_of_getElem? (i := 281) (by decide +kernel))) rfl
theorem m_282 : (.selects "ReaderRows" ⟨"ReaderRows", "keeps", "(II)I"⟩ ⟨"ReaderRows", "keeps", "(II)I"⟩ : Cond) ∈ lw_g := mg (List.mem_append_right _ (List.mem_of_getElem? (i := 282) (by decide +kernel))) rfl
theorem m_283 : (.code ⟨"ReaderRows", "keeps", "(II)I"⟩ prog_1_method_9_code 4 (some .int) : Cond) ∈ lw_g := mg (List.mem_append_right _ (List.mem_of_getElem? (i := 283) (by decide +kernel))) rfl
theorem m_284 : (.constant "ReaderRows" 102 (100000) : Cond) ∈ lw_g := mg (List.mem_append_right _ (List.mem_of_getElem? (i := 284) (by decide +kernel))) rfl
theorem m_285 : (.methodLink "ReaderRowsLaw" 52 ⟨"ReaderRows", "loan", "(IIJJ)I"⟩ : Cond) ∈ lw_g := mg (List.mem_append_right _ (List.mem_of_getElem? (i := 285) (by decide +kernel))) rfl
theorem m_286 : (.instanceMethod ⟨"ReaderRows", "loan", "(IIJJ)I"⟩ : Cond) ∈ lw_g := mg (List.mem_append_right _ (List.mem_of_getElem? (i := 286) (by decide +kernel))) rfl
theorem m_287 : (.selects "ReaderRows" ⟨"ReaderRows", "loan", "(IIJJ)I"⟩ ⟨"ReaderRows", "loan", "(IIJJ)I"⟩ : Cond) ∈ lw_g := mg (List.mem_append_right _ (List.mem_of_getElem? (i := 287) (by decide +kernel))) rfl
theorem m_288 : (.code ⟨"ReaderRows", "loan", "(IIJJ)I"⟩ prog_1_method_10_code 8 (some .int) : Cond) ∈ lw_g := mg (List.mem_append_right _ (List.mem_of_getElem? (i := 288) (by decide +kernel))) rfl
theorem m_289 : (.methodLink "ReaderRows" 106 ⟨"ReaderRows$Loans", "add", "(IIIJJ)I"⟩ : Cond) ∈ lw_g := mg (List.mem_append_right _ (List.mem_of_getElem? (i := 289) (by decide +kernel))) rfl
theorem m_290 : (.instanceMethod ⟨"ReaderRows$Loans", "add", "(IIIJJ)I"⟩ : Cond) ∈ lw_g := mg (List.mem_append_right _ (List.mem_of_getElem? (i := 290) (by decide +kernel))) rfl
theorem m_291 : (.selects "ReaderRows$Loans" ⟨"ReaderRows$Loans", "add", "(IIIJJ)I"⟩ ⟨"ReaderRows$Loans", "add", "(IIIJJ)I"⟩ : Cond) ∈ lw_g := mg (List.mem_append_right _ (List.mem_of_getElem? (i := 291) (by decide +kernel))) rfl
theorem m_292 : (.code ⟨"ReaderRows$Loans", "add", "(IIIJJ)I"⟩ prog_3_method_3_code 8 (some .int) : Cond) ∈ lw_g := mg (List.mem_append_right _ (List.mem_of_getElem? (i := 292) (by decide +kernel))) rfl
theorem m_293 : (.methodLink "ReaderRows$Loans" 37 ⟨"ReaderRows$Loans", "putInOrder", "(I)V"⟩ : Cond) ∈ lw_g := mg (List.mem_append_right _ (List.mem_of_getElem? (i := 293) (by decide +kernel))) rfl
theorem m_295 : (.instanceMethod ⟨"ReaderRows$Loans", "putInOrder", "(I)V"⟩ : Cond) ∈ lw_g := mg (List.mem_append_right _ (List.mem_of_getElem? (i := 295) (by decide +kernel))) rfl
theorem m_296 : (.code ⟨"ReaderRows$Loans", "putInOrder", "(I)V"⟩ prog_3_method_4_code 3 none : Cond) ∈ lw_g := mg (List.mem_append_right _ (List.mem_of_getElem? (i := 296) (by decide +kernel))) rfl
theorem m_297 : (.methodLink "ReaderRowsLaw" 57 ⟨"ReaderRows", "kept", "(IIJ)I"⟩ : Cond) ∈ lw_g := mg (List.mem_append_right _ (List.mem_of_getElem? (i := 297) (by decide +kernel))) rfl
theorem m_298 : (.instanceMethod ⟨"ReaderRows", "kept", "(IIJ)I"⟩ : Cond) ∈ lw_g := mg (List.mem_append_right _ (List.mem_of_getElem? (i := 298) (by decide +kernel))) rfl
theorem m_299 : (.selects "ReaderRows" ⟨"ReaderRows", "kept", "(IIJ)I"⟩ ⟨"ReaderRows", "kept", "(IIJ)I"⟩ : Cond) ∈ lw_g := mg (List.mem_append_right _ (List.mem_of_getElem? (i := 299) (by decide +kernel))) rfl
theorem m_300 : (.code ⟨"ReaderRows", "kept", "(IIJ)I"⟩ prog_1_method_11_code 9 (some .int) : Cond) ∈ lw_g := mg (List.mem_append_right _ (List.mem_of_getElem? (i := 300) (by decide +kernel))) rfl
theorem m_301 : (.constant "ReaderRows" 109 (-1000000007) : Cond) ∈ lw_g := mg (List.mem_append_right _ (List.mem_of_getElem? (i := 301) (by decide +kernel))) rfl
theorem m_302 : (.methodLink "ReaderRows" 114 ⟨"ReaderRows$Loans", "atPlace", "(I)I"⟩ : Cond) ∈ lw_g := mg (List.mem_append_right _ (List.mem_of_getElem? (i := 302) (by decide +kernel))) rfl
theorem m_303 : (.instanceMethod ⟨"ReaderRows$Loans", "atPlace", "(I)I"⟩ : Cond) ∈ lw_g := mg (List.mem_append_right _ (List.mem_of_getElem? (i := 303) (by decide +kernel))) rfl
theorem m_304 : (.selects "ReaderRows$Loans" ⟨"ReaderRows$Loans", "atPlace", "(I)I"⟩ ⟨"ReaderRows$Loans", "atPlace", "(I)I"⟩ : Cond) ∈ lw_g := mg (List.mem_append_right _ (List.mem_of_getElem? (i := 304) (by decide +kernel))) rfl
theorem m_305 : (.code ⟨"ReaderRows$Loans", "atPlace", "(I)I"⟩ prog_3_method_5_code 2 (some .int) : Cond) ∈ lw_g := mg (List.mem_append_right _ (List.mem_of_getElem? (i := 305) (by decide +kernel))) rfl
theorem m_306 : (.methodLink "ReaderRows" 124 ⟨"ReaderRows$Loans", "itemOf", "(I)I"⟩ : Cond) ∈ lw_g := mg (List.mem_append_right _ (List.mem_of_getElem? (i := 306) (by decide +kernel))) rfl
theorem m_307 : (.instanceMethod ⟨"ReaderRows$Loans", "itemOf", "(I)I"⟩ : Cond) ∈ lw_g := mg (List.mem_append_right _ (List.mem_of_getElem? (i := 307) (by decide +kernel))) rfl
theorem m_308 : (.selects "ReaderRows$Loans" ⟨"ReaderRows$Loans", "itemOf", "(I)I"⟩ ⟨"ReaderRows$Loans", "itemOf", "(I)I"⟩ : Cond) ∈ lw_g := mg (List.mem_append_right _ (List.mem_of_getElem? (i := 308) (by decide +kernel))) rfl
theorem m_309 : (.code ⟨"ReaderRows$Loans", "itemOf", "(I)I"⟩ prog_3_method_7_code 2 (some .int) : Cond) ∈ lw_g := mg (List.mem_append_right _ (List.mem_of_getElem? (i := 309) (by decide +kernel))) rfl
theorem m_310 : (.methodLink "ReaderRowsLaw" 61 ⟨"ReaderRows", "anonymise", "(J)I"⟩ : Cond) ∈ lw_g := mg (List.mem_append_right _ (List.mem_of_getElem? (i := 310) (by decide +kernel))) rfl
theorem m_311 : (.instanceMethod ⟨"ReaderRows", "anonymise", "(J)I"⟩ : Cond) ∈ lw_g := mg (List.mem_append_right _ (List.mem_of_getElem? (i := 311) (by decide +kernel))) rfl
theorem m_312 : (.selects "ReaderRows" ⟨"ReaderRows", "anonymise", "(J)I"⟩ ⟨"ReaderRows", "anonymise", "(J)I"⟩ : Cond) ∈ lw_g := mg (List.mem_append_right _ (List.mem_of_getElem? (i := 312) (by decide +kernel))) rfl
theorem m_313 : (.code ⟨"ReaderRows", "anonymise", "(J)I"⟩ prog_1_method_12_code 5 (some .int) : Cond) ∈ lw_g := mg (List.mem_append_right _ (List.mem_of_getElem? (i := 313) (by decide +kernel))) rfl
theorem m_314 : (.methodLink "ReaderRowsLaw" 66 ⟨"ReaderRows", "join", "(II)I"⟩ : Cond) ∈ lw_g := mg (List.mem_append_right _ (List.mem_of_getElem? (i := 314) (by decide +kernel))) rfl
theorem m_315 : (.instanceMethod ⟨"ReaderRows", "join", "(II)I"⟩ : Cond) ∈ lw_g := mg (List.mem_append_right _ (List.mem_of_getElem? (i := 315) (by decide +kernel))) rfl
theorem m_316 : (.selects "ReaderRows" ⟨"ReaderRows", "join", "(II)I"⟩ ⟨"ReaderRows", "join", "(II)I"⟩ : Cond) ∈ lw_g := mg (List.mem_append_right _ (List.mem_of_getElem? (i := 316) (by decide +kernel))) rfl
theorem m_317 : (.code ⟨"ReaderRows", "join", "(II)I"⟩ prog_1_method_13_code 5 (some .int) : Cond) ∈ lw_g := mg (List.mem_append_right _ (List.mem_of_getElem? (i := 317) (by decide +kernel))) rfl
theorem m_318 : (.methodLink "ReaderRows" 130 ⟨"ReaderRows", "mayJoin", "(II)Z"⟩ : Cond) ∈ lw_g := mg (List.mem_append_right _ (List.mem_of_getElem? (i := 318) (by decide +kernel))) rfl
theorem m_320 : (.instanceMethod ⟨"ReaderRows", "mayJoin", "(II)Z"⟩ : Cond) ∈ lw_g := mg (List.mem_append_right _ (List.mem_of_getElem? (i := 320) (by decide +kernel))) rfl
theorem m_321 : (.code ⟨"ReaderRows", "mayJoin", "(II)Z"⟩ prog_1_method_25_code 4 (some .boolean) : Cond) ∈ lw_g := mg (List.mem_append_right _ (List.mem_of_getElem? (i := 321) (by decide +kernel))) rfl
theorem m_322 : (.methodLink "ReaderRows" 141 ⟨"ReaderRows$Readers", "wardOf", "(II)I"⟩ : Cond) ∈ lw_g := mg (List.mem_append_right _ (List.mem_of_getElem? (i := 322) (by decide +kernel))) rfl
theorem m_323 : (.instanceMethod ⟨"ReaderRows$Readers", "wardOf", "(II)I"⟩ : Cond) ∈ lw_g := mg (List.mem_append_right _ (List.mem_of_getElem? (i := 323) (by decide +kernel))) rfl
theorem m_324 : (.selects "ReaderRows$Readers" ⟨"ReaderRows$Readers", "wardOf", "(II)I"⟩ ⟨"ReaderRows$Readers", "wardOf", "(II)I"⟩ : Cond) ∈ lw_g := mg (List.mem_append_right _ (List.mem_of_getElem? (i := 324) (by decide +kernel))) rfl
theorem m_325 : (.code ⟨"ReaderRows$Readers", "wardOf", "(II)I"⟩ prog_5_method_12_code 5 (some .int) : Cond) ∈ lw_g := mg (List.mem_append_right _ (List.mem_of_getElem? (i := 325) (by decide +kernel))) rfl
theorem m_326 : (.methodLink "ReaderRows" 134 ⟨"ReaderRows$Readers", "merge", "(II)V"⟩ : Cond) ∈ lw_g := mg (List.mem_append_right _ (List.mem_of_getElem? (i := 326) (by decide +kernel))) rfl
theorem m_327 : (.instanceMethod ⟨"ReaderRows$Readers", "merge", "(II)V"⟩ : Cond) ∈ lw_g := mg (List.mem_append_right _ (List.mem_of_getElem? (i := 327) (by decide +kernel))) rfl
theorem m_328 : (.selects "ReaderRows$Readers" ⟨"ReaderRows$Readers", "merge", "(II)V"⟩ ⟨"ReaderRows$Readers", "merge", "(II)V"⟩ : Cond) ∈ lw_g := mg (List.mem_append_right _ (List.mem_of_getElem? (i := 328) (by decide +kernel))) rfl
theorem m_329 : (.code ⟨"ReaderRows$Readers", "merge", "(II)V"⟩ prog_5_method_13_code 7 none : Cond) ∈ lw_g := mg (List.mem_append_right _ (List.mem_of_getElem? (i := 329) (by decide +kernel))) rfl
theorem m_330 : (.methodLink "ReaderRows$Readers" 35 ⟨"java/lang/Math", "max", "(JJ)J"⟩ : Cond) ∈ lw_g := mg (List.mem_append_right _ (List.mem_of_getElem? (i := 330) (by decide +kernel))) rfl
theorem m_331 : (.static ⟨"java/lang/Math", "max", "(JJ)J"⟩ : Cond) ∈ lw_g := mg (List.mem_append_right _ (List.mem_of_getElem? (i := 331) (by decide +kernel))) rfl
theorem m_332 : (.code ⟨"java/lang/Math", "max", "(JJ)J"⟩ prog_9_method_66_code 4 (some .long) : Cond) ∈ lw_g := mg (List.mem_append_right _ (List.mem_of_getElem? (i := 332) (by decide +kernel))) rfl
theorem m_333 : (.methodLink "ReaderRows" 137 ⟨"ReaderRows$Cards", "moveAll", "(II)V"⟩ : Cond) ∈ lw_g := mg (List.mem_append_right _ (List.mem_of_getElem? (i := 333) (by decide +kernel))) rfl
theorem m_334 : (.instanceMethod ⟨"ReaderRows$Cards", "moveAll", "(II)V"⟩ : Cond) ∈ lw_g := mg (List.mem_append_right _ (List.mem_of_getElem? (i := 334) (by decide +kernel))) rfl
theorem m_335 : (.selects "ReaderRows$Cards" ⟨"ReaderRows$Cards", "moveAll", "(II)V"⟩ ⟨"ReaderRows$Cards", "moveAll", "(II)V"⟩ : Cond) ∈ lw_g := mg (List.mem_append_right _ (List.mem_of_getElem? (i := 335) (by decide +kernel))) rfl
theorem m_336 : (.code ⟨"ReaderRows$Cards", "moveAll", "(II)V"⟩ prog_2_method_7_code 4 none : Cond) ∈ lw_g := mg (List.mem_append_right _ (List.mem_of_getElem? (i := 336) (by decide +kernel))) rfl
theorem m_337 : (.methodLink "ReaderRows" 140 ⟨"ReaderRows$Loans", "moveAll", "(II)V"⟩ : Cond) ∈ lw_g := mg (List.mem_append_right _ (List.mem_of_getElem? (i := 337) (by decide +kernel))) rfl
theorem m_338 : (.instanceMethod ⟨"ReaderRows$Loans", "moveAll", "(II)V"⟩ : Cond) ∈ lw_g := mg (List.mem_append_right _ (List.mem_of_getElem? (i := 338) (by decide +kernel))) rfl
theorem m_339 : (.selects "ReaderRows$Loans" ⟨"ReaderRows$Loans", "moveAll", "(II)V"⟩ ⟨"ReaderRows$Loans", "moveAll", "(II)V"⟩ : Cond) ∈ lw_g := mg (List.mem_append_right _ (List.mem_of_getElem? (i := 339) (by decide +kernel))) rfl
theorem m_340 : (.code ⟨"ReaderRows$Loans", "moveAll", "(II)V"⟩ prog_3_method_13_code 4 none : Cond) ∈ lw_g := mg (List.mem_append_right _ (List.mem_of_getElem? (i := 340) (by decide +kernel))) rfl
theorem m_341 : (.methodLink "ReaderRowsLaw" 70 ⟨"ReaderRows", "family", "(II)I"⟩ : Cond) ∈ lw_g := mg (List.mem_append_right _ (List.mem_of_getElem? (i := 341) (by decide +kernel))) rfl
theorem m_342 : (.instanceMethod ⟨"ReaderRows", "family", "(II)I"⟩ : Cond) ∈ lw_g := mg (List.mem_append_right _ (List.mem_of_getElem? (i := 342) (by decide +kernel))) rfl
theorem m_343 : (.selects "ReaderRows" ⟨"ReaderRows", "family", "(II)I"⟩ ⟨"ReaderRows", "family", "(II)I"⟩ : Cond) ∈ lw_g := mg (List.mem_append_right _ (List.mem_of_getElem? (i := 343) (by decide +kernel))) rfl
theorem m_344 : (.code ⟨"ReaderRows", "family", "(II)I"⟩ prog_1_method_14_code 6 (some .int) : Cond) ∈ lw_g := mg (List.mem_append_right _ (List.mem_of_getElem? (i := 344) (by decide +kernel))) rfl
theorem m_345 : (.methodLink "ReaderRowsLaw" 74 ⟨"ReaderRows", "sign", "(I)V"⟩ : Cond) ∈ lw_g := mg (List.mem_append_right _ (List.mem_of_getElem? (i := 345) (by decide +kernel))) rfl
theorem m_346 : (.instanceMethod ⟨"ReaderRows", "sign", "(I)V"⟩ : Cond) ∈ lw_g := mg (List.mem_append_right _ (List.mem_of_getElem? (i := 346) (by decide +kernel))) rfl
theorem m_347 : (.selects "ReaderRows" ⟨"ReaderRows", "sign", "(I)V"⟩ ⟨"ReaderRows", "sign", "(I)V"⟩ : Cond) ∈ lw_g := mg (List.mem_append_right _ (List.mem_of_getElem? (i := 347) (by decide +kernel))) rfl
theorem m_348 : (.code ⟨"ReaderRows", "sign", "(I)V"⟩ prog_1_method_15_code 2 none : Cond) ∈ lw_g := mg (List.mem_append_right _ (List.mem_of_getElem? (i := 348) (by decide +kernel))) rfl
theorem m_349 : (.methodLink "ReaderRows" 144 ⟨"ReaderRows$Row", "collect", "(I)V"⟩ : Cond) ∈ lw_g := mg (List.mem_append_right _ (List.mem_of_getElem? (i := 349) (by decide +kernel))) rfl
theorem m_350 : (.instanceMethod ⟨"ReaderRows$Row", "collect", "(I)V"⟩ : Cond) ∈ lw_g := mg (List.mem_append_right _ (List.mem_of_getElem? (i := 350) (by decide +kernel))) rfl
theorem m_351 : (.selects "ReaderRows$Row" ⟨"ReaderRows$Row", "collect", "(I)V"⟩ ⟨"ReaderRows$Row", "collect", "(I)V"⟩ : Cond) ∈ lw_g := mg (List.mem_append_right _ (List.mem_of_getElem? (i := 351) (by decide +kernel))) rfl
theorem m_352 : (.code ⟨"ReaderRows$Row", "collect", "(I)V"⟩ prog_6_method_2_code 2 none : Cond) ∈ lw_g := mg (List.mem_append_right _ (List.mem_of_getElem? (i := 352) (by decide +kernel))) rfl
theorem m_353 : (.methodLink "ReaderRowsLaw" 79 ⟨"ReaderRows", "import0", "()I"⟩ : Cond) ∈ lw_g := mg (List.mem_append_right _ (List.mem_of_getElem? (i := 353) (by decide +kernel))) rfl
theorem m_354 : (.instanceMethod ⟨"ReaderRows", "import0", "()I"⟩ : Cond) ∈ lw_g := mg (List.mem_append_right _ (List.mem_of_getElem? (i := 354) (by decide +kernel))) rfl
theorem m_355 : (.selects "ReaderRows" ⟨"ReaderRows", "import0", "()I"⟩ ⟨"ReaderRows", "import0", "()I"⟩ : Cond) ∈ lw_g := mg (List.mem_append_right _ (List.mem_of_getElem? (i := 355) (by decide +kernel))) rfl
theorem m_356 : (.code ⟨"ReaderRows", "import0", "()I"⟩ prog_1_method_16_code 3 (some .int) : Cond) ∈ lw_g := mg (List.mem_append_right _ (List.mem_of_getElem? (i := 356) (by decide +kernel))) rfl
theorem m_357 : (.methodLink "ReaderRows" 147 ⟨"ReaderRows$Row", "readAll", "()I"⟩ : Cond) ∈ lw_g := mg (List.mem_append_right _ (List.mem_of_getElem? (i := 357) (by decide +kernel))) rfl
theorem m_358 : (.instanceMethod ⟨"ReaderRows$Row", "readAll", "()I"⟩ : Cond) ∈ lw_g := mg (List.mem_append_right _ (List.mem_of_getElem? (i := 358) (by decide +kernel))) rfl
theorem m_359 : (.selects "ReaderRows$Row" ⟨"ReaderRows$Row", "readAll", "()I"⟩ ⟨"ReaderRows$Row", "readAll", "()I"⟩ : Cond) ∈ lw_g := mg (List.mem_append_right _ (List.mem_of_getElem? (i := 359) (by decide +kernel))) rfl
theorem m_360 : (.code ⟨"ReaderRows$Row", "readAll", "()I"⟩ prog_6_method_9_code 2 (some .int) : Cond) ∈ lw_g := mg (List.mem_append_right _ (List.mem_of_getElem? (i := 360) (by decide +kernel))) rfl
theorem m_361 : (.methodLink "ReaderRows$Row" 28 ⟨"ReaderRows$Row", "readName", "()V"⟩ : Cond) ∈ lw_g := mg (List.mem_append_right _ (List.mem_of_getElem? (i := 361) (by decide +kernel))) rfl
theorem m_363 : (.instanceMethod ⟨"ReaderRows$Row", "readName", "()V"⟩ : Cond) ∈ lw_g := mg (List.mem_append_right _ (List.mem_of_getElem? (i := 363) (by decide +kernel))) rfl
theorem m_364 : (.code ⟨"ReaderRows$Row", "readName", "()V"⟩ prog_6_method_10_code 2 none : Cond) ∈ lw_g := mg (List.mem_append_right _ (List.mem_of_getElem? (i := 364) (by decide +kernel))) rfl
theorem m_365 : (.methodLink "ReaderRows$Row" 35 ⟨"ReaderRows$Row", "isAmong", "(III)Z"⟩ : Cond) ∈ lw_g := mg (List.mem_append_right _ (List.mem_of_getElem? (i := 365) (by decide +kernel))) rfl
theorem m_367 : (.instanceMethod ⟨"ReaderRows$Row", "isAmong", "(III)Z"⟩ : Cond) ∈ lw_g := mg (List.mem_append_right _ (List.mem_of_getElem? (i := 367) (by decide +kernel))) rfl
theorem m_368 : (.code ⟨"ReaderRows$Row", "isAmong", "(III)Z"⟩ prog_6_method_12_code 5 (some .boolean) : Cond) ∈ lw_g := mg (List.mem_append_right _ (List.mem_of_getElem? (i := 368) (by decide +kernel))) rfl
theorem m_369 : (.methodLink "ReaderRows$Row" 31 ⟨"ReaderRows$Row", "signAt", "(I)I"⟩ : Cond) ∈ lw_g := mg (List.mem_append_right _ (List.mem_of_getElem? (i := 369) (by decide +kernel))) rfl
theorem m_370 : (.instanceMethod ⟨"ReaderRows$Row", "signAt", "(I)I"⟩ : Cond) ∈ lw_g := mg (List.mem_append_right _ (List.mem_of_getElem? (i := 370) (by decide +kernel))) rfl
theorem m_371 : (.selects "ReaderRows$Row" ⟨"ReaderRows$Row", "signAt", "(I)I"⟩ ⟨"ReaderRows$Row", "signAt", "(I)I"⟩ : Cond) ∈ lw_g := mg (List.mem_append_right _ (List.mem_of_getElem? (i := 371) (by decide +kernel))) rfl
theorem m_372 : (.code ⟨"ReaderRows$Row", "signAt", "(I)I"⟩ prog_6_method_4_code 2 (some .int) : Cond) ∈ lw_g := mg (List.mem_append_right _ (List.mem_of_getElem? (i := 372) (by decide +kernel))) rfl
theorem m_373 : (.methodLink "ReaderRows$Row" 39 ⟨"ReaderRows$Row", "readYear", "(I)I"⟩ : Cond) ∈ lw_g := mg (List.mem_append_right _ (List.mem_of_getElem? (i := 373) (by decide +kernel))) rfl
theorem m_375 : (.instanceMethod ⟨"ReaderRows$Row", "readYear", "(I)I"⟩ : Cond) ∈ lw_g := mg (List.mem_append_right _ (List.mem_of_getElem? (i := 375) (by decide +kernel))) rfl
theorem m_376 : (.code ⟨"ReaderRows$Row", "readYear", "(I)I"⟩ prog_6_method_11_code 3 (some .int) : Cond) ∈ lw_g := mg (List.mem_append_right _ (List.mem_of_getElem? (i := 376) (by decide +kernel))) rfl
theorem m_377 : (.methodLink "ReaderRows" 150 ⟨"ReaderRows", "importFittingRow", "()I"⟩ : Cond) ∈ lw_g := mg (List.mem_append_right _ (List.mem_of_getElem? (i := 377) (by decide +kernel))) rfl
theorem m_379 : (.instanceMethod ⟨"ReaderRows", "importFittingRow", "()I"⟩ : Cond) ∈ lw_g := mg (List.mem_append_right _ (List.mem_of_getElem? (i := 379) (by decide +kernel))) rfl
theorem m_380 : (.code ⟨"ReaderRows", "importFittingRow", "()I"⟩ prog_1_method_26_code 3 (some .int) : Cond) ∈ lw_g := mg (List.mem_append_right _ (List.mem_of_getElem? (i := 380) (by decide +kernel))) rfl
theorem m_381 : (.methodLink "ReaderRows" 182 ⟨"ReaderRows", "firstNamed", "()I"⟩ : Cond) ∈ lw_g := mg (List.mem_append_right _ (List.mem_of_getElem? (i := 381) (by decide +kernel))) rfl
theorem m_383 : (.instanceMethod ⟨"ReaderRows", "firstNamed", "()I"⟩ : Cond) ∈ lw_g := mg (List.mem_append_right _ (List.mem_of_getElem? (i := 383) (by decide +kernel))) rfl
theorem m_384 : (.code ⟨"ReaderRows", "firstNamed", "()I"⟩ prog_1_method_27_code 2 (some .int) : Cond) ∈ lw_g := mg (List.mem_append_right _ (List.mem_of_getElem? (i := 384) (by decide +kernel))) rfl
theorem m_385 : (.methodLink "ReaderRows" 192 ⟨"ReaderRows$Readers", "count", "()I"⟩ : Cond) ∈ lw_g := mg (List.mem_append_right _ (List.mem_of_getElem? (i := 385) (by decide +kernel))) rfl
theorem m_386 : (.instanceMethod ⟨"ReaderRows$Readers", "count", "()I"⟩ : Cond) ∈ lw_g := mg (List.mem_append_right _ (List.mem_of_getElem? (i := 386) (by decide +kernel))) rfl
theorem m_387 : (.selects "ReaderRows$Readers" ⟨"ReaderRows$Readers", "count", "()I"⟩ ⟨"ReaderRows$Readers", "count", "()I"⟩ : Cond) ∈ lw_g := mg (List.mem_append_right _ (List.mem_of_getElem? (i := 387) (by decide +kernel))) rfl
theorem m_388 : (.code ⟨"ReaderRows$Readers", "count", "()I"⟩ prog_5_method_2_code 1 (some .int) : Cond) ∈ lw_g := mg (List.mem_append_right _ (List.mem_of_getElem? (i := 388) (by decide +kernel))) rfl
theorem m_389 : (.methodLink "ReaderRows" 193 ⟨"ReaderRows$Readers", "isJoined", "(I)Z"⟩ : Cond) ∈ lw_g := mg (List.mem_append_right _ (List.mem_of_getElem? (i := 389) (by decide +kernel))) rfl
theorem m_390 : (.instanceMethod ⟨"ReaderRows$Readers", "isJoined", "(I)Z"⟩ : Cond) ∈ lw_g := mg (List.mem_append_right _ (List.mem_of_getElem? (i := 390) (by decide +kernel))) rfl
theorem m_391 : (.selects "ReaderRows$Readers" ⟨"ReaderRows$Readers", "isJoined", "(I)Z"⟩ ⟨"ReaderRows$Readers", "isJoined", "(I)Z"⟩ : Cond) ∈ lw_g := mg (List.mem_append_right _ (List.mem_of_getElem? (i := 391) (by decide +kernel))) rfl
theorem m_392 : (.code ⟨"ReaderRows$Readers", "isJoined", "(I)Z"⟩ prog_5_method_5_code 2 (some .boolean) : Cond) ∈ lw_g := mg (List.mem_append_right _ (List.mem_of_getElem? (i := 392) (by decide +kernel))) rfl
theorem m_393 : (.methodLink "ReaderRows" 196 ⟨"ReaderRows$Names", "isSame", "(ILReaderRows$Row;)Z"⟩ : Cond) ∈ lw_g := mg (List.mem_append_right _ (List.mem_of_getElem? (i := 393) (by decide +kernel))) rfl
theorem m_394 : (.instanceMethod ⟨"ReaderRows$Names", "isSame", "(ILReaderRows$Row;)Z"⟩ : Cond) ∈ lw_g := mg (List.mem_append_right _ (List.mem_of_getElem? (i := 394) (by decide +kernel))) rfl
theorem m_395 : (.selects "ReaderRows$Names" ⟨"ReaderRows$Names", "isSame", "(ILReaderRows$Row;)Z"⟩ ⟨"ReaderRows$Names", "isSame", "(ILReaderRows$Row;)Z"⟩ : Cond) ∈ lw_g := mg (List.mem_append_right _ (List.mem_of_getElem? (i := 395) (by decide +kernel))) rfl
theorem m_396 : (.code ⟨"ReaderRows$Names", "isSame", "(ILReaderRows$Row;)Z"⟩ prog_4_method_4_code 5 (some .boolean) : Cond) ∈ lw_g := mg (List.mem_append_right _ (List.mem_of_getElem? (i := 396) (by decide +kernel))) rfl
theorem m_397 : (.methodLink "ReaderRows$Names" 27 ⟨"ReaderRows$Row", "nameLength", "()I"⟩ : Cond) ∈ lw_g := mg (List.mem_append_right _ (List.mem_of_getElem? (i := 397) (by decide +kernel))) rfl
theorem m_398 : (.instanceMethod ⟨"ReaderRows$Row", "nameLength", "()I"⟩ : Cond) ∈ lw_g := mg (List.mem_append_right _ (List.mem_of_getElem? (i := 398) (by decide +kernel))) rfl
theorem m_399 : (.selects "ReaderRows$Row" ⟨"ReaderRows$Row", "nameLength", "()I"⟩ ⟨"ReaderRows$Row", "nameLength", "()I"⟩ : Cond) ∈ lw_g := mg (List.mem_append_right _ (List.mem_of_getElem? (i := 399) (by decide +kernel))) rfl
theorem m_400 : (.code ⟨"ReaderRows$Row", "nameLength", "()I"⟩ prog_6_method_5_code 1 (some .int) : Cond) ∈ lw_g := mg (List.mem_append_right _ (List.mem_of_getElem? (i := 400) (by decide +kernel))) rfl
theorem m_401 : (.methodLink "ReaderRows$Names" 35 ⟨"ReaderRows$Row", "year", "()I"⟩ : Cond) ∈ lw_g := mg (List.mem_append_right _ (List.mem_of_getElem? (i := 401) (by decide +kernel))) rfl
theorem m_402 : (.instanceMethod ⟨"ReaderRows$Row", "year", "()I"⟩ : Cond) ∈ lw_g := mg (List.mem_append_right _ (List.mem_of_getElem? (i := 402) (by decide +kernel))) rfl
theorem m_403 : (.selects "ReaderRows$Row" ⟨"ReaderRows$Row", "year", "()I"⟩ ⟨"ReaderRows$Row", "year", "()I"⟩ : Cond) ∈ lw_g := mg (List.mem_append_right _ (List.mem_of_getElem? (i := 403) (by decide +kernel))) rfl
theorem m_404 : (.code ⟨"ReaderRows$Row", "year", "()I"⟩ prog_6_method_7_code 1 (some .int) : Cond) ∈ lw_g := mg (List.mem_append_right _ (List.mem_of_getElem? (i := 404) (by decide +kernel))) rfl
theorem m_405 : (.methodLink "ReaderRows$Names" 38 ⟨"ReaderRows$Names", "letterAt", "(II)I"⟩ : Cond) ∈ lw_g := mg (List.mem_append_right _ (List.mem_of_getElem? (i := 405) (by decide +kernel))) rfl
theorem m_407 : (.instanceMethod ⟨"ReaderRows$Names", "letterAt", "(II)I"⟩ : Cond) ∈ lw_g := mg (List.mem_append_right _ (List.mem_of_getElem? (i := 407) (by decide +kernel))) rfl
theorem m_408 : (.code ⟨"ReaderRows$Names", "letterAt", "(II)I"⟩ prog_4_method_6_code 3 (some .int) : Cond) ∈ lw_g := mg (List.mem_append_right _ (List.mem_of_getElem? (i := 408) (by decide +kernel))) rfl
theorem m_409 : (.methodLink "ReaderRows$Names" 31 ⟨"ReaderRows$Row", "signAt", "(I)I"⟩ : Cond) ∈ lw_g := mg (List.mem_append_right _ (List.mem_of_getElem? (i := 409) (by decide +kernel))) rfl
theorem m_410 : (.methodLink "ReaderRows" 185 ⟨"ReaderRows$Row", "kind", "()I"⟩ : Cond) ∈ lw_g := mg (List.mem_append_right _ (List.mem_of_getElem? (i := 410) (by decide +kernel))) rfl
theorem m_411 : (.instanceMethod ⟨"ReaderRows$Row", "kind", "()I"⟩ : Cond) ∈ lw_g := mg (List.mem_append_right _ (List.mem_of_getElem? (i := 411) (by decide +kernel))) rfl
theorem m_412 : (.selects "ReaderRows$Row" ⟨"ReaderRows$Row", "kind", "()I"⟩ ⟨"ReaderRows$Row", "kind", "()I"⟩ : Cond) ∈ lw_g := mg (List.mem_append_right _ (List.mem_of_getElem? (i := 412) (by decide +kernel))) rfl
theorem m_413 : (.code ⟨"ReaderRows$Row", "kind", "()I"⟩ prog_6_method_6_code 1 (some .int) : Cond) ∈ lw_g := mg (List.mem_append_right _ (List.mem_of_getElem? (i := 413) (by decide +kernel))) rfl
theorem m_414 : (.methodLink "ReaderRows" 188 ⟨"ReaderRows$Names", "put", "(ILReaderRows$Row;)V"⟩ : Cond) ∈ lw_g := mg (List.mem_append_right _ (List.mem_of_getElem? (i := 414) (by decide +kernel))) rfl
theorem m_415 : (.instanceMethod ⟨"ReaderRows$Names", "put", "(ILReaderRows$Row;)V"⟩ : Cond) ∈ lw_g := mg (List.mem_append_right _ (List.mem_of_getElem? (i := 415) (by decide +kernel))) rfl
theorem m_416 : (.selects "ReaderRows$Names" ⟨"ReaderRows$Names", "put", "(ILReaderRows$Row;)V"⟩ ⟨"ReaderRows$Names", "put", "(ILReaderRows$Row;)V"⟩ : Cond) ∈ lw_g := mg (List.mem_append_right _ (List.mem_of_getElem? (i := 416) (by decide +kernel))) rfl
theorem m_417 : (.code ⟨"ReaderRows$Names", "put", "(ILReaderRows$Row;)V"⟩ prog_4_method_2_code 5 none : Cond) ∈ lw_g := mg (List.mem_append_right _ (List.mem_of_getElem? (i := 417) (by decide +kernel))) rfl
theorem m_418 : (.methodLink "ReaderRows" 153 ⟨"ReaderRows$Row", "clear", "()V"⟩ : Cond) ∈ lw_g := mg (List.mem_append_right _ (List.mem_of_getElem? (i := 418) (by decide +kernel))) rfl
theorem m_419 : (.instanceMethod ⟨"ReaderRows$Row", "clear", "()V"⟩ : Cond) ∈ lw_g := mg (List.mem_append_right _ (List.mem_of_getElem? (i := 419) (by decide +kernel))) rfl
theorem m_420 : (.selects "ReaderRows$Row" ⟨"ReaderRows$Row", "clear", "()V"⟩ ⟨"ReaderRows$Row", "clear", "()V"⟩ : Cond) ∈ lw_g := mg (List.mem_append_right _ (List.mem_of_getElem? (i := 420) (by decide +kernel))) rfl
theorem m_421 : (.code ⟨"ReaderRows$Row", "clear", "()V"⟩ prog_6_method_3_code 1 none : Cond) ∈ lw_g := mg (List.mem_append_right _ (List.mem_of_getElem? (i := 421) (by decide +kernel))) rfl
theorem m_422 : (.methodLink "ReaderRowsLaw" 84 ⟨"ReaderRows", "like", "()I"⟩ : Cond) ∈ lw_g := mg (List.mem_append_right _ (List.mem_of_getElem? (i := 422) (by decide +kernel))) rfl
theorem m_423 : (.instanceMethod ⟨"ReaderRows", "like", "()I"⟩ : Cond) ∈ lw_g := mg (List.mem_append_right _ (List.mem_of_getElem? (i := 423) (by decide +kernel))) rfl
theorem m_424 : (.selects "ReaderRows" ⟨"ReaderRows", "like", "()I"⟩ ⟨"ReaderRows", "like", "()I"⟩ : Cond) ∈ lw_g := mg (List.mem_append_right _ (List.mem_of_getElem? (i := 424) (by decide +kernel))) rfl
theorem m_425 : (.code ⟨"ReaderRows", "like", "()I"⟩ prog_1_method_17_code 2 (some .int) : Cond) ∈ lw_g := mg (List.mem_append_right _ (List.mem_of_getElem? (i := 425) (by decide +kernel))) rfl
theorem m_426 : (.methodLink "ReaderRows" 156 ⟨"ReaderRows$Row", "readNameAlone", "()Z"⟩ : Cond) ∈ lw_g := mg (List.mem_append_right _ (List.mem_of_getElem? (i := 426) (by decide +kernel))) rfl
theorem m_427 : (.instanceMethod ⟨"ReaderRows$Row", "readNameAlone", "()Z"⟩ : Cond) ∈ lw_g := mg (List.mem_append_right _ (List.mem_of_getElem? (i := 427) (by decide +kernel))) rfl
theorem m_428 : (.selects "ReaderRows$Row" ⟨"ReaderRows$Row", "readNameAlone", "()Z"⟩ ⟨"ReaderRows$Row", "readNameAlone", "()Z"⟩ : Cond) ∈ lw_g := mg (List.mem_append_right _ (List.mem_of_getElem? (i := 428) (by decide +kernel))) rfl
theorem m_429 : (.code ⟨"ReaderRows$Row", "readNameAlone", "()Z"⟩ prog_6_method_8_code 1 (some .boolean) : Cond) ∈ lw_g := mg (List.mem_append_right _ (List.mem_of_getElem? (i := 429) (by decide +kernel))) rfl
theorem m_430 : (.methodLink "ReaderRows" 160 ⟨"ReaderRows", "nearestNamed", "()I"⟩ : Cond) ∈ lw_g := mg (List.mem_append_right _ (List.mem_of_getElem? (i := 430) (by decide +kernel))) rfl
theorem m_432 : (.instanceMethod ⟨"ReaderRows", "nearestNamed", "()I"⟩ : Cond) ∈ lw_g := mg (List.mem_append_right _ (List.mem_of_getElem? (i := 432) (by decide +kernel))) rfl
theorem m_433 : (.code ⟨"ReaderRows", "nearestNamed", "()I"⟩ prog_1_method_28_code 5 (some .int) : Cond) ∈ lw_g := mg (List.mem_append_right _ (List.mem_of_getElem? (i := 433) (by decide +kernel))) rfl
theorem m_434 : (.methodLink "ReaderRows" 200 ⟨"ReaderRows$Names", "has", "(I)Z"⟩ : Cond) ∈ lw_g := mg (List.mem_append_right _ (List.mem_of_getElem? (i := 434) (by decide +kernel))) rfl
theorem m_435 : (.instanceMethod ⟨"ReaderRows$Names", "has", "(I)Z"⟩ : Cond) ∈ lw_g := mg (List.mem_append_right _ (List.mem_of_getElem? (i := 435) (by decide +kernel))) rfl
theorem m_436 : (.selects "ReaderRows$Names" ⟨"ReaderRows$Names", "has", "(I)Z"⟩ ⟨"ReaderRows$Names", "has", "(I)Z"⟩ : Cond) ∈ lw_g := mg (List.mem_append_right _ (List.mem_of_getElem? (i := 436) (by decide +kernel))) rfl
theorem m_437 : (.code ⟨"ReaderRows$Names", "has", "(I)Z"⟩ prog_4_method_3_code 2 (some .boolean) : Cond) ∈ lw_g := mg (List.mem_append_right _ (List.mem_of_getElem? (i := 437) (by decide +kernel))) rfl
theorem m_438 : (.methodLink "ReaderRows" 203 ⟨"ReaderRows$Names", "distance", "(ILReaderRows$Row;)I"⟩ : Cond) ∈ lw_g := mg (List.mem_append_right _ (List.mem_of_getElem? (i := 438) (by decide +kernel))) rfl
theorem m_439 : (.instanceMethod ⟨"ReaderRows$Names", "distance", "(ILReaderRows$Row;)I"⟩ : Cond) ∈ lw_g := mg (List.mem_append_right _ (List.mem_of_getElem? (i := 439) (by decide +kernel))) rfl
theorem m_440 : (.selects "ReaderRows$Names" ⟨"ReaderRows$Names", "distance", "(ILReaderRows$Row;)I"⟩ ⟨"ReaderRows$Names", "distance", "(ILReaderRows$Row;)I"⟩ : Cond) ∈ lw_g := mg (List.mem_append_right _ (List.mem_of_getElem? (i := 440) (by decide +kernel))) rfl
theorem m_441 : (.code ⟨"ReaderRows$Names", "distance", "(ILReaderRows$Row;)I"⟩ prog_4_method_5_code 10 (some .int) : Cond) ∈ lw_g := mg (List.mem_append_right _ (List.mem_of_getElem? (i := 441) (by decide +kernel))) rfl
theorem m_442 : (.methodLink "ReaderRows$Names" 42 ⟨"java/lang/Math", "min", "(II)I"⟩ : Cond) ∈ lw_g := mg (List.mem_append_right _ (List.mem_of_getElem? (i := 442) (by decide +kernel))) rfl
theorem m_443 : (.static ⟨"java/lang/Math", "min", "(II)I"⟩ : Cond) ∈ lw_g := mg (List.mem_append_right _ (List.mem_of_getElem? (i := 443) (by decide +kernel))) rfl
theorem m_444 : (.code ⟨"java/lang/Math", "min", "(II)I"⟩ prog_9_method_69_code 2 (some .int) : Cond) ∈ lw_g := mg (List.mem_append_right _ (List.mem_of_getElem? (i := 444) (by decide +kernel))) rfl
theorem m_445 : (.methodLink "ReaderRowsLaw" 88 ⟨"ReaderRows", "about", "(II)I"⟩ : Cond) ∈ lw_g := mg (List.mem_append_right _ (List.mem_of_getElem? (i := 445) (by decide +kernel))) rfl
theorem m_446 : (.instanceMethod ⟨"ReaderRows", "about", "(II)I"⟩ : Cond) ∈ lw_g := mg (List.mem_append_right _ (List.mem_of_getElem? (i := 446) (by decide +kernel))) rfl
theorem m_447 : (.selects "ReaderRows" ⟨"ReaderRows", "about", "(II)I"⟩ ⟨"ReaderRows", "about", "(II)I"⟩ : Cond) ∈ lw_g := mg (List.mem_append_right _ (List.mem_of_getElem? (i := 447) (by decide +kernel))) rfl
theorem m_448 : (.code ⟨"ReaderRows", "about", "(II)I"⟩ prog_1_method_18_code 4 (some .int) : Cond) ∈ lw_g := mg (List.mem_append_right _ (List.mem_of_getElem? (i := 448) (by decide +kernel))) rfl
theorem m_449 : (.methodLink "ReaderRows" 163 ⟨"ReaderRows$Loans", "countNamed", "(I)I"⟩ : Cond) ∈ lw_g := mg (List.mem_append_right _ (List.mem_of_getElem? (i := 449) (by decide +kernel))) rfl
theorem m_450 : (.instanceMethod ⟨"ReaderRows$Loans", "countNamed", "(I)I"⟩ : Cond) ∈ lw_g := mg (List.mem_append_right _ (List.mem_of_getElem? (i := 450) (by decide +kernel))) rfl
theorem m_451 : (.selects "ReaderRows$Loans" ⟨"ReaderRows$Loans", "countNamed", "(I)I"⟩ ⟨"ReaderRows$Loans", "countNamed", "(I)I"⟩ : Cond) ∈ lw_g := mg (List.mem_append_right _ (List.mem_of_getElem? (i := 451) (by decide +kernel))) rfl
theorem m_452 : (.code ⟨"ReaderRows$Loans", "countNamed", "(I)I"⟩ prog_3_method_11_code 4 (some .int) : Cond) ∈ lw_g := mg (List.mem_append_right _ (List.mem_of_getElem? (i := 452) (by decide +kernel))) rfl
theorem m_453 : (.methodLink "ReaderRowsLaw" 92 ⟨"ReaderRows", "statistics", "(IJJ)I"⟩ : Cond) ∈ lw_g := mg (List.mem_append_right _ (List.mem_of_getElem? (i := 453) (by decide +kernel))) rfl
theorem m_454 : (.instanceMethod ⟨"ReaderRows", "statistics", "(IJJ)I"⟩ : Cond) ∈ lw_g := mg (List.mem_append_right _ (List.mem_of_getElem? (i := 454) (by decide +kernel))) rfl
theorem m_455 : (.selects "ReaderRows" ⟨"ReaderRows", "statistics", "(IJJ)I"⟩ ⟨"ReaderRows", "statistics", "(IJJ)I"⟩ : Cond) ∈ lw_g := mg (List.mem_append_right _ (List.mem_of_getElem? (i := 455) (by decide +kernel))) rfl
theorem m_456 : (.code ⟨"ReaderRows", "statistics", "(IJJ)I"⟩ prog_1_method_19_code 6 (some .int) : Cond) ∈ lw_g := mg (List.mem_append_right _ (List.mem_of_getElem? (i := 456) (by decide +kernel))) rfl
theorem m_457 : (.methodLink "ReaderRows" 166 ⟨"ReaderRows$Loans", "countBegun", "(IJJ)I"⟩ : Cond) ∈ lw_g := mg (List.mem_append_right _ (List.mem_of_getElem? (i := 457) (by decide +kernel))) rfl
theorem m_458 : (.instanceMethod ⟨"ReaderRows$Loans", "countBegun", "(IJJ)I"⟩ : Cond) ∈ lw_g := mg (List.mem_append_right _ (List.mem_of_getElem? (i := 458) (by decide +kernel))) rfl
theorem m_459 : (.selects "ReaderRows$Loans" ⟨"ReaderRows$Loans", "countBegun", "(IJJ)I"⟩ ⟨"ReaderRows$Loans", "countBegun", "(IJJ)I"⟩ : Cond) ∈ lw_g := mg (List.mem_append_right _ (List.mem_of_getElem? (i := 459) (by decide +kernel))) rfl
theorem m_460 : (.code ⟨"ReaderRows$Loans", "countBegun", "(IJJ)I"⟩ prog_3_method_12_code 8 (some .int) : Cond) ∈ lw_g := mg (List.mem_append_right _ (List.mem_of_getElem? (i := 460) (by decide +kernel))) rfl
theorem m_461 : (.classLink "ReaderRowsLaw" 10 "ReaderRowsModel" : Cond) ∈ lw_g := mg (List.mem_append_right _ (List.mem_of_getElem? (i := 461) (by decide +kernel))) rfl
theorem m_462 : (.instantiable "ReaderRowsModel" 27 : Cond) ∈ lw_g := mg (List.mem_append_right _ (List.mem_of_getElem? (i := 462) (by decide +kernel))) rfl
theorem m_463 : (.methodLink "ReaderRowsLaw" 12 ⟨"ReaderRowsModel", "<init>", "()V"⟩ : Cond) ∈ lw_g := mg (List.mem_append_right _ (List.mem_of_getElem? (i := 463) (by decide +kernel))) rfl
theorem m_464 : (.instanceMethod ⟨"ReaderRowsModel", "<init>", "()V"⟩ : Cond) ∈ lw_g := mg (List.mem_append_right _ (List.mem_of_getElem? (i := 464) (by decide +kernel))) rfl
theorem m_465 : (.code ⟨"ReaderRowsModel", "<init>", "()V"⟩ prog_8_method_1_code 2 none : Cond) ∈ lw_g := mg (List.mem_append_right _ (List.mem_of_getElem? (i := 465) (by decide +kernel))) rfl
theorem m_466 : (.methodLink "ReaderRowsModel" 1 ⟨"java/lang/Object", "<init>", "()V"⟩ : Cond) ∈ lw_g := mg (List.mem_append_right _ (List.mem_of_getElem? (i := 466) (by decide +kernel))) rfl
theorem m_467 : (.constantLong "ReaderRowsModel" 76 (-1) : Cond) ∈ lw_g := mg (List.mem_append_right _ (List.mem_of_getElem? (i := 467) (by decide +kernel))) rfl
theorem m_468 : (.fieldLink "ReaderRowsModel" 78 "ReaderRowsModel" "thrown" "I" : Cond) ∈ lw_g := mg (List.mem_append_right _ (List.mem_of_getElem? (i := 468) (by decide +kernel))) rfl
theorem m_469 : (.fieldLink "ReaderRowsModel" 82 "ReaderRowsModel" "readers" "I" : Cond) ∈ lw_g := mg (List.mem_append_right _ (List.mem_of_getElem? (i := 469) (by decide +kernel))) rfl
theorem m_470 : (.fieldLink "ReaderRowsModel" 7 "ReaderRowsModel" "into" "[I" : Cond) ∈ lw_g := mg (List.mem_append_right _ (List.mem_of_getElem? (i := 470) (by decide +kernel))) rfl
theorem m_471 : (.fieldLink "ReaderRowsModel" 13 "ReaderRowsModel" "kinds" "[I" : Cond) ∈ lw_g := mg (List.mem_append_right _ (List.mem_of_getElem? (i := 471) (by decide +kernel))) rfl
theorem m_472 : (.fieldLink "ReaderRowsModel" 16 "ReaderRowsModel" "guardians" "[I" : Cond) ∈ lw_g := mg (List.mem_append_right _ (List.mem_of_getElem? (i := 472) (by decide +kernel))) rfl
theorem m_473 : (.fieldLink "ReaderRowsModel" 19 "ReaderRowsModel" "consents" "[Z" : Cond) ∈ lw_g := mg (List.mem_append_right _ (List.mem_of_getElem? (i := 473) (by decide +kernel))) rfl
theorem m_474 : (.fieldLink "ReaderRowsModel" 23 "ReaderRowsModel" "blocks" "[J" : Cond) ∈ lw_g := mg (List.mem_append_right _ (List.mem_of_getElem? (i := 474) (by decide +kernel))) rfl
theorem m_475 : (.fieldLink "ReaderRowsModel" 27 "ReaderRowsModel" "names" "[B" : Cond) ∈ lw_g := mg (List.mem_append_right _ (List.mem_of_getElem? (i := 475) (by decide +kernel))) rfl
theorem m_476 : (.fieldLink "ReaderRowsModel" 31 "ReaderRowsModel" "nameSizes" "[I" : Cond) ∈ lw_g := mg (List.mem_append_right _ (List.mem_of_getElem? (i := 476) (by decide +kernel))) rfl
theorem m_477 : (.fieldLink "ReaderRowsModel" 34 "ReaderRowsModel" "years" "[I" : Cond) ∈ lw_g := mg (List.mem_append_right _ (List.mem_of_getElem? (i := 477) (by decide +kernel))) rfl
theorem m_478 : (.fieldLink "ReaderRowsModel" 37 "ReaderRowsModel" "cards" "[I" : Cond) ∈ lw_g := mg (List.mem_append_right _ (List.mem_of_getElem? (i := 478) (by decide +kernel))) rfl
theorem m_479 : (.fieldLink "ReaderRowsModel" 40 "ReaderRowsModel" "owners" "[I" : Cond) ∈ lw_g := mg (List.mem_append_right _ (List.mem_of_getElem? (i := 479) (by decide +kernel))) rfl
theorem m_480 : (.fieldLink "ReaderRowsModel" 43 "ReaderRowsModel" "lost" "[Z" : Cond) ∈ lw_g := mg (List.mem_append_right _ (List.mem_of_getElem? (i := 480) (by decide +kernel))) rfl
theorem m_481 : (.fieldLink "ReaderRowsModel" 95 "ReaderRowsModel" "cardCount" "I" : Cond) ∈ lw_g := mg (List.mem_append_right _ (List.mem_of_getElem? (i := 481) (by decide +kernel))) rfl
theorem m_482 : (.fieldLink "ReaderRowsModel" 46 "ReaderRowsModel" "loanReader" "[I" : Cond) ∈ lw_g := mg (List.mem_append_right _ (List.mem_of_getElem? (i := 482) (by decide +kernel))) rfl
theorem m_483 : (.fieldLink "ReaderRowsModel" 49 "ReaderRowsModel" "loanKind" "[I" : Cond) ∈ lw_g := mg (List.mem_append_right _ (List.mem_of_getElem? (i := 483) (by decide +kernel))) rfl
theorem m_484 : (.fieldLink "ReaderRowsModel" 52 "ReaderRowsModel" "loanItem" "[I" : Cond) ∈ lw_g := mg (List.mem_append_right _ (List.mem_of_getElem? (i := 484) (by decide +kernel))) rfl
theorem m_485 : (.fieldLink "ReaderRowsModel" 55 "ReaderRowsModel" "loanFrom" "[J" : Cond) ∈ lw_g := mg (List.mem_append_right _ (List.mem_of_getElem? (i := 485) (by decide +kernel))) rfl
theorem m_486 : (.fieldLink "ReaderRowsModel" 58 "ReaderRowsModel" "loanTo" "[J" : Cond) ∈ lw_g := mg (List.mem_append_right _ (List.mem_of_getElem? (i := 486) (by decide +kernel))) rfl
theorem m_487 : (.fieldLink "ReaderRowsModel" 61 "ReaderRowsModel" "nobody" "[Z" : Cond) ∈ lw_g := mg (List.mem_append_right _ (List.mem_of_getElem? (i := 487) (by decide +kernel))) rfl
theorem m_488 : (.fieldLink "ReaderRowsModel" 116 "ReaderRowsModel" "loans" "I" : Cond) ∈ lw_g := mg (List.mem_append_right _ (List.mem_of_getElem? (i := 488) (by decide +kernel))) rfl
theorem m_489 : (.fieldLink "ReaderRowsModel" 64 "ReaderRowsModel" "keeps" "[I" : Cond) ∈ lw_g := mg (List.mem_append_right _ (List.mem_of_getElem? (i := 489) (by decide +kernel))) rfl
theorem m_490 : (.fieldLink "ReaderRowsModel" 67 "ReaderRowsModel" "said" "[B" : Cond) ∈ lw_g := mg (List.mem_append_right _ (List.mem_of_getElem? (i := 490) (by decide +kernel))) rfl
theorem m_491 : (.fieldLink "ReaderRowsModel" 132 "ReaderRowsModel" "size" "I" : Cond) ∈ lw_g := mg (List.mem_append_right _ (List.mem_of_getElem? (i := 491) (by decide +kernel))) rfl
theorem m_492 : (.fieldLink "ReaderRowsModel" 135 "ReaderRowsModel" "at" "I" : Cond) ∈ lw_g := mg (List.mem_append_right _ (List.mem_of_getElem? (i := 492) (by decide +kernel))) rfl
theorem m_493 : (.fieldLink "ReaderRowsModel" 70 "ReaderRowsModel" "row" "[I" : Cond) ∈ lw_g := mg (List.mem_append_right _ (List.mem_of_getElem? (i := 493) (by decide +kernel))) rfl
theorem m_494 : (.fieldLink "ReaderRowsModel" 73 "ReaderRowsModel" "next" "[I" : Cond) ∈ lw_g := mg (List.mem_append_right _ (List.mem_of_getElem? (i := 494) (by decide +kernel))) rfl
theorem m_495 : (.lays "ReaderRowsModel" "ReaderRowsModel" "thrown" "I" : Cond) ∈ lw_g := mg (List.mem_append_right _ (List.mem_of_getElem? (i := 495) (by decide +kernel))) rfl
theorem m_496 : (.soleField "ReaderRowsModel" "thrown" : Cond) ∈ lw_g := mg (List.mem_append_right _ (List.mem_of_getElem? (i := 496) (by decide +kernel))) rfl
theorem m_497 : (.lays "ReaderRowsModel" "ReaderRowsModel" "readers" "I" : Cond) ∈ lw_g := mg (List.mem_append_right _ (List.mem_of_getElem? (i := 497) (by decide +kernel))) rfl
theorem m_498 : (.soleField "ReaderRowsModel" "readers" : Cond) ∈ lw_g := mg (List.mem_append_right _ (List.mem_of_getElem? (i := 498) (by decide +kernel))) rfl
theorem m_499 : (.laysFinal "ReaderRowsModel" "ReaderRowsModel" "into" "[I" : Cond) ∈ lw_g := mg (List.mem_append_right _ (List.mem_of_getElem? (i := 499) (by decide +kernel))) rfl
theorem m_500 : (.soleField "ReaderRowsModel" "into" : Cond) ∈ lw_g := mg (List.mem_append_right _ (List.mem_of_getElem? (i := 500) (by decide +kernel))) rfl
theorem m_501 : (.laysFinal "ReaderRowsModel" "ReaderRowsModel" "kinds" "[I" : Cond) ∈ lw_g := mg (List.mem_append_right _ (List.mem_of_getElem? (i := 501) (by decide +kernel))) rfl
theorem m_502 : (.soleField "ReaderRowsModel" "kinds" : Cond) ∈ lw_g := mg (List.mem_append_right _ (List.mem_of_getElem? (i := 502) (by decide +kernel))) rfl
theorem m_503 : (.laysFinal "ReaderRowsModel" "ReaderRowsModel" "guardians" "[I" : Cond) ∈ lw_g := mg (List.mem_append_right _ (List.mem_of_getElem? (i := 503) (by decide +kernel))) rfl
theorem m_504 : (.soleField "ReaderRowsModel" "guardians" : Cond) ∈ lw_g := mg (List.mem_append_right _ (List.mem_of_getElem? (i := 504) (by decide +kernel))) rfl
theorem m_505 : (.laysFinal "ReaderRowsModel" "ReaderRowsModel" "consents" "[Z" : Cond) ∈ lw_g := mg (List.mem_append_right _ (List.mem_of_getElem? (i := 505) (by decide +kernel))) rfl
theorem m_506 : (.soleField "ReaderRowsModel" "consents" : Cond) ∈ lw_g := mg (List.mem_append_right _ (List.mem_of_getElem? (i := 506) (by decide +kernel))) rfl
theorem m_507 : (.laysFinal "ReaderRowsModel" "ReaderRowsModel" "blocks" "[J" : Cond) ∈ lw_g := mg (List.mem_append_right _ (List.mem_of_getElem? (i := 507) (by decide +kernel))) rfl
theorem m_508 : (.soleField "ReaderRowsModel" "blocks" : Cond) ∈ lw_g := mg (List.mem_append_right _ (List.mem_of_getElem? (i := 508) (by decide +kernel))) rfl
theorem m_509 : (.laysFinal "ReaderRowsModel" "ReaderRowsModel" "names" "[B" : Cond) ∈ lw_g := mg (List.mem_append_right _ (List.mem_of_getElem? (i := 509) (by decide +kernel))) rfl
theorem m_510 : (.soleField "ReaderRowsModel" "names" : Cond) ∈ lw_g := mg (List.mem_append_right _ (List.mem_of_getElem? (i := 510) (by decide +kernel))) rfl
theorem m_511 : (.laysFinal "ReaderRowsModel" "ReaderRowsModel" "nameSizes" "[I" : Cond) ∈ lw_g := mg (List.mem_append_right _ (List.mem_of_getElem? (i := 511) (by decide +kernel))) rfl
theorem m_512 : (.soleField "ReaderRowsModel" "nameSizes" : Cond) ∈ lw_g := mg (List.mem_append_right _ (List.mem_of_getElem? (i := 512) (by decide +kernel))) rfl
theorem m_513 : (.laysFinal "ReaderRowsModel" "ReaderRowsModel" "years" "[I" : Cond) ∈ lw_g := mg (List.mem_append_right _ (List.mem_of_getElem? (i := 513) (by decide +kernel))) rfl
theorem m_514 : (.soleField "ReaderRowsModel" "years" : Cond) ∈ lw_g := mg (List.mem_append_right _ (List.mem_of_getElem? (i := 514) (by decide +kernel))) rfl
theorem m_515 : (.laysFinal "ReaderRowsModel" "ReaderRowsModel" "cards" "[I" : Cond) ∈ lw_g := mg (List.mem_append_right _ (List.mem_of_getElem? (i := 515) (by decide +kernel))) rfl
theorem m_516 : (.soleField "ReaderRowsModel" "cards" : Cond) ∈ lw_g := mg (List.mem_append_right _ (List.mem_of_getElem? (i := 516) (by decide +kernel))) rfl
theorem m_517 : (.laysFinal "ReaderRowsModel" "ReaderRowsModel" "owners" "[I" : Cond) ∈ lw_g := mg (List.mem_append_right _ (List.mem_of_getElem? (i := 517) (by decide +kernel))) rfl
theorem m_518 : (.soleField "ReaderRowsModel" "owners" : Cond) ∈ lw_g := mg (List.mem_append_right _ (List.mem_of_getElem? (i := 518) (by decide +kernel))) rfl
theorem m_519 : (.laysFinal "ReaderRowsModel" "ReaderRowsModel" "lost" "[Z" : Cond) ∈ lw_g := mg (List.mem_append_right _ (List.mem_of_getElem? (i := 519) (by decide +kernel))) rfl
theorem m_520 : (.soleField "ReaderRowsModel" "lost" : Cond) ∈ lw_g := mg (List.mem_append_right _ (List.mem_of_getElem? (i := 520) (by decide +kernel))) rfl
theorem m_521 : (.lays "ReaderRowsModel" "ReaderRowsModel" "cardCount" "I" : Cond) ∈ lw_g := mg (List.mem_append_right _ (List.mem_of_getElem? (i := 521) (by decide +kernel))) rfl
theorem m_522 : (.soleField "ReaderRowsModel" "cardCount" : Cond) ∈ lw_g := mg (List.mem_append_right _ (List.mem_of_getElem? (i := 522) (by decide +kernel))) rfl
theorem m_523 : (.laysFinal "ReaderRowsModel" "ReaderRowsModel" "loanReader" "[I" : Cond) ∈ lw_g := mg (List.mem_append_right _ (List.mem_of_getElem? (i := 523) (by decide +kernel))) rfl
theorem m_524 : (.soleField "ReaderRowsModel" "loanReader" : Cond) ∈ lw_g := mg (List.mem_append_right _ (List.mem_of_getElem? (i := 524) (by decide +kernel))) rfl
theorem m_525 : (.laysFinal "ReaderRowsModel" "ReaderRowsModel" "loanKind" "[I" : Cond) ∈ lw_g := mg (List.mem_append_right _ (List.mem_of_getElem? (i := 525) (by decide +kernel))) rfl
theorem m_526 : (.soleField "ReaderRowsModel" "loanKind" : Cond) ∈ lw_g := mg (List.mem_append_right _ (List.mem_of_getElem? (i := 526) (by decide +kernel))) rfl
theorem m_527 : (.laysFinal "ReaderRowsModel" "ReaderRowsModel" "loanItem" "[I" : Cond) ∈ lw_g := mg (List.mem_append_right _ (List.mem_of_getElem? (i := 527) (by decide +kernel))) rfl
theorem m_528 : (.soleField "ReaderRowsModel" "loanItem" : Cond) ∈ lw_g := mg (List.mem_append_right _ (List.mem_of_getElem? (i := 528) (by decide +kernel))) rfl
theorem m_529 : (.laysFinal "ReaderRowsModel" "ReaderRowsModel" "loanFrom" "[J" : Cond) ∈ lw_g := mg (List.mem_append_right _ (List.mem_of_getElem? (i := 529) (by decide +kernel))) rfl
theorem m_530 : (.soleField "ReaderRowsModel" "loanFrom" : Cond) ∈ lw_g := mg (List.mem_append_right _ (List.mem_of_getElem? (i := 530) (by decide +kernel))) rfl
theorem m_531 : (.laysFinal "ReaderRowsModel" "ReaderRowsModel" "loanTo" "[J" : Cond) ∈ lw_g := mg (List.mem_append_right _ (List.mem_of_getElem? (i := 531) (by decide +kernel))) rfl
theorem m_532 : (.soleField "ReaderRowsModel" "loanTo" : Cond) ∈ lw_g := mg (List.mem_append_right _ (List.mem_of_getElem? (i := 532) (by decide +kernel))) rfl
theorem m_533 : (.laysFinal "ReaderRowsModel" "ReaderRowsModel" "nobody" "[Z" : Cond) ∈ lw_g := mg (List.mem_append_right _ (List.mem_of_getElem? (i := 533) (by decide +kernel))) rfl
theorem m_534 : (.soleField "ReaderRowsModel" "nobody" : Cond) ∈ lw_g := mg (List.mem_append_right _ (List.mem_of_getElem? (i := 534) (by decide +kernel))) rfl
theorem m_535 : (.lays "ReaderRowsModel" "ReaderRowsModel" "loans" "I" : Cond) ∈ lw_g := mg (List.mem_append_right _ (List.mem_of_getElem? (i := 535) (by decide +kernel))) rfl
theorem m_536 : (.soleField "ReaderRowsModel" "loans" : Cond) ∈ lw_g := mg (List.mem_append_right _ (List.mem_of_getElem? (i := 536) (by decide +kernel))) rfl
theorem m_537 : (.laysFinal "ReaderRowsModel" "ReaderRowsModel" "keeps" "[I" : Cond) ∈ lw_g := mg (List.mem_append_right _ (List.mem_of_getElem? (i := 537) (by decide +kernel))) rfl
theorem m_538 : (.soleField "ReaderRowsModel" "keeps" : Cond) ∈ lw_g := mg (List.mem_append_right _ (List.mem_of_getElem? (i := 538) (by decide +kernel))) rfl
theorem m_539 : (.laysFinal "ReaderRowsModel" "ReaderRowsModel" "said" "[B" : Cond) ∈ lw_g := mg (List.mem_append_right _ (List.mem_of_getElem? (i := 539) (by decide +kernel))) rfl
theorem m_540 : (.soleField "ReaderRowsModel" "said" : Cond) ∈ lw_g := mg (List.mem_append_right _ (List.mem_of_getElem? (i := 540) (by decide +kernel))) rfl
theorem m_541 : (.lays "ReaderRowsModel" "ReaderRowsModel" "size" "I" : Cond) ∈ lw_g := mg (List.mem_append_right _ (List.mem_of_getElem? (i := 541) (by decide +kernel))) rfl
theorem m_542 : (.soleField "ReaderRowsModel" "size" : Cond) ∈ lw_g := mg (List.mem_append_right _ (List.mem_of_getElem? (i := 542) (by decide +kernel))) rfl
theorem m_543 : (.lays "ReaderRowsModel" "ReaderRowsModel" "at" "I" : Cond) ∈ lw_g := mg (List.mem_append_right _ (List.mem_of_getElem? (i := 543) (by decide +kernel))) rfl
theorem m_544 : (.soleField "ReaderRowsModel" "at" : Cond) ∈ lw_g := mg (List.mem_append_right _ (List.mem_of_getElem? (i := 544) (by decide +kernel))) rfl
theorem m_545 : (.laysFinal "ReaderRowsModel" "ReaderRowsModel" "row" "[I" : Cond) ∈ lw_g := mg (List.mem_append_right _ (List.mem_of_getElem? (i := 545) (by decide +kernel))) rfl
theorem m_546 : (.soleField "ReaderRowsModel" "row" : Cond) ∈ lw_g := mg (List.mem_append_right _ (List.mem_of_getElem? (i := 546) (by decide +kernel))) rfl
theorem m_547 : (.laysFinal "ReaderRowsModel" "ReaderRowsModel" "next" "[I" : Cond) ∈ lw_g := mg (List.mem_append_right _ (List.mem_of_getElem? (i := 547) (by decide +kernel))) rfl
theorem m_548 : (.soleField "ReaderRowsModel" "next" : Cond) ∈ lw_g := mg (List.mem_append_right _ (List.mem_of_getElem? (i := 548) (by decide +kernel))) rfl
theorem m_549 : (.superclass "ReaderRowsModel" "java/lang/Object" : Cond) ∈ lw_g := mg (List.mem_append_right _ (List.mem_of_getElem? (i := 549) (by decide +kernel))) rfl
theorem m_550 : (.arrayClass .byte : Cond) ∈ lw_g := mg (List.mem_append_right _ (List.mem_of_getElem? (i := 550) (by decide +kernel))) rfl
theorem m_551 : (.methodLink "ReaderRowsLaw" 17 ⟨"ReaderRowsModel", "reader", "(II)I"⟩ : Cond) ∈ lw_g := mg (List.mem_append_right _ (List.mem_of_getElem? (i := 551) (by decide +kernel))) rfl
theorem m_552 : (.instanceMethod ⟨"ReaderRowsModel", "reader", "(II)I"⟩ : Cond) ∈ lw_g := mg (List.mem_append_right _ (List.mem_of_getElem? (i := 552) (by decide +kernel))) rfl
theorem m_553 : (.selects "ReaderRowsModel" ⟨"ReaderRowsModel", "reader", "(II)I"⟩ ⟨"ReaderRowsModel", "reader", "(II)I"⟩ : Cond) ∈ lw_g := mg (List.mem_append_right _ (List.mem_of_getElem? (i := 553) (by decide +kernel))) rfl
theorem m_554 : (.code ⟨"ReaderRowsModel", "reader", "(II)I"⟩ prog_8_method_6_code 4 (some .int) : Cond) ∈ lw_g := mg (List.mem_append_right _ (List.mem_of_getElem? (i := 554) (by decide +kernel))) rfl
theorem m_555 : (.methodLink "ReaderRowsModel" 87 ⟨"ReaderRowsModel", "who", "(I)I"⟩ : Cond) ∈ lw_g := mg (List.mem_append_right _ (List.mem_of_getElem? (i := 555) (by decide +kernel))) rfl
theorem m_557 : (.instanceMethod ⟨"ReaderRowsModel", "who", "(I)I"⟩ : Cond) ∈ lw_g := mg (List.mem_append_right _ (List.mem_of_getElem? (i := 557) (by decide +kernel))) rfl
theorem m_558 : (.code ⟨"ReaderRowsModel", "who", "(I)I"⟩ prog_8_method_3_code 3 (some .int) : Cond) ∈ lw_g := mg (List.mem_append_right _ (List.mem_of_getElem? (i := 558) (by decide +kernel))) rfl
theorem m_559 : (.methodLink "ReaderRowsModel" 91 ⟨"ReaderRowsModel", "isKind", "(I)Z"⟩ : Cond) ∈ lw_g := mg (List.mem_append_right _ (List.mem_of_getElem? (i := 559) (by decide +kernel))) rfl
theorem m_560 : (.static ⟨"ReaderRowsModel", "isKind", "(I)Z"⟩ : Cond) ∈ lw_g := mg (List.mem_append_right _ (List.mem_of_getElem? (i := 560) (by decide +kernel))) rfl
theorem m_561 : (.code ⟨"ReaderRowsModel", "isKind", "(I)Z"⟩ prog_8_method_5_code 1 (some .boolean) : Cond) ∈ lw_g := mg (List.mem_append_right _ (List.mem_of_getElem? (i := 561) (by decide +kernel))) rfl
theorem m_562 : (.methodLink "ReaderRowsLaw" 21 ⟨"ReaderRowsModel", "card", "(II)I"⟩ : Cond) ∈ lw_g := mg (List.mem_append_right _ (List.mem_of_getElem? (i := 562) (by decide +kernel))) rfl
theorem m_563 : (.instanceMethod ⟨"ReaderRowsModel", "card", "(II)I"⟩ : Cond) ∈ lw_g := mg (List.mem_append_right _ (List.mem_of_getElem? (i := 563) (by decide +kernel))) rfl
theorem m_564 : (.selects "ReaderRowsModel" ⟨"ReaderRowsModel", "card", "(II)I"⟩ ⟨"ReaderRowsModel", "card", "(II)I"⟩ : Cond) ∈ lw_g := mg (List.mem_append_right _ (List.mem_of_getElem? (i := 564) (by decide +kernel))) rfl
theorem m_565 : (.code ⟨"ReaderRowsModel", "card", "(II)I"⟩ prog_8_method_10_code 4 (some .int) : Cond) ∈ lw_g := mg (List.mem_append_right _ (List.mem_of_getElem? (i := 565) (by decide +kernel))) rfl
theorem m_566 : (.methodLink "ReaderRowsModel" 98 ⟨"ReaderRowsModel", "has", "(I)I"⟩ : Cond) ∈ lw_g := mg (List.mem_append_right _ (List.mem_of_getElem? (i := 566) (by decide +kernel))) rfl
theorem m_568 : (.instanceMethod ⟨"ReaderRowsModel", "has", "(I)I"⟩ : Cond) ∈ lw_g := mg (List.mem_append_right _ (List.mem_of_getElem? (i := 568) (by decide +kernel))) rfl
theorem m_569 : (.code ⟨"ReaderRowsModel", "has", "(I)I"⟩ prog_8_method_8_code 4 (some .int) : Cond) ∈ lw_g := mg (List.mem_append_right _ (List.mem_of_getElem? (i := 569) (by decide +kernel))) rfl
theorem m_570 : (.methodLink "ReaderRowsModel" 101 ⟨"ReaderRowsModel", "find", "(I)I"⟩ : Cond) ∈ lw_g := mg (List.mem_append_right _ (List.mem_of_getElem? (i := 570) (by decide +kernel))) rfl
theorem m_572 : (.instanceMethod ⟨"ReaderRowsModel", "find", "(I)I"⟩ : Cond) ∈ lw_g := mg (List.mem_append_right _ (List.mem_of_getElem? (i := 572) (by decide +kernel))) rfl
theorem m_573 : (.code ⟨"ReaderRowsModel", "find", "(I)I"⟩ prog_8_method_7_code 3 (some .int) : Cond) ∈ lw_g := mg (List.mem_append_right _ (List.mem_of_getElem? (i := 573) (by decide +kernel))) rfl
theorem m_574 : (.methodLink "ReaderRowsModel" 104 ⟨"ReaderRowsModel", "add", "(II)V"⟩ : Cond) ∈ lw_g := mg (List.mem_append_right _ (List.mem_of_getElem? (i := 574) (by decide +kernel))) rfl
theorem m_576 : (.instanceMethod ⟨"ReaderRowsModel", "add", "(II)V"⟩ : Cond) ∈ lw_g := mg (List.mem_append_right _ (List.mem_of_getElem? (i := 576) (by decide +kernel))) rfl
theorem m_577 : (.code ⟨"ReaderRowsModel", "add", "(II)V"⟩ prog_8_method_9_code 3 none : Cond) ∈ lw_g := mg (List.mem_append_right _ (List.mem_of_getElem? (i := 577) (by decide +kernel))) rfl
theorem m_578 : (.methodLink "ReaderRowsLaw" 26 ⟨"ReaderRowsModel", "whose", "(I)I"⟩ : Cond) ∈ lw_g := mg (List.mem_append_right _ (List.mem_of_getElem? (i := 578) (by decide +kernel))) rfl
theorem m_579 : (.instanceMethod ⟨"ReaderRowsModel", "whose", "(I)I"⟩ : Cond) ∈ lw_g := mg (List.mem_append_right _ (List.mem_of_getElem? (i := 579) (by decide +kernel))) rfl
theorem m_580 : (.selects "ReaderRowsModel" ⟨"ReaderRowsModel", "whose", "(I)I"⟩ ⟨"ReaderRowsModel", "whose", "(I)I"⟩ : Cond) ∈ lw_g := mg (List.mem_append_right _ (List.mem_of_getElem? (i := 580) (by decide +kernel))) rfl
theorem m_581 : (.code ⟨"ReaderRowsModel", "whose", "(I)I"⟩ prog_8_method_11_code 3 (some .int) : Cond) ∈ lw_g := mg (List.mem_append_right _ (List.mem_of_getElem? (i := 581) (by decide +kernel))) rfl
theorem m_582 : (.methodLink "ReaderRowsLaw" 30 ⟨"ReaderRowsModel", "lost", "(II)I"⟩ : Cond) ∈ lw_g := mg (List.mem_append_right _ (List.mem_of_getElem? (i := 582) (by decide +kernel))) rfl
theorem m_583 : (.instanceMethod ⟨"ReaderRowsModel", "lost", "(II)I"⟩ : Cond) ∈ lw_g := mg (List.mem_append_right _ (List.mem_of_getElem? (i := 583) (by decide +kernel))) rfl
theorem m_584 : (.selects "ReaderRowsModel" ⟨"ReaderRowsModel", "lost", "(II)I"⟩ ⟨"ReaderRowsModel", "lost", "(II)I"⟩ : Cond) ∈ lw_g := mg (List.mem_append_right _ (List.mem_of_getElem? (i := 584) (by decide +kernel))) rfl
theorem m_585 : (.code ⟨"ReaderRowsModel", "lost", "(II)I"⟩ prog_8_method_12_code 4 (some .int) : Cond) ∈ lw_g := mg (List.mem_append_right _ (List.mem_of_getElem? (i := 585) (by decide +kernel))) rfl
theorem m_586 : (.methodLink "ReaderRowsLaw" 37 ⟨"ReaderRowsModel", "block", "(IIJ)I"⟩ : Cond) ∈ lw_g := mg (List.mem_append_right _ (List.mem_of_getElem? (i := 586) (by decide +kernel))) rfl
theorem m_587 : (.instanceMethod ⟨"ReaderRowsModel", "block", "(IIJ)I"⟩ : Cond) ∈ lw_g := mg (List.mem_append_right _ (List.mem_of_getElem? (i := 587) (by decide +kernel))) rfl
theorem m_588 : (.selects "ReaderRowsModel" ⟨"ReaderRowsModel", "block", "(IIJ)I"⟩ ⟨"ReaderRowsModel", "block", "(IIJ)I"⟩ : Cond) ∈ lw_g := mg (List.mem_append_right _ (List.mem_of_getElem? (i := 588) (by decide +kernel))) rfl
theorem m_589 : (.code ⟨"ReaderRowsModel", "block", "(IIJ)I"⟩ prog_8_method_13_code 6 (some .int) : Cond) ∈ lw_g := mg (List.mem_append_right _ (List.mem_of_getElem? (i := 589) (by decide +kernel))) rfl
theorem m_590 : (.methodLink "ReaderRowsModel" 108 ⟨"ReaderRowsModel", "isDay", "(J)Z"⟩ : Cond) ∈ lw_g := mg (List.mem_append_right _ (List.mem_of_getElem? (i := 590) (by decide +kernel))) rfl
theorem m_591 : (.static ⟨"ReaderRowsModel", "isDay", "(J)Z"⟩ : Cond) ∈ lw_g := mg (List.mem_append_right _ (List.mem_of_getElem? (i := 591) (by decide +kernel))) rfl
theorem m_592 : (.code ⟨"ReaderRowsModel", "isDay", "(J)Z"⟩ prog_8_method_4_code 2 (some .boolean) : Cond) ∈ lw_g := mg (List.mem_append_right _ (List.mem_of_getElem? (i := 592) (by decide +kernel))) rfl
theorem m_593 : (.constantLong "ReaderRowsModel" 85 (1000000000) : Cond) ∈ lw_g := mg (List.mem_append_right _ (List.mem_of_getElem? (i := 593) (by decide +kernel))) rfl
theorem m_594 : (.methodLink "ReaderRowsLaw" 42 ⟨"ReaderRowsModel", "blocked", "(IJ)I"⟩ : Cond) ∈ lw_g := mg (List.mem_append_right _ (List.mem_of_getElem? (i := 594) (by decide +kernel))) rfl
theorem m_595 : (.instanceMethod ⟨"ReaderRowsModel", "blocked", "(IJ)I"⟩ : Cond) ∈ lw_g := mg (List.mem_append_right _ (List.mem_of_getElem? (i := 595) (by decide +kernel))) rfl
theorem m_596 : (.selects "ReaderRowsModel" ⟨"ReaderRowsModel", "blocked", "(IJ)I"⟩ ⟨"ReaderRowsModel", "blocked", "(IJ)I"⟩ : Cond) ∈ lw_g := mg (List.mem_append_right _ (List.mem_of_getElem? (i := 596) (by decide +kernel))) rfl
theorem m_597 : (.code ⟨"ReaderRowsModel", "blocked", "(IJ)I"⟩ prog_8_method_14_code 6 (some .int) : Cond) ∈ lw_g := mg (List.mem_append_right _ (List.mem_of_getElem? (i := 597) (by decide +kernel))) rfl
theorem m_598 : (.methodLink "ReaderRowsModel" 112 ⟨"ReaderRowsModel", "lasts", "(IIJ)Z"⟩ : Cond) ∈ lw_g := mg (List.mem_append_right _ (List.mem_of_getElem? (i := 598) (by decide +kernel))) rfl
theorem m_600 : (.instanceMethod ⟨"ReaderRowsModel", "lasts", "(IIJ)Z"⟩ : Cond) ∈ lw_g := mg (List.mem_append_right _ (List.mem_of_getElem? (i := 600) (by decide +kernel))) rfl
theorem m_601 : (.code ⟨"ReaderRowsModel", "lasts", "(IIJ)Z"⟩ prog_8_method_15_code 5 (some .boolean) : Cond) ∈ lw_g := mg (List.mem_append_right _ (List.mem_of_getElem? (i := 601) (by decide +kernel))) rfl
theorem m_602 : (.methodLink "ReaderRowsLaw" 47 ⟨"ReaderRowsModel", "consent", "(IZJ)I"⟩ : Cond) ∈ lw_g := mg (List.mem_append_right _ (List.mem_of_getElem? (i := 602) (by decide +kernel))) rfl
theorem m_603 : (.instanceMethod ⟨"ReaderRowsModel", "consent", "(IZJ)I"⟩ : Cond) ∈ lw_g := mg (List.mem_append_right _ (List.mem_of_getElem? (i := 603) (by decide +kernel))) rfl
theorem m_604 : (.selects "ReaderRowsModel" ⟨"ReaderRowsModel", "consent", "(IZJ)I"⟩ ⟨"ReaderRowsModel", "consent", "(IZJ)I"⟩ : Cond) ∈ lw_g := mg (List.mem_append_right _ (List.mem_of_getElem? (i := 604) (by decide +kernel))) rfl
theorem m_605 : (.code ⟨"ReaderRowsModel", "consent", "(IZJ)I"⟩ prog_8_method_18_code 7 (some .int) : Cond) ∈ lw_g := mg (List.mem_append_right _ (List.mem_of_getElem? (i := 605) (by decide +kernel))) rfl
theorem m_606 : (.methodLink "ReaderRowsModel" 123 ⟨"ReaderRowsModel", "forget", "(IJ)I"⟩ : Cond) ∈ lw_g := mg (List.mem_append_right _ (List.mem_of_getElem? (i := 606) (by decide +kernel))) rfl
theorem m_608 : (.instanceMethod ⟨"ReaderRowsModel", "forget", "(IJ)I"⟩ : Cond) ∈ lw_g := mg (List.mem_append_right _ (List.mem_of_getElem? (i := 608) (by decide +kernel))) rfl
theorem m_609 : (.code ⟨"ReaderRowsModel", "forget", "(IJ)I"⟩ prog_8_method_17_code 6 (some .int) : Cond) ∈ lw_g := mg (List.mem_append_right _ (List.mem_of_getElem? (i := 609) (by decide +kernel))) rfl
theorem m_610 : (.methodLink "ReaderRowsModel" 119 ⟨"ReaderRowsModel", "isKept", "(IJ)Z"⟩ : Cond) ∈ lw_g := mg (List.mem_append_right _ (List.mem_of_getElem? (i := 610) (by decide +kernel))) rfl
theorem m_612 : (.instanceMethod ⟨"ReaderRowsModel", "isKept", "(IJ)Z"⟩ : Cond) ∈ lw_g := mg (List.mem_append_right _ (List.mem_of_getElem? (i := 612) (by decide +kernel))) rfl
theorem m_613 : (.code ⟨"ReaderRowsModel", "isKept", "(IJ)Z"⟩ prog_8_method_16_code 5 (some .boolean) : Cond) ∈ lw_g := mg (List.mem_append_right _ (List.mem_of_getElem? (i := 613) (by decide +kernel))) rfl
theorem m_614 : (.methodLink "ReaderRowsLaw" 51 ⟨"ReaderRowsModel", "keeps", "(II)I"⟩ : Cond) ∈ lw_g := mg (List.mem_append_right _ (List.mem_of_getElem? (i := 614) (by decide +kernel))) rfl
theorem m_615 : (.instanceMethod ⟨"ReaderRowsModel", "keeps", "(II)I"⟩ : Cond) ∈ lw_g := mg (List.mem_append_right _ (List.mem_of_getElem? (i := 615) (by decide +kernel))) rfl
theorem m_616 : (.selects "ReaderRowsModel" ⟨"ReaderRowsModel", "keeps", "(II)I"⟩ ⟨"ReaderRowsModel", "keeps", "(II)I"⟩ : Cond) ∈ lw_g := mg (List.mem_append_right _ (List.mem_of_getElem? (i := 616) (by decide +kernel))) rfl
theorem m_617 : (.code ⟨"ReaderRowsModel", "keeps", "(II)I"⟩ prog_8_method_19_code 4 (some .int) : Cond) ∈ lw_g := mg (List.mem_append_right _ (List.mem_of_getElem? (i := 617) (by decide +kernel))) rfl
theorem m_618 : (.constant "ReaderRowsModel" 127 (100000) : Cond) ∈ lw_g := mg (List.mem_append_right _ (List.mem_of_getElem? (i := 618) (by decide +kernel))) rfl
theorem m_619 : (.methodLink "ReaderRowsLaw" 56 ⟨"ReaderRowsModel", "loan", "(IIJJ)I"⟩ : Cond) ∈ lw_g := mg (List.mem_append_right _ (List.mem_of_getElem? (i := 619) (by decide +kernel))) rfl
theorem m_620 : (.instanceMethod ⟨"ReaderRowsModel", "loan", "(IIJJ)I"⟩ : Cond) ∈ lw_g := mg (List.mem_append_right _ (List.mem_of_getElem? (i := 620) (by decide +kernel))) rfl
theorem m_621 : (.selects "ReaderRowsModel" ⟨"ReaderRowsModel", "loan", "(IIJJ)I"⟩ ⟨"ReaderRowsModel", "loan", "(IIJJ)I"⟩ : Cond) ∈ lw_g := mg (List.mem_append_right _ (List.mem_of_getElem? (i := 621) (by decide +kernel))) rfl
theorem m_622 : (.code ⟨"ReaderRowsModel", "loan", "(IIJJ)I"⟩ prog_8_method_20_code 8 (some .int) : Cond) ∈ lw_g := mg (List.mem_append_right _ (List.mem_of_getElem? (i := 622) (by decide +kernel))) rfl
theorem m_623 : (.methodLink "ReaderRowsLaw" 60 ⟨"ReaderRowsModel", "kept", "(IIJ)I"⟩ : Cond) ∈ lw_g := mg (List.mem_append_right _ (List.mem_of_getElem? (i := 623) (by decide +kernel))) rfl
theorem m_624 : (.instanceMethod ⟨"ReaderRowsModel", "kept", "(IIJ)I"⟩ : Cond) ∈ lw_g := mg (List.mem_append_right _ (List.mem_of_getElem? (i := 624) (by decide +kernel))) rfl
theorem m_625 : (.selects "ReaderRowsModel" ⟨"ReaderRowsModel", "kept", "(IIJ)I"⟩ ⟨"ReaderRowsModel", "kept", "(IIJ)I"⟩ : Cond) ∈ lw_g := mg (List.mem_append_right _ (List.mem_of_getElem? (i := 625) (by decide +kernel))) rfl
theorem m_626 : (.code ⟨"ReaderRowsModel", "kept", "(IIJ)I"⟩ prog_8_method_22_code 9 (some .int) : Cond) ∈ lw_g := mg (List.mem_append_right _ (List.mem_of_getElem? (i := 626) (by decide +kernel))) rfl
theorem m_627 : (.methodLink "ReaderRowsModel" 128 ⟨"ReaderRowsModel", "isFor", "(IIJ)Z"⟩ : Cond) ∈ lw_g := mg (List.mem_append_right _ (List.mem_of_getElem? (i := 627) (by decide +kernel))) rfl
theorem m_629 : (.instanceMethod ⟨"ReaderRowsModel", "isFor", "(IIJ)Z"⟩ : Cond) ∈ lw_g := mg (List.mem_append_right _ (List.mem_of_getElem? (i := 629) (by decide +kernel))) rfl
theorem m_630 : (.code ⟨"ReaderRowsModel", "isFor", "(IIJ)Z"⟩ prog_8_method_21_code 5 (some .boolean) : Cond) ∈ lw_g := mg (List.mem_append_right _ (List.mem_of_getElem? (i := 630) (by decide +kernel))) rfl
theorem m_631 : (.constant "ReaderRowsModel" 131 (-1000000007) : Cond) ∈ lw_g := mg (List.mem_append_right _ (List.mem_of_getElem? (i := 631) (by decide +kernel))) rfl
theorem m_632 : (.methodLink "ReaderRowsLaw" 65 ⟨"ReaderRowsModel", "anonymise", "(J)I"⟩ : Cond) ∈ lw_g := mg (List.mem_append_right _ (List.mem_of_getElem? (i := 632) (by decide +kernel))) rfl
theorem m_633 : (.instanceMethod ⟨"ReaderRowsModel", "anonymise", "(J)I"⟩ : Cond) ∈ lw_g := mg (List.mem_append_right _ (List.mem_of_getElem? (i := 633) (by decide +kernel))) rfl
theorem m_634 : (.selects "ReaderRowsModel" ⟨"ReaderRowsModel", "anonymise", "(J)I"⟩ ⟨"ReaderRowsModel", "anonymise", "(J)I"⟩ : Cond) ∈ lw_g := mg (List.mem_append_right _ (List.mem_of_getElem? (i := 634) (by decide +kernel))) rfl
theorem m_635 : (.code ⟨"ReaderRowsModel", "anonymise", "(J)I"⟩ prog_8_method_23_code 3 (some .int) : Cond) ∈ lw_g := mg (List.mem_append_right _ (List.mem_of_getElem? (i := 635) (by decide +kernel))) rfl
theorem m_636 : (.methodLink "ReaderRowsLaw" 69 ⟨"ReaderRowsModel", "join", "(II)I"⟩ : Cond) ∈ lw_g := mg (List.mem_append_right _ (List.mem_of_getElem? (i := 636) (by decide +kernel))) rfl
theorem m_637 : (.instanceMethod ⟨"ReaderRowsModel", "join", "(II)I"⟩ : Cond) ∈ lw_g := mg (List.mem_append_right _ (List.mem_of_getElem? (i := 637) (by decide +kernel))) rfl
theorem m_638 : (.selects "ReaderRowsModel" ⟨"ReaderRowsModel", "join", "(II)I"⟩ ⟨"ReaderRowsModel", "join", "(II)I"⟩ : Cond) ∈ lw_g := mg (List.mem_append_right _ (List.mem_of_getElem? (i := 638) (by decide +kernel))) rfl
theorem m_639 : (.code ⟨"ReaderRowsModel", "join", "(II)I"⟩ prog_8_method_24_code 6 (some .int) : Cond) ∈ lw_g := mg (List.mem_append_right _ (List.mem_of_getElem? (i := 639) (by decide +kernel))) rfl
theorem m_640 : (.methodLink "ReaderRowsLaw" 73 ⟨"ReaderRowsModel", "family", "(II)I"⟩ : Cond) ∈ lw_g := mg (List.mem_append_right _ (List.mem_of_getElem? (i := 640) (by decide +kernel))) rfl
theorem m_641 : (.instanceMethod ⟨"ReaderRowsModel", "family", "(II)I"⟩ : Cond) ∈ lw_g := mg (List.mem_append_right _ (List.mem_of_getElem? (i := 641) (by decide +kernel))) rfl
theorem m_642 : (.selects "ReaderRowsModel" ⟨"ReaderRowsModel", "family", "(II)I"⟩ ⟨"ReaderRowsModel", "family", "(II)I"⟩ : Cond) ∈ lw_g := mg (List.mem_append_right _ (List.mem_of_getElem? (i := 642) (by decide +kernel))) rfl
theorem m_643 : (.code ⟨"ReaderRowsModel", "family", "(II)I"⟩ prog_8_method_25_code 7 (some .int) : Cond) ∈ lw_g := mg (List.mem_append_right _ (List.mem_of_getElem? (i := 643) (by decide +kernel))) rfl
theorem m_644 : (.methodLink "ReaderRowsLaw" 78 ⟨"ReaderRowsModel", "sign", "(I)V"⟩ : Cond) ∈ lw_g := mg (List.mem_append_right _ (List.mem_of_getElem? (i := 644) (by decide +kernel))) rfl
theorem m_645 : (.instanceMethod ⟨"ReaderRowsModel", "sign", "(I)V"⟩ : Cond) ∈ lw_g := mg (List.mem_append_right _ (List.mem_of_getElem? (i := 645) (by decide +kernel))) rfl
theorem m_646 : (.selects "ReaderRowsModel" ⟨"ReaderRowsModel", "sign", "(I)V"⟩ ⟨"ReaderRowsModel", "sign", "(I)V"⟩ : Cond) ∈ lw_g := mg (List.mem_append_right _ (List.mem_of_getElem? (i := 646) (by decide +kernel))) rfl
theorem m_647 : (.code ⟨"ReaderRowsModel", "sign", "(I)V"⟩ prog_8_method_26_code 2 none : Cond) ∈ lw_g := mg (List.mem_append_right _ (List.mem_of_getElem? (i := 647) (by decide +kernel))) rfl
theorem m_648 : (.methodLink "ReaderRowsLaw" 83 ⟨"ReaderRowsModel", "import0", "()I"⟩ : Cond) ∈ lw_g := mg (List.mem_append_right _ (List.mem_of_getElem? (i := 648) (by decide +kernel))) rfl
theorem m_649 : (.instanceMethod ⟨"ReaderRowsModel", "import0", "()I"⟩ : Cond) ∈ lw_g := mg (List.mem_append_right _ (List.mem_of_getElem? (i := 649) (by decide +kernel))) rfl
theorem m_650 : (.selects "ReaderRowsModel" ⟨"ReaderRowsModel", "import0", "()I"⟩ ⟨"ReaderRowsModel", "import0", "()I"⟩ : Cond) ∈ lw_g := mg (List.mem_append_right _ (List.mem_of_getElem? (i := 650) (by decide +kernel))) rfl
theorem m_651 : (.code ⟨"ReaderRowsModel", "import0", "()I"⟩ prog_8_method_31_code 7 (some .int) : Cond) ∈ lw_g := mg (List.mem_append_right _ (List.mem_of_getElem? (i := 651) (by decide +kernel))) rfl
theorem m_652 : (.methodLink "ReaderRowsModel" 145 ⟨"ReaderRowsModel", "reads", "()Z"⟩ : Cond) ∈ lw_g := mg (List.mem_append_right _ (List.mem_of_getElem? (i := 652) (by decide +kernel))) rfl
theorem m_654 : (.instanceMethod ⟨"ReaderRowsModel", "reads", "()Z"⟩ : Cond) ∈ lw_g := mg (List.mem_append_right _ (List.mem_of_getElem? (i := 654) (by decide +kernel))) rfl
theorem m_655 : (.code ⟨"ReaderRowsModel", "reads", "()Z"⟩ prog_8_method_30_code 2 (some .boolean) : Cond) ∈ lw_g := mg (List.mem_append_right _ (List.mem_of_getElem? (i := 655) (by decide +kernel))) rfl
theorem m_656 : (.methodLink "ReaderRowsModel" 142 ⟨"ReaderRowsModel", "letters", "()I"⟩ : Cond) ∈ lw_g := mg (List.mem_append_right _ (List.mem_of_getElem? (i := 656) (by decide +kernel))) rfl
theorem m_658 : (.instanceMethod ⟨"ReaderRowsModel", "letters", "()I"⟩ : Cond) ∈ lw_g := mg (List.mem_append_right _ (List.mem_of_getElem? (i := 658) (by decide +kernel))) rfl
theorem m_659 : (.code ⟨"ReaderRowsModel", "letters", "()I"⟩ prog_8_method_28_code 2 (some .int) : Cond) ∈ lw_g := mg (List.mem_append_right _ (List.mem_of_getElem? (i := 659) (by decide +kernel))) rfl
theorem m_660 : (.methodLink "ReaderRowsModel" 138 ⟨"ReaderRowsModel", "look", "()I"⟩ : Cond) ∈ lw_g := mg (List.mem_append_right _ (List.mem_of_getElem? (i := 660) (by decide +kernel))) rfl
theorem m_662 : (.instanceMethod ⟨"ReaderRowsModel", "look", "()I"⟩ : Cond) ∈ lw_g := mg (List.mem_append_right _ (List.mem_of_getElem? (i := 662) (by decide +kernel))) rfl
theorem m_663 : (.code ⟨"ReaderRowsModel", "look", "()I"⟩ prog_8_method_27_code 1 (some .int) : Cond) ∈ lw_g := mg (List.mem_append_right _ (List.mem_of_getElem? (i := 663) (by decide +kernel))) rfl
theorem m_664 : (.methodLink "ReaderRowsModel" 149 ⟨"ReaderRowsModel", "isNamed", "(II)Z"⟩ : Cond) ∈ lw_g := mg (List.mem_append_right _ (List.mem_of_getElem? (i := 664) (by decide +kernel))) rfl
theorem m_666 : (.instanceMethod ⟨"ReaderRowsModel", "isNamed", "(II)Z"⟩ : Cond) ∈ lw_g := mg (List.mem_append_right _ (List.mem_of_getElem? (i := 666) (by decide +kernel))) rfl
theorem m_667 : (.code ⟨"ReaderRowsModel", "isNamed", "(II)Z"⟩ prog_8_method_29_code 5 (some .boolean) : Cond) ∈ lw_g := mg (List.mem_append_right _ (List.mem_of_getElem? (i := 667) (by decide +kernel))) rfl
theorem m_668 : (.methodLink "ReaderRowsLaw" 87 ⟨"ReaderRowsModel", "like", "()I"⟩ : Cond) ∈ lw_g := mg (List.mem_append_right _ (List.mem_of_getElem? (i := 668) (by decide +kernel))) rfl
theorem m_669 : (.instanceMethod ⟨"ReaderRowsModel", "like", "()I"⟩ : Cond) ∈ lw_g := mg (List.mem_append_right _ (List.mem_of_getElem? (i := 669) (by decide +kernel))) rfl
theorem m_670 : (.selects "ReaderRowsModel" ⟨"ReaderRowsModel", "like", "()I"⟩ ⟨"ReaderRowsModel", "like", "()I"⟩ : Cond) ∈ lw_g := mg (List.mem_append_right _ (List.mem_of_getElem? (i := 670) (by decide +kernel))) rfl
theorem m_671 : (.code ⟨"ReaderRowsModel", "like", "()I"⟩ prog_8_method_33_code 7 (some .int) : Cond) ∈ lw_g := mg (List.mem_append_right _ (List.mem_of_getElem? (i := 671) (by decide +kernel))) rfl
theorem m_672 : (.methodLink "ReaderRowsModel" 153 ⟨"ReaderRowsModel", "far", "(II)I"⟩ : Cond) ∈ lw_g := mg (List.mem_append_right _ (List.mem_of_getElem? (i := 672) (by decide +kernel))) rfl
theorem m_674 : (.instanceMethod ⟨"ReaderRowsModel", "far", "(II)I"⟩ : Cond) ∈ lw_g := mg (List.mem_append_right _ (List.mem_of_getElem? (i := 674) (by decide +kernel))) rfl
theorem m_675 : (.code ⟨"ReaderRowsModel", "far", "(II)I"⟩ prog_8_method_32_code 8 (some .int) : Cond) ∈ lw_g := mg (List.mem_append_right _ (List.mem_of_getElem? (i := 675) (by decide +kernel))) rfl
theorem m_676 : (.methodLink "ReaderRowsLaw" 91 ⟨"ReaderRowsModel", "about", "(II)I"⟩ : Cond) ∈ lw_g := mg (List.mem_append_right _ (List.mem_of_getElem? (i := 676) (by decide +kernel))) rfl
theorem m_677 : (.instanceMethod ⟨"ReaderRowsModel", "about", "(II)I"⟩ : Cond) ∈ lw_g := mg (List.mem_append_right _ (List.mem_of_getElem? (i := 677) (by decide +kernel))) rfl
theorem m_678 : (.selects "ReaderRowsModel" ⟨"ReaderRowsModel", "about", "(II)I"⟩ ⟨"ReaderRowsModel", "about", "(II)I"⟩ : Cond) ∈ lw_g := mg (List.mem_append_right _ (List.mem_of_getElem? (i := 678) (by decide +kernel))) rfl
theorem m_679 : (.code ⟨"ReaderRowsModel", "about", "(II)I"⟩ prog_8_method_34_code 6 (some .int) : Cond) ∈ lw_g := mg (List.mem_append_right _ (List.mem_of_getElem? (i := 679) (by decide +kernel))) rfl
theorem m_680 : (.methodLink "ReaderRowsLaw" 96 ⟨"ReaderRowsModel", "statistics", "(IJJ)I"⟩ : Cond) ∈ lw_g := mg (List.mem_append_right _ (List.mem_of_getElem? (i := 680) (by decide +kernel))) rfl
theorem m_681 : (.instanceMethod ⟨"ReaderRowsModel", "statistics", "(IJJ)I"⟩ : Cond) ∈ lw_g := mg (List.mem_append_right _ (List.mem_of_getElem? (i := 681) (by decide +kernel))) rfl
theorem m_682 : (.selects "ReaderRowsModel" ⟨"ReaderRowsModel", "statistics", "(IJJ)I"⟩ ⟨"ReaderRowsModel", "statistics", "(IJJ)I"⟩ : Cond) ∈ lw_g := mg (List.mem_append_right _ (List.mem_of_getElem? (i := 682) (by decide +kernel))) rfl
theorem m_683 : (.code ⟨"ReaderRowsModel", "statistics", "(IJJ)I"⟩ prog_8_method_35_code 8 (some .int) : Cond) ∈ lw_g := mg (List.mem_append_right _ (List.mem_of_getElem? (i := 683) (by decide +kernel))) rfl
theorem m_684 : (.constantLong "ReaderRowsLaw" 31 (4294967295) : Cond) ∈ lw_g := mg (List.mem_append_right _ (List.mem_of_getElem? (i := 684) (by decide +kernel))) rfl
theorem ms_0 : (.selects "ReaderRows$Cards" ⟨"ReaderRows$Cards", "placeOf", "(I)I"⟩ ⟨"ReaderRows$Cards", "placeOf", "(I)I"⟩ : Cond) ∈ lw_g := mg (List.mem_append_left _ (List.mem_of_getElem? (i := 0) (by decide +kernel))) rfl
theorem ms_1 : (.selects "ReaderRows" ⟨"ReaderRows", "anonymiseLoansOf", "(IJ)I"⟩ ⟨"ReaderRows", "anonymiseLoansOf", "(IJ)I"⟩ : Cond) ∈ lw_g := mg (List.mem_append_left _ (List.mem_of_getElem? (i := 1) (by decide +kernel))) rfl
theorem ms_2 : (.selects "ReaderRows" ⟨"ReaderRows", "anonymiseUnlessKept", "(IJ)Z"⟩ ⟨"ReaderRows", "anonymiseUnlessKept", "(IJ)Z"⟩ : Cond) ∈ lw_g := mg (List.mem_append_left _ (List.mem_of_getElem? (i := 2) (by decide +kernel))) rfl
theorem ms_3 : (.selects "ReaderRows" ⟨"ReaderRows", "isKept", "(IJ)Z"⟩ ⟨"ReaderRows", "isKept", "(IJ)Z"⟩ : Cond) ∈ lw_g := mg (List.mem_append_left _ (List.mem_of_getElem? (i := 3) (by decide +kernel))) rfl
theorem ms_4 : (.selects "ReaderRows$Loans" ⟨"ReaderRows$Loans", "putInOrder", "(I)V"⟩ ⟨"ReaderRows$Loans", "putInOrder", "(I)V"⟩ : Cond) ∈ lw_g := mg (List.mem_append_left _ (List.mem_of_getElem? (i := 4) (by decide +kernel))) rfl
theorem ms_5 : (.selects "ReaderRows" ⟨"ReaderRows", "mayJoin", "(II)Z"⟩ ⟨"ReaderRows", "mayJoin", "(II)Z"⟩ : Cond) ∈ lw_g := mg (List.mem_append_left _ (List.mem_of_getElem? (i := 5) (by decide +kernel))) rfl
theorem ms_6 : (.selects "ReaderRows$Row" ⟨"ReaderRows$Row", "readName", "()V"⟩ ⟨"ReaderRows$Row", "readName", "()V"⟩ : Cond) ∈ lw_g := mg (List.mem_append_left _ (List.mem_of_getElem? (i := 6) (by decide +kernel))) rfl
theorem ms_7 : (.selects "ReaderRows$Row" ⟨"ReaderRows$Row", "isAmong", "(III)Z"⟩ ⟨"ReaderRows$Row", "isAmong", "(III)Z"⟩ : Cond) ∈ lw_g := mg (List.mem_append_left _ (List.mem_of_getElem? (i := 7) (by decide +kernel))) rfl
theorem ms_8 : (.selects "ReaderRows$Row" ⟨"ReaderRows$Row", "readYear", "(I)I"⟩ ⟨"ReaderRows$Row", "readYear", "(I)I"⟩ : Cond) ∈ lw_g := mg (List.mem_append_left _ (List.mem_of_getElem? (i := 8) (by decide +kernel))) rfl
theorem ms_9 : (.selects "ReaderRows" ⟨"ReaderRows", "importFittingRow", "()I"⟩ ⟨"ReaderRows", "importFittingRow", "()I"⟩ : Cond) ∈ lw_g := mg (List.mem_append_left _ (List.mem_of_getElem? (i := 9) (by decide +kernel))) rfl
theorem ms_10 : (.selects "ReaderRows" ⟨"ReaderRows", "firstNamed", "()I"⟩ ⟨"ReaderRows", "firstNamed", "()I"⟩ : Cond) ∈ lw_g := mg (List.mem_append_left _ (List.mem_of_getElem? (i := 10) (by decide +kernel))) rfl
theorem ms_11 : (.selects "ReaderRows$Names" ⟨"ReaderRows$Names", "letterAt", "(II)I"⟩ ⟨"ReaderRows$Names", "letterAt", "(II)I"⟩ : Cond) ∈ lw_g := mg (List.mem_append_left _ (List.mem_of_getElem? (i := 11) (by decide +kernel))) rfl
theorem ms_12 : (.selects "ReaderRows" ⟨"ReaderRows", "nearestNamed", "()I"⟩ ⟨"ReaderRows", "nearestNamed", "()I"⟩ : Cond) ∈ lw_g := mg (List.mem_append_left _ (List.mem_of_getElem? (i := 12) (by decide +kernel))) rfl
theorem ms_13 : (.selects "ReaderRowsModel" ⟨"ReaderRowsModel", "who", "(I)I"⟩ ⟨"ReaderRowsModel", "who", "(I)I"⟩ : Cond) ∈ lw_g := mg (List.mem_append_left _ (List.mem_of_getElem? (i := 13) (by decide +kernel))) rfl
theorem ms_14 : (.selects "ReaderRowsModel" ⟨"ReaderRowsModel", "has", "(I)I"⟩ ⟨"ReaderRowsModel", "has", "(I)I"⟩ : Cond) ∈ lw_g := mg (List.mem_append_left _ (List.mem_of_getElem? (i := 14) (by decide +kernel))) rfl
theorem ms_15 : (.selects "ReaderRowsModel" ⟨"ReaderRowsModel", "find", "(I)I"⟩ ⟨"ReaderRowsModel", "find", "(I)I"⟩ : Cond) ∈ lw_g := mg (List.mem_append_left _ (List.mem_of_getElem? (i := 15) (by decide +kernel))) rfl
theorem ms_16 : (.selects "ReaderRowsModel" ⟨"ReaderRowsModel", "add", "(II)V"⟩ ⟨"ReaderRowsModel", "add", "(II)V"⟩ : Cond) ∈ lw_g := mg (List.mem_append_left _ (List.mem_of_getElem? (i := 16) (by decide +kernel))) rfl
theorem ms_17 : (.selects "ReaderRowsModel" ⟨"ReaderRowsModel", "lasts", "(IIJ)Z"⟩ ⟨"ReaderRowsModel", "lasts", "(IIJ)Z"⟩ : Cond) ∈ lw_g := mg (List.mem_append_left _ (List.mem_of_getElem? (i := 17) (by decide +kernel))) rfl
theorem ms_18 : (.selects "ReaderRowsModel" ⟨"ReaderRowsModel", "forget", "(IJ)I"⟩ ⟨"ReaderRowsModel", "forget", "(IJ)I"⟩ : Cond) ∈ lw_g := mg (List.mem_append_left _ (List.mem_of_getElem? (i := 18) (by decide +kernel))) rfl
theorem ms_19 : (.selects "ReaderRowsModel" ⟨"ReaderRowsModel", "isKept", "(IJ)Z"⟩ ⟨"ReaderRowsModel", "isKept", "(IJ)Z"⟩ : Cond) ∈ lw_g := mg (List.mem_append_left _ (List.mem_of_getElem? (i := 19) (by decide +kernel))) rfl
theorem ms_20 : (.selects "ReaderRowsModel" ⟨"ReaderRowsModel", "isFor", "(IIJ)Z"⟩ ⟨"ReaderRowsModel", "isFor", "(IIJ)Z"⟩ : Cond) ∈ lw_g := mg (List.mem_append_left _ (List.mem_of_getElem? (i := 20) (by decide +kernel))) rfl
theorem ms_21 : (.selects "ReaderRowsModel" ⟨"ReaderRowsModel", "reads", "()Z"⟩ ⟨"ReaderRowsModel", "reads", "()Z"⟩ : Cond) ∈ lw_g := mg (List.mem_append_left _ (List.mem_of_getElem? (i := 21) (by decide +kernel))) rfl
theorem ms_22 : (.selects "ReaderRowsModel" ⟨"ReaderRowsModel", "letters", "()I"⟩ ⟨"ReaderRowsModel", "letters", "()I"⟩ : Cond) ∈ lw_g := mg (List.mem_append_left _ (List.mem_of_getElem? (i := 22) (by decide +kernel))) rfl
theorem ms_23 : (.selects "ReaderRowsModel" ⟨"ReaderRowsModel", "look", "()I"⟩ ⟨"ReaderRowsModel", "look", "()I"⟩ : Cond) ∈ lw_g := mg (List.mem_append_left _ (List.mem_of_getElem? (i := 23) (by decide +kernel))) rfl
theorem ms_24 : (.selects "ReaderRowsModel" ⟨"ReaderRowsModel", "isNamed", "(II)Z"⟩ ⟨"ReaderRowsModel", "isNamed", "(II)Z"⟩ : Cond) ∈ lw_g := mg (List.mem_append_left _ (List.mem_of_getElem? (i := 24) (by decide +kernel))) rfl
theorem ms_25 : (.selects "ReaderRowsModel" ⟨"ReaderRowsModel", "far", "(II)I"⟩ ⟨"ReaderRowsModel", "far", "(II)I"⟩ : Cond) ∈ lw_g := mg (List.mem_append_left _ (List.mem_of_getElem? (i := 25) (by decide +kernel))) rfl
theorem inX0 : ∀ w ∈ u_ws "ReaderRows$Cards" TX0 4, w ∈ lw_g := by
  intro w hw
  obtain ⟨k, hk, rfl⟩ := List.mem_map.mp hw
  have hk := List.mem_range.mp hk
  rcases (show k = 0 ∨ k = 1 ∨ k = 2 ∨ k = 3 by omega) with rfl | rfl | rfl | rfl
  · exact m_76
  · exact m_78
  · exact m_80
  · exact m_82
theorem inX1 : ∀ w ∈ u_ws "ReaderRows$Loans" TX1 8, w ∈ lw_g := by
  intro w hw
  obtain ⟨k, hk, rfl⟩ := List.mem_map.mp hw
  have hk := List.mem_range.mp hk
  rcases (show k = 0 ∨ k = 1 ∨ k = 2 ∨ k = 3 ∨ k = 4 ∨ k = 5 ∨ k = 6 ∨ k = 7 by omega) with rfl | rfl | rfl | rfl | rfl | rfl | rfl | rfl
  · exact m_99
  · exact m_101
  · exact m_103
  · exact m_105
  · exact m_107
  · exact m_109
  · exact m_111
  · exact m_113
theorem inX2 : ∀ w ∈ u_ws "ReaderRows$Names" TX2 4, w ∈ lw_g := by
  intro w hw
  obtain ⟨k, hk, rfl⟩ := List.mem_map.mp hw
  have hk := List.mem_range.mp hk
  rcases (show k = 0 ∨ k = 1 ∨ k = 2 ∨ k = 3 by omega) with rfl | rfl | rfl | rfl
  · exact m_56
  · exact m_58
  · exact m_60
  · exact m_62
theorem inX3 : ∀ w ∈ u_ws "ReaderRows$Readers" TX3 6, w ∈ lw_g := by
  intro w hw
  obtain ⟨k, hk, rfl⟩ := List.mem_map.mp hw
  have hk := List.mem_range.mp hk
  rcases (show k = 0 ∨ k = 1 ∨ k = 2 ∨ k = 3 ∨ k = 4 ∨ k = 5 by omega) with rfl | rfl | rfl | rfl | rfl | rfl
  · exact m_30
  · exact m_32
  · exact m_34
  · exact m_36
  · exact m_38
  · exact m_40
theorem inX4 : ∀ w ∈ u_ws "ReaderRows$Row" TX4 5, w ∈ lw_g := by
  intro w hw
  obtain ⟨k, hk, rfl⟩ := List.mem_map.mp hw
  have hk := List.mem_range.mp hk
  rcases (show k = 0 ∨ k = 1 ∨ k = 2 ∨ k = 3 ∨ k = 4 by omega) with rfl | rfl | rfl | rfl | rfl
  · exact m_127
  · exact m_129
  · exact m_131
  · exact m_133
  · exact m_135
theorem inX5 : ∀ w ∈ u_ws "ReaderRows" TX5 6, w ∈ lw_g := by
  intro w hw
  obtain ⟨k, hk, rfl⟩ := List.mem_map.mp hw
  have hk := List.mem_range.mp hk
  rcases (show k = 0 ∨ k = 1 ∨ k = 2 ∨ k = 3 ∨ k = 4 ∨ k = 5 by omega) with rfl | rfl | rfl | rfl | rfl | rfl
  · exact m_144
  · exact m_146
  · exact m_148
  · exact m_150
  · exact m_152
  · exact m_154
theorem inX6 : ∀ w ∈ u_ws "ReaderRowsModel" TX6 27, w ∈ lw_g := by
  intro w hw
  obtain ⟨k, hk, rfl⟩ := List.mem_map.mp hw
  have hk := List.mem_range.mp hk
  rcases (show k = 0 ∨ k = 1 ∨ k = 2 ∨ k = 3 ∨ k = 4 ∨ k = 5 ∨ k = 6 ∨ k = 7 ∨ k = 8 ∨ k = 9 ∨ k = 10 ∨ k = 11 ∨ k = 12 ∨ k = 13 ∨ k = 14 ∨ k = 15 ∨ k = 16 ∨ k = 17 ∨ k = 18 ∨ k = 19 ∨ k = 20 ∨ k = 21 ∨ k = 22 ∨ k = 23 ∨ k = 24 ∨ k = 25 ∨ k = 26 by omega) with rfl | rfl | rfl | rfl | rfl | rfl | rfl | rfl | rfl | rfl | rfl | rfl | rfl | rfl | rfl | rfl | rfl | rfl | rfl | rfl | rfl | rfl | rfl | rfl | rfl | rfl | rfl
  · exact m_495
  · exact m_497
  · exact m_499
  · exact m_501
  · exact m_503
  · exact m_505
  · exact m_507
  · exact m_509
  · exact m_511
  · exact m_513
  · exact m_515
  · exact m_517
  · exact m_519
  · exact m_521
  · exact m_523
  · exact m_525
  · exact m_527
  · exact m_529
  · exact m_531
  · exact m_533
  · exact m_535
  · exact m_537
  · exact m_539
  · exact m_541
  · exact m_543
  · exact m_545
  · exact m_547
theorem lw_good : ∀ w ∈ lw_g, goodWord w = true := fun w hw => (List.mem_filter.mp hw).2
theorem lw_goodIn : GoodIn lw_g lw_g := fun w hw => ⟨hw, good_of_word (lw_good w hw)⟩
theorem gd1 {w : Cond} (h : w ∈ lw_g) : w ∈ lw_g ∧ ((w.onTables && w.keeps) = true ∨ ∃ ty, w = .arrayClass ty) := lw_goodIn w h
theorem gdC {y : MethodName} {b : ByteArray} {n : Nat} {r : Option FieldType} (h : Cond.code y b n r ∈ lw_g) : GoodIn lw_g (Cond.code y b n r :: lw_g) := fun w hw => by
  rcases List.mem_cons.mp hw with rfl | q
  · exact gd1 h
  · exact gd1 q
theorem gdV {own C : String} {idx : Nat} {y : MethodName} {b : ByteArray} {n : Nat} {r : Option FieldType} (h1 : Cond.methodLink own idx y ∈ lw_g) (h2 : Cond.instanceMethod y ∈ lw_g) (h3 : Cond.selects C y y ∈ lw_g) (h4 : Cond.initialized C ∈ lw_g) (h5 : Cond.code y b n r ∈ lw_g) : GoodIn lw_g (wsV own idx C y (Cond.code y b n r :: lw_g)) := fun w hw => by
  unfold wsV at hw
  rcases List.mem_append.mp hw with q | q
  · simp only [List.mem_cons, List.not_mem_nil, or_false] at q
    rcases q with rfl | rfl | rfl | rfl
    · exact gd1 h1
    · exact gd1 h2
    · exact gd1 h3
    · exact gd1 h4
  · exact gdC h5 w q
theorem gdS {own : String} {idx : Nat} {y : MethodName} {b : ByteArray} {n : Nat} {r : Option FieldType} (h1 : Cond.methodLink own idx y ∈ lw_g) (h2 : Cond.static y ∈ lw_g) (h4 : Cond.initialized own ∈ lw_g) (h5 : Cond.code y b n r ∈ lw_g) : GoodIn lw_g (wsS own idx y (Cond.code y b n r :: lw_g)) := fun w hw => by
  unfold wsS at hw
  rcases List.mem_append.mp hw with q | q
  · simp only [List.mem_cons, List.not_mem_nil, or_false] at q
    rcases q with rfl | rfl | rfl
    · exact gd1 h1
    · exact gd1 h2
    · exact gd1 h4
  · exact gdC h5 w q
-- the methods
abbrev cX0_init : ByteArray := prog_2_method_1_code
abbrev yX0_init : MethodName := ⟨"ReaderRows$Cards", "<init>", "()V"⟩
abbrev wsX0_init : List Cond := Cond.code yX0_init cX0_init 1 none :: lw_g
abbrev cX0_add : ByteArray := prog_2_method_2_code
abbrev yX0_add : MethodName := ⟨"ReaderRows$Cards", "add", "(II)V"⟩
abbrev wsX0_add : List Cond := Cond.code yX0_add cX0_add 3 none :: lw_g
abbrev cX0_isTaken : ByteArray := prog_2_method_3_code
abbrev yX0_isTaken : MethodName := ⟨"ReaderRows$Cards", "isTaken", "(I)Z"⟩
abbrev wsX0_isTaken : List Cond := Cond.code yX0_isTaken cX0_isTaken 2 (some .boolean) :: lw_g
abbrev cX0_holderOfGood : ByteArray := prog_2_method_4_code
abbrev yX0_holderOfGood : MethodName := ⟨"ReaderRows$Cards", "holderOfGood", "(I)I"⟩
abbrev wsX0_holderOfGood : List Cond := Cond.code yX0_holderOfGood cX0_holderOfGood 3 (some .int) :: lw_g
abbrev cX0_lose : ByteArray := prog_2_method_5_code
abbrev yX0_lose : MethodName := ⟨"ReaderRows$Cards", "lose", "(I)V"⟩
abbrev wsX0_lose : List Cond := Cond.code yX0_lose cX0_lose 3 none :: lw_g
abbrev cX0_countOf : ByteArray := prog_2_method_6_code
abbrev yX0_countOf : MethodName := ⟨"ReaderRows$Cards", "countOf", "(I)I"⟩
abbrev wsX0_countOf : List Cond := Cond.code yX0_countOf cX0_countOf 4 (some .int) :: lw_g
abbrev cX0_moveAll : ByteArray := prog_2_method_7_code
abbrev yX0_moveAll : MethodName := ⟨"ReaderRows$Cards", "moveAll", "(II)V"⟩
abbrev wsX0_moveAll : List Cond := Cond.code yX0_moveAll cX0_moveAll 4 none :: lw_g
abbrev cX0_placeOf : ByteArray := prog_2_method_8_code
abbrev yX0_placeOf : MethodName := ⟨"ReaderRows$Cards", "placeOf", "(I)I"⟩
abbrev wsX0_placeOf : List Cond := Cond.code yX0_placeOf cX0_placeOf 3 (some .int) :: lw_g
abbrev cX1_init : ByteArray := prog_3_method_1_code
abbrev yX1_init : MethodName := ⟨"ReaderRows$Loans", "<init>", "()V"⟩
abbrev wsX1_init : List Cond := Cond.code yX1_init cX1_init 1 none :: lw_g
abbrev cX1_count : ByteArray := prog_3_method_2_code
abbrev yX1_count : MethodName := ⟨"ReaderRows$Loans", "count", "()I"⟩
abbrev wsX1_count : List Cond := Cond.code yX1_count cX1_count 1 (some .int) :: lw_g
abbrev cX1_add : ByteArray := prog_3_method_3_code
abbrev yX1_add : MethodName := ⟨"ReaderRows$Loans", "add", "(IIIJJ)I"⟩
abbrev wsX1_add : List Cond := Cond.code yX1_add cX1_add 8 (some .int) :: lw_g
abbrev cX1_putInOrder : ByteArray := prog_3_method_4_code
abbrev yX1_putInOrder : MethodName := ⟨"ReaderRows$Loans", "putInOrder", "(I)V"⟩
abbrev wsX1_putInOrder : List Cond := Cond.code yX1_putInOrder cX1_putInOrder 3 none :: lw_g
abbrev cX1_atPlace : ByteArray := prog_3_method_5_code
abbrev yX1_atPlace : MethodName := ⟨"ReaderRows$Loans", "atPlace", "(I)I"⟩
abbrev wsX1_atPlace : List Cond := Cond.code yX1_atPlace cX1_atPlace 2 (some .int) :: lw_g
abbrev cX1_holderOf : ByteArray := prog_3_method_6_code
abbrev yX1_holderOf : MethodName := ⟨"ReaderRows$Loans", "holderOf", "(I)I"⟩
abbrev wsX1_holderOf : List Cond := Cond.code yX1_holderOf cX1_holderOf 2 (some .int) :: lw_g
abbrev cX1_itemOf : ByteArray := prog_3_method_7_code
abbrev yX1_itemOf : MethodName := ⟨"ReaderRows$Loans", "itemOf", "(I)I"⟩
abbrev wsX1_itemOf : List Cond := Cond.code yX1_itemOf cX1_itemOf 2 (some .int) :: lw_g
abbrev cX1_lastDayOf : ByteArray := prog_3_method_8_code
abbrev yX1_lastDayOf : MethodName := ⟨"ReaderRows$Loans", "lastDayOf", "(I)J"⟩
abbrev wsX1_lastDayOf : List Cond := Cond.code yX1_lastDayOf cX1_lastDayOf 2 (some .long) :: lw_g
abbrev cX1_isAnonymous : ByteArray := prog_3_method_9_code
abbrev yX1_isAnonymous : MethodName := ⟨"ReaderRows$Loans", "isAnonymous", "(I)Z"⟩
abbrev wsX1_isAnonymous : List Cond := Cond.code yX1_isAnonymous cX1_isAnonymous 2 (some .boolean) :: lw_g
abbrev cX1_makeAnonymous : ByteArray := prog_3_method_10_code
abbrev yX1_makeAnonymous : MethodName := ⟨"ReaderRows$Loans", "makeAnonymous", "(I)V"⟩
abbrev wsX1_makeAnonymous : List Cond := Cond.code yX1_makeAnonymous cX1_makeAnonymous 2 none :: lw_g
abbrev cX1_countNamed : ByteArray := prog_3_method_11_code
abbrev yX1_countNamed : MethodName := ⟨"ReaderRows$Loans", "countNamed", "(I)I"⟩
abbrev wsX1_countNamed : List Cond := Cond.code yX1_countNamed cX1_countNamed 4 (some .int) :: lw_g
abbrev cX1_countBegun : ByteArray := prog_3_method_12_code
abbrev yX1_countBegun : MethodName := ⟨"ReaderRows$Loans", "countBegun", "(IJJ)I"⟩
abbrev wsX1_countBegun : List Cond := Cond.code yX1_countBegun cX1_countBegun 8 (some .int) :: lw_g
abbrev cX1_moveAll : ByteArray := prog_3_method_13_code
abbrev yX1_moveAll : MethodName := ⟨"ReaderRows$Loans", "moveAll", "(II)V"⟩
abbrev wsX1_moveAll : List Cond := Cond.code yX1_moveAll cX1_moveAll 4 none :: lw_g
abbrev cX2_init : ByteArray := prog_4_method_1_code
abbrev yX2_init : MethodName := ⟨"ReaderRows$Names", "<init>", "()V"⟩
abbrev wsX2_init : List Cond := Cond.code yX2_init cX2_init 1 none :: lw_g
abbrev cX2_put : ByteArray := prog_4_method_2_code
abbrev yX2_put : MethodName := ⟨"ReaderRows$Names", "put", "(ILReaderRows$Row;)V"⟩
abbrev wsX2_put : List Cond := Cond.code yX2_put cX2_put 5 none :: lw_g
abbrev cX2_has : ByteArray := prog_4_method_3_code
abbrev yX2_has : MethodName := ⟨"ReaderRows$Names", "has", "(I)Z"⟩
abbrev wsX2_has : List Cond := Cond.code yX2_has cX2_has 2 (some .boolean) :: lw_g
abbrev cX2_isSame : ByteArray := prog_4_method_4_code
abbrev yX2_isSame : MethodName := ⟨"ReaderRows$Names", "isSame", "(ILReaderRows$Row;)Z"⟩
abbrev wsX2_isSame : List Cond := Cond.code yX2_isSame cX2_isSame 5 (some .boolean) :: lw_g
abbrev cX2_distance : ByteArray := prog_4_method_5_code
abbrev yX2_distance : MethodName := ⟨"ReaderRows$Names", "distance", "(ILReaderRows$Row;)I"⟩
abbrev wsX2_distance : List Cond := Cond.code yX2_distance cX2_distance 10 (some .int) :: lw_g
abbrev cX2_letterAt : ByteArray := prog_4_method_6_code
abbrev yX2_letterAt : MethodName := ⟨"ReaderRows$Names", "letterAt", "(II)I"⟩
abbrev wsX2_letterAt : List Cond := Cond.code yX2_letterAt cX2_letterAt 3 (some .int) :: lw_g
abbrev cX3_init : ByteArray := prog_5_method_1_code
abbrev yX3_init : MethodName := ⟨"ReaderRows$Readers", "<init>", "()V"⟩
abbrev wsX3_init : List Cond := Cond.code yX3_init cX3_init 2 none :: lw_g
abbrev cX3_count : ByteArray := prog_5_method_2_code
abbrev yX3_count : MethodName := ⟨"ReaderRows$Readers", "count", "()I"⟩
abbrev wsX3_count : List Cond := Cond.code yX3_count cX3_count 1 (some .int) :: lw_g
abbrev cX3_add : ByteArray := prog_5_method_3_code
abbrev yX3_add : MethodName := ⟨"ReaderRows$Readers", "add", "(II)I"⟩
abbrev wsX3_add : List Cond := Cond.code yX3_add cX3_add 3 (some .int) :: lw_g
abbrev cX3_find : ByteArray := prog_5_method_4_code
abbrev yX3_find : MethodName := ⟨"ReaderRows$Readers", "find", "(I)I"⟩
abbrev wsX3_find : List Cond := Cond.code yX3_find cX3_find 2 (some .int) :: lw_g
abbrev cX3_isJoined : ByteArray := prog_5_method_5_code
abbrev yX3_isJoined : MethodName := ⟨"ReaderRows$Readers", "isJoined", "(I)Z"⟩
abbrev wsX3_isJoined : List Cond := Cond.code yX3_isJoined cX3_isJoined 2 (some .boolean) :: lw_g
abbrev cX3_kindOf : ByteArray := prog_5_method_6_code
abbrev yX3_kindOf : MethodName := ⟨"ReaderRows$Readers", "kindOf", "(I)I"⟩
abbrev wsX3_kindOf : List Cond := Cond.code yX3_kindOf cX3_kindOf 2 (some .int) :: lw_g
abbrev cX3_guardianOf : ByteArray := prog_5_method_7_code
abbrev yX3_guardianOf : MethodName := ⟨"ReaderRows$Readers", "guardianOf", "(I)I"⟩
abbrev wsX3_guardianOf : List Cond := Cond.code yX3_guardianOf cX3_guardianOf 2 (some .int) :: lw_g
abbrev cX3_hasConsent : ByteArray := prog_5_method_8_code
abbrev yX3_hasConsent : MethodName := ⟨"ReaderRows$Readers", "hasConsent", "(I)Z"⟩
abbrev wsX3_hasConsent : List Cond := Cond.code yX3_hasConsent cX3_hasConsent 2 (some .boolean) :: lw_g
abbrev cX3_setConsent : ByteArray := prog_5_method_9_code
abbrev yX3_setConsent : MethodName := ⟨"ReaderRows$Readers", "setConsent", "(IZ)V"⟩
abbrev wsX3_setConsent : List Cond := Cond.code yX3_setConsent cX3_setConsent 3 none :: lw_g
abbrev cX3_setBlock : ByteArray := prog_5_method_10_code
abbrev yX3_setBlock : MethodName := ⟨"ReaderRows$Readers", "setBlock", "(IIJ)V"⟩
abbrev wsX3_setBlock : List Cond := Cond.code yX3_setBlock cX3_setBlock 5 none :: lw_g
abbrev cX3_hasBlock : ByteArray := prog_5_method_11_code
abbrev yX3_hasBlock : MethodName := ⟨"ReaderRows$Readers", "hasBlock", "(IIJ)Z"⟩
abbrev wsX3_hasBlock : List Cond := Cond.code yX3_hasBlock cX3_hasBlock 7 (some .boolean) :: lw_g
abbrev cX3_wardOf : ByteArray := prog_5_method_12_code
abbrev yX3_wardOf : MethodName := ⟨"ReaderRows$Readers", "wardOf", "(II)I"⟩
abbrev wsX3_wardOf : List Cond := Cond.code yX3_wardOf cX3_wardOf 5 (some .int) :: lw_g
abbrev cX3_merge : ByteArray := prog_5_method_13_code
abbrev yX3_merge : MethodName := ⟨"ReaderRows$Readers", "merge", "(II)V"⟩
abbrev wsX3_merge : List Cond := Cond.code yX3_merge cX3_merge 7 none :: lw_g
abbrev cX4_init : ByteArray := prog_6_method_1_code
abbrev yX4_init : MethodName := ⟨"ReaderRows$Row", "<init>", "()V"⟩
abbrev wsX4_init : List Cond := Cond.code yX4_init cX4_init 1 none :: lw_g
abbrev cX4_collect : ByteArray := prog_6_method_2_code
abbrev yX4_collect : MethodName := ⟨"ReaderRows$Row", "collect", "(I)V"⟩
abbrev wsX4_collect : List Cond := Cond.code yX4_collect cX4_collect 2 none :: lw_g
abbrev cX4_clear : ByteArray := prog_6_method_3_code
abbrev yX4_clear : MethodName := ⟨"ReaderRows$Row", "clear", "()V"⟩
abbrev wsX4_clear : List Cond := Cond.code yX4_clear cX4_clear 1 none :: lw_g
abbrev cX4_signAt : ByteArray := prog_6_method_4_code
abbrev yX4_signAt : MethodName := ⟨"ReaderRows$Row", "signAt", "(I)I"⟩
abbrev wsX4_signAt : List Cond := Cond.code yX4_signAt cX4_signAt 2 (some .int) :: lw_g
abbrev cX4_nameLength : ByteArray := prog_6_method_5_code
abbrev yX4_nameLength : MethodName := ⟨"ReaderRows$Row", "nameLength", "()I"⟩
abbrev wsX4_nameLength : List Cond := Cond.code yX4_nameLength cX4_nameLength 1 (some .int) :: lw_g
abbrev cX4_kind : ByteArray := prog_6_method_6_code
abbrev yX4_kind : MethodName := ⟨"ReaderRows$Row", "kind", "()I"⟩
abbrev wsX4_kind : List Cond := Cond.code yX4_kind cX4_kind 1 (some .int) :: lw_g
abbrev cX4_year : ByteArray := prog_6_method_7_code
abbrev yX4_year : MethodName := ⟨"ReaderRows$Row", "year", "()I"⟩
abbrev wsX4_year : List Cond := Cond.code yX4_year cX4_year 1 (some .int) :: lw_g
abbrev cX4_readNameAlone : ByteArray := prog_6_method_8_code
abbrev yX4_readNameAlone : MethodName := ⟨"ReaderRows$Row", "readNameAlone", "()Z"⟩
abbrev wsX4_readNameAlone : List Cond := Cond.code yX4_readNameAlone cX4_readNameAlone 1 (some .boolean) :: lw_g
abbrev cX4_readAll : ByteArray := prog_6_method_9_code
abbrev yX4_readAll : MethodName := ⟨"ReaderRows$Row", "readAll", "()I"⟩
abbrev wsX4_readAll : List Cond := Cond.code yX4_readAll cX4_readAll 2 (some .int) :: lw_g
abbrev cX4_readName : ByteArray := prog_6_method_10_code
abbrev yX4_readName : MethodName := ⟨"ReaderRows$Row", "readName", "()V"⟩
abbrev wsX4_readName : List Cond := Cond.code yX4_readName cX4_readName 2 none :: lw_g
abbrev cX4_readYear : ByteArray := prog_6_method_11_code
abbrev yX4_readYear : MethodName := ⟨"ReaderRows$Row", "readYear", "(I)I"⟩
abbrev wsX4_readYear : List Cond := Cond.code yX4_readYear cX4_readYear 3 (some .int) :: lw_g
abbrev cX4_isAmong : ByteArray := prog_6_method_12_code
abbrev yX4_isAmong : MethodName := ⟨"ReaderRows$Row", "isAmong", "(III)Z"⟩
abbrev wsX4_isAmong : List Cond := Cond.code yX4_isAmong cX4_isAmong 5 (some .boolean) :: lw_g
abbrev cX5_init : ByteArray := prog_1_method_1_code
abbrev yX5_init : MethodName := ⟨"ReaderRows", "<init>", "()V"⟩
abbrev wsX5_init : List Cond := Cond.code yX5_init cX5_init 2 none :: lw_g
abbrev cX5_reader : ByteArray := prog_1_method_2_code
abbrev yX5_reader : MethodName := ⟨"ReaderRows", "reader", "(II)I"⟩
abbrev wsX5_reader : List Cond := Cond.code yX5_reader cX5_reader 4 (some .int) :: lw_g
abbrev cX5_card : ByteArray := prog_1_method_3_code
abbrev yX5_card : MethodName := ⟨"ReaderRows", "card", "(II)I"⟩
abbrev wsX5_card : List Cond := Cond.code yX5_card cX5_card 4 (some .int) :: lw_g
abbrev cX5_whose : ByteArray := prog_1_method_4_code
abbrev yX5_whose : MethodName := ⟨"ReaderRows", "whose", "(I)I"⟩
abbrev wsX5_whose : List Cond := Cond.code yX5_whose cX5_whose 2 (some .int) :: lw_g
abbrev cX5_lost : ByteArray := prog_1_method_5_code
abbrev yX5_lost : MethodName := ⟨"ReaderRows", "lost", "(II)I"⟩
abbrev wsX5_lost : List Cond := Cond.code yX5_lost cX5_lost 4 (some .int) :: lw_g
abbrev cX5_block : ByteArray := prog_1_method_6_code
abbrev yX5_block : MethodName := ⟨"ReaderRows", "block", "(IIJ)I"⟩
abbrev wsX5_block : List Cond := Cond.code yX5_block cX5_block 6 (some .int) :: lw_g
abbrev cX5_blocked : ByteArray := prog_1_method_7_code
abbrev yX5_blocked : MethodName := ⟨"ReaderRows", "blocked", "(IJ)I"⟩
abbrev wsX5_blocked : List Cond := Cond.code yX5_blocked cX5_blocked 7 (some .int) :: lw_g
abbrev cX5_consent : ByteArray := prog_1_method_8_code
abbrev yX5_consent : MethodName := ⟨"ReaderRows", "consent", "(IZJ)I"⟩
abbrev wsX5_consent : List Cond := Cond.code yX5_consent cX5_consent 7 (some .int) :: lw_g
abbrev cX5_keeps : ByteArray := prog_1_method_9_code
abbrev yX5_keeps : MethodName := ⟨"ReaderRows", "keeps", "(II)I"⟩
abbrev wsX5_keeps : List Cond := Cond.code yX5_keeps cX5_keeps 4 (some .int) :: lw_g
abbrev cX5_loan : ByteArray := prog_1_method_10_code
abbrev yX5_loan : MethodName := ⟨"ReaderRows", "loan", "(IIJJ)I"⟩
abbrev wsX5_loan : List Cond := Cond.code yX5_loan cX5_loan 8 (some .int) :: lw_g
abbrev cX5_kept : ByteArray := prog_1_method_11_code
abbrev yX5_kept : MethodName := ⟨"ReaderRows", "kept", "(IIJ)I"⟩
abbrev wsX5_kept : List Cond := Cond.code yX5_kept cX5_kept 9 (some .int) :: lw_g
abbrev cX5_anonymise : ByteArray := prog_1_method_12_code
abbrev yX5_anonymise : MethodName := ⟨"ReaderRows", "anonymise", "(J)I"⟩
abbrev wsX5_anonymise : List Cond := Cond.code yX5_anonymise cX5_anonymise 5 (some .int) :: lw_g
abbrev cX5_join : ByteArray := prog_1_method_13_code
abbrev yX5_join : MethodName := ⟨"ReaderRows", "join", "(II)I"⟩
abbrev wsX5_join : List Cond := Cond.code yX5_join cX5_join 5 (some .int) :: lw_g
abbrev cX5_family : ByteArray := prog_1_method_14_code
abbrev yX5_family : MethodName := ⟨"ReaderRows", "family", "(II)I"⟩
abbrev wsX5_family : List Cond := Cond.code yX5_family cX5_family 6 (some .int) :: lw_g
abbrev cX5_sign : ByteArray := prog_1_method_15_code
abbrev yX5_sign : MethodName := ⟨"ReaderRows", "sign", "(I)V"⟩
abbrev wsX5_sign : List Cond := Cond.code yX5_sign cX5_sign 2 none :: lw_g
abbrev cX5_import0 : ByteArray := prog_1_method_16_code
abbrev yX5_import0 : MethodName := ⟨"ReaderRows", "import0", "()I"⟩
abbrev wsX5_import0 : List Cond := Cond.code yX5_import0 cX5_import0 3 (some .int) :: lw_g
abbrev cX5_like : ByteArray := prog_1_method_17_code
abbrev yX5_like : MethodName := ⟨"ReaderRows", "like", "()I"⟩
abbrev wsX5_like : List Cond := Cond.code yX5_like cX5_like 2 (some .int) :: lw_g
abbrev cX5_about : ByteArray := prog_1_method_18_code
abbrev yX5_about : MethodName := ⟨"ReaderRows", "about", "(II)I"⟩
abbrev wsX5_about : List Cond := Cond.code yX5_about cX5_about 4 (some .int) :: lw_g
abbrev cX5_statistics : ByteArray := prog_1_method_19_code
abbrev yX5_statistics : MethodName := ⟨"ReaderRows", "statistics", "(IJJ)I"⟩
abbrev wsX5_statistics : List Cond := Cond.code yX5_statistics cX5_statistics 6 (some .int) :: lw_g
abbrev cX5_isKind : ByteArray := prog_1_method_20_code
abbrev yX5_isKind : MethodName := ⟨"ReaderRows", "isKind", "(I)Z"⟩
abbrev wsX5_isKind : List Cond := Cond.code yX5_isKind cX5_isKind 1 (some .boolean) :: lw_g
abbrev cX5_isDay : ByteArray := prog_1_method_21_code
abbrev yX5_isDay : MethodName := ⟨"ReaderRows", "isDay", "(J)Z"⟩
abbrev wsX5_isDay : List Cond := Cond.code yX5_isDay cX5_isDay 2 (some .boolean) :: lw_g
abbrev cX5_isKept : ByteArray := prog_1_method_22_code
abbrev yX5_isKept : MethodName := ⟨"ReaderRows", "isKept", "(IJ)Z"⟩
abbrev wsX5_isKept : List Cond := Cond.code yX5_isKept cX5_isKept 5 (some .boolean) :: lw_g
abbrev cX5_anonymiseUnlessKept : ByteArray := prog_1_method_23_code
abbrev yX5_anonymiseUnlessKept : MethodName := ⟨"ReaderRows", "anonymiseUnlessKept", "(IJ)Z"⟩
abbrev wsX5_anonymiseUnlessKept : List Cond := Cond.code yX5_anonymiseUnlessKept cX5_anonymiseUnlessKept 4 (some .boolean) :: lw_g
abbrev cX5_anonymiseLoansOf : ByteArray := prog_1_method_24_code
abbrev yX5_anonymiseLoansOf : MethodName := ⟨"ReaderRows", "anonymiseLoansOf", "(IJ)I"⟩
abbrev wsX5_anonymiseLoansOf : List Cond := Cond.code yX5_anonymiseLoansOf cX5_anonymiseLoansOf 6 (some .int) :: lw_g
abbrev cX5_mayJoin : ByteArray := prog_1_method_25_code
abbrev yX5_mayJoin : MethodName := ⟨"ReaderRows", "mayJoin", "(II)Z"⟩
abbrev wsX5_mayJoin : List Cond := Cond.code yX5_mayJoin cX5_mayJoin 4 (some .boolean) :: lw_g
abbrev cX5_importFittingRow : ByteArray := prog_1_method_26_code
abbrev yX5_importFittingRow : MethodName := ⟨"ReaderRows", "importFittingRow", "()I"⟩
abbrev wsX5_importFittingRow : List Cond := Cond.code yX5_importFittingRow cX5_importFittingRow 3 (some .int) :: lw_g
abbrev cX5_firstNamed : ByteArray := prog_1_method_27_code
abbrev yX5_firstNamed : MethodName := ⟨"ReaderRows", "firstNamed", "()I"⟩
abbrev wsX5_firstNamed : List Cond := Cond.code yX5_firstNamed cX5_firstNamed 2 (some .int) :: lw_g
abbrev cX5_nearestNamed : ByteArray := prog_1_method_28_code
abbrev yX5_nearestNamed : MethodName := ⟨"ReaderRows", "nearestNamed", "()I"⟩
abbrev wsX5_nearestNamed : List Cond := Cond.code yX5_nearestNamed cX5_nearestNamed 5 (some .int) :: lw_g
abbrev cX6_init : ByteArray := prog_8_method_1_code
abbrev yX6_init : MethodName := ⟨"ReaderRowsModel", "<init>", "()V"⟩
abbrev wsX6_init : List Cond := Cond.code yX6_init cX6_init 2 none :: lw_g
abbrev cX6_who : ByteArray := prog_8_method_3_code
abbrev yX6_who : MethodName := ⟨"ReaderRowsModel", "who", "(I)I"⟩
abbrev wsX6_who : List Cond := Cond.code yX6_who cX6_who 3 (some .int) :: lw_g
abbrev cX6_isDay : ByteArray := prog_8_method_4_code
abbrev yX6_isDay : MethodName := ⟨"ReaderRowsModel", "isDay", "(J)Z"⟩
abbrev wsX6_isDay : List Cond := Cond.code yX6_isDay cX6_isDay 2 (some .boolean) :: lw_g
abbrev cX6_isKind : ByteArray := prog_8_method_5_code
abbrev yX6_isKind : MethodName := ⟨"ReaderRowsModel", "isKind", "(I)Z"⟩
abbrev wsX6_isKind : List Cond := Cond.code yX6_isKind cX6_isKind 1 (some .boolean) :: lw_g
abbrev cX6_reader : ByteArray := prog_8_method_6_code
abbrev yX6_reader : MethodName := ⟨"ReaderRowsModel", "reader", "(II)I"⟩
abbrev wsX6_reader : List Cond := Cond.code yX6_reader cX6_reader 4 (some .int) :: lw_g
abbrev cX6_find : ByteArray := prog_8_method_7_code
abbrev yX6_find : MethodName := ⟨"ReaderRowsModel", "find", "(I)I"⟩
abbrev wsX6_find : List Cond := Cond.code yX6_find cX6_find 3 (some .int) :: lw_g
abbrev cX6_has : ByteArray := prog_8_method_8_code
abbrev yX6_has : MethodName := ⟨"ReaderRowsModel", "has", "(I)I"⟩
abbrev wsX6_has : List Cond := Cond.code yX6_has cX6_has 4 (some .int) :: lw_g
abbrev cX6_add : ByteArray := prog_8_method_9_code
abbrev yX6_add : MethodName := ⟨"ReaderRowsModel", "add", "(II)V"⟩
abbrev wsX6_add : List Cond := Cond.code yX6_add cX6_add 3 none :: lw_g
abbrev cX6_card : ByteArray := prog_8_method_10_code
abbrev yX6_card : MethodName := ⟨"ReaderRowsModel", "card", "(II)I"⟩
abbrev wsX6_card : List Cond := Cond.code yX6_card cX6_card 4 (some .int) :: lw_g
abbrev cX6_whose : ByteArray := prog_8_method_11_code
abbrev yX6_whose : MethodName := ⟨"ReaderRowsModel", "whose", "(I)I"⟩
abbrev wsX6_whose : List Cond := Cond.code yX6_whose cX6_whose 3 (some .int) :: lw_g
abbrev cX6_lost : ByteArray := prog_8_method_12_code
abbrev yX6_lost : MethodName := ⟨"ReaderRowsModel", "lost", "(II)I"⟩
abbrev wsX6_lost : List Cond := Cond.code yX6_lost cX6_lost 4 (some .int) :: lw_g
abbrev cX6_block : ByteArray := prog_8_method_13_code
abbrev yX6_block : MethodName := ⟨"ReaderRowsModel", "block", "(IIJ)I"⟩
abbrev wsX6_block : List Cond := Cond.code yX6_block cX6_block 6 (some .int) :: lw_g
abbrev cX6_blocked : ByteArray := prog_8_method_14_code
abbrev yX6_blocked : MethodName := ⟨"ReaderRowsModel", "blocked", "(IJ)I"⟩
abbrev wsX6_blocked : List Cond := Cond.code yX6_blocked cX6_blocked 6 (some .int) :: lw_g
abbrev cX6_lasts : ByteArray := prog_8_method_15_code
abbrev yX6_lasts : MethodName := ⟨"ReaderRowsModel", "lasts", "(IIJ)Z"⟩
abbrev wsX6_lasts : List Cond := Cond.code yX6_lasts cX6_lasts 5 (some .boolean) :: lw_g
abbrev cX6_isKept : ByteArray := prog_8_method_16_code
abbrev yX6_isKept : MethodName := ⟨"ReaderRowsModel", "isKept", "(IJ)Z"⟩
abbrev wsX6_isKept : List Cond := Cond.code yX6_isKept cX6_isKept 5 (some .boolean) :: lw_g
abbrev cX6_forget : ByteArray := prog_8_method_17_code
abbrev yX6_forget : MethodName := ⟨"ReaderRowsModel", "forget", "(IJ)I"⟩
abbrev wsX6_forget : List Cond := Cond.code yX6_forget cX6_forget 6 (some .int) :: lw_g
abbrev cX6_consent : ByteArray := prog_8_method_18_code
abbrev yX6_consent : MethodName := ⟨"ReaderRowsModel", "consent", "(IZJ)I"⟩
abbrev wsX6_consent : List Cond := Cond.code yX6_consent cX6_consent 7 (some .int) :: lw_g
abbrev cX6_keeps : ByteArray := prog_8_method_19_code
abbrev yX6_keeps : MethodName := ⟨"ReaderRowsModel", "keeps", "(II)I"⟩
abbrev wsX6_keeps : List Cond := Cond.code yX6_keeps cX6_keeps 4 (some .int) :: lw_g
abbrev cX6_loan : ByteArray := prog_8_method_20_code
abbrev yX6_loan : MethodName := ⟨"ReaderRowsModel", "loan", "(IIJJ)I"⟩
abbrev wsX6_loan : List Cond := Cond.code yX6_loan cX6_loan 8 (some .int) :: lw_g
abbrev cX6_isFor : ByteArray := prog_8_method_21_code
abbrev yX6_isFor : MethodName := ⟨"ReaderRowsModel", "isFor", "(IIJ)Z"⟩
abbrev wsX6_isFor : List Cond := Cond.code yX6_isFor cX6_isFor 5 (some .boolean) :: lw_g
abbrev cX6_kept : ByteArray := prog_8_method_22_code
abbrev yX6_kept : MethodName := ⟨"ReaderRowsModel", "kept", "(IIJ)I"⟩
abbrev wsX6_kept : List Cond := Cond.code yX6_kept cX6_kept 9 (some .int) :: lw_g
abbrev cX6_anonymise : ByteArray := prog_8_method_23_code
abbrev yX6_anonymise : MethodName := ⟨"ReaderRowsModel", "anonymise", "(J)I"⟩
abbrev wsX6_anonymise : List Cond := Cond.code yX6_anonymise cX6_anonymise 3 (some .int) :: lw_g
abbrev cX6_join : ByteArray := prog_8_method_24_code
abbrev yX6_join : MethodName := ⟨"ReaderRowsModel", "join", "(II)I"⟩
abbrev wsX6_join : List Cond := Cond.code yX6_join cX6_join 6 (some .int) :: lw_g
abbrev cX6_family : ByteArray := prog_8_method_25_code
abbrev yX6_family : MethodName := ⟨"ReaderRowsModel", "family", "(II)I"⟩
abbrev wsX6_family : List Cond := Cond.code yX6_family cX6_family 7 (some .int) :: lw_g
abbrev cX6_sign : ByteArray := prog_8_method_26_code
abbrev yX6_sign : MethodName := ⟨"ReaderRowsModel", "sign", "(I)V"⟩
abbrev wsX6_sign : List Cond := Cond.code yX6_sign cX6_sign 2 none :: lw_g
abbrev cX6_look : ByteArray := prog_8_method_27_code
abbrev yX6_look : MethodName := ⟨"ReaderRowsModel", "look", "()I"⟩
abbrev wsX6_look : List Cond := Cond.code yX6_look cX6_look 1 (some .int) :: lw_g
abbrev cX6_letters : ByteArray := prog_8_method_28_code
abbrev yX6_letters : MethodName := ⟨"ReaderRowsModel", "letters", "()I"⟩
abbrev wsX6_letters : List Cond := Cond.code yX6_letters cX6_letters 2 (some .int) :: lw_g
abbrev cX6_isNamed : ByteArray := prog_8_method_29_code
abbrev yX6_isNamed : MethodName := ⟨"ReaderRowsModel", "isNamed", "(II)Z"⟩
abbrev wsX6_isNamed : List Cond := Cond.code yX6_isNamed cX6_isNamed 5 (some .boolean) :: lw_g
abbrev cX6_reads : ByteArray := prog_8_method_30_code
abbrev yX6_reads : MethodName := ⟨"ReaderRowsModel", "reads", "()Z"⟩
abbrev wsX6_reads : List Cond := Cond.code yX6_reads cX6_reads 2 (some .boolean) :: lw_g
abbrev cX6_import0 : ByteArray := prog_8_method_31_code
abbrev yX6_import0 : MethodName := ⟨"ReaderRowsModel", "import0", "()I"⟩
abbrev wsX6_import0 : List Cond := Cond.code yX6_import0 cX6_import0 7 (some .int) :: lw_g
abbrev cX6_far : ByteArray := prog_8_method_32_code
abbrev yX6_far : MethodName := ⟨"ReaderRowsModel", "far", "(II)I"⟩
abbrev wsX6_far : List Cond := Cond.code yX6_far cX6_far 8 (some .int) :: lw_g
abbrev cX6_like : ByteArray := prog_8_method_33_code
abbrev yX6_like : MethodName := ⟨"ReaderRowsModel", "like", "()I"⟩
abbrev wsX6_like : List Cond := Cond.code yX6_like cX6_like 7 (some .int) :: lw_g
abbrev cX6_about : ByteArray := prog_8_method_34_code
abbrev yX6_about : MethodName := ⟨"ReaderRowsModel", "about", "(II)I"⟩
abbrev wsX6_about : List Cond := Cond.code yX6_about cX6_about 6 (some .int) :: lw_g
abbrev cX6_statistics : ByteArray := prog_8_method_35_code
abbrev yX6_statistics : MethodName := ⟨"ReaderRowsModel", "statistics", "(IJJ)I"⟩
abbrev wsX6_statistics : List Cond := Cond.code yX6_statistics cX6_statistics 8 (some .int) :: lw_g
end
section
/-! rows of my own over the kit: numbers as naturals, one world for all methods of a side -/
def bN (P : Prop) [Decidable P] : Nat := if P then 1 else 0
theorem bN_le (P : Prop) [Decidable P] : bN P ≤ 1 := by unfold bN; split <;> omega
theorem bN_1 {P : Prop} [Decidable P] (h : P) : bN P = 1 := if_pos h
theorem bN_0 {P : Prop} [Decidable P] (h : ¬ P) : bN P = 0 := if_neg h
theorem bN_lt (P : Prop) [Decidable P] : bN P < 2 ^ 31 := Nat.lt_of_le_of_lt (bN_le P) (by decide)
theorem bN_eq0 {P : Prop} [Decidable P] (h : nI (bN P) = 0) : ¬ P := fun q => by
  rw [bN_1 q] at h; exact absurd h (by decide)
theorem bN_ne0 {P : Prop} [Decidable P] (h : ¬ nI (bN P) = 0) : P := by
  refine Decidable.byContradiction fun q => h ?_
  rw [bN_0 q]; rfl
theorem bN_c {P Q : Prop} [Decidable P] [Decidable Q] (h : P ↔ Q) : bN P = bN Q := by
  unfold bN
  by_cases p : P
  · rw [if_pos p, if_pos (h.mp p)]
  · rw [if_neg p, if_neg (fun q => p (h.mpr q))]
theorem r_one {P : Prop} [Decidable P] (h : P) : nI 1 = nI (bN P) := by rw [bN_1 h]
theorem r_zero {P : Prop} [Decidable P] (h : ¬ P) : nI 0 = nI (bN P) := by rw [bN_0 h]
theorem r_inc1 (k : Nat) : nI k + Int32.ofInt 1 = nI (k + 1) := by
  rw [show Int32.ofInt 1 = 1 from by decide]; exact nI_1 k
theorem r_dec1 {k : Nat} (h : 1 ≤ k) : nI k + Int32.ofInt (-1) = nI (k - 1) := by
  obtain ⟨j, rfl⟩ : ∃ j, k = j + 1 := ⟨k - 1, by omega⟩
  rw [show Int32.ofInt (-1) = -1 from by decide]; exact pk_m1 j
theorem r_i2c {t : Nat} (h : t < 65536) : ((nI t).toUInt32 % 65536).toInt32 = nI t := by
  rw [pk_char, pk_tn (by omega), Nat.mod_eq_of_lt h]
theorem r_nb (P : Prop) [Decidable P] : narrow .boolean (Value.int (nI (bN P))) = Value.int (nI (bN P)) := by
  by_cases h : P
  · rw [bN_1 h]; decide
  · rw [bN_0 h]; decide
theorem r_nz {n : Nat} (h : n ≤ 1) : narrow .boolean (Value.int (nI n)) = Value.int (nI n) := by
  rcases (show n = 0 ∨ n = 1 by omega) with rfl | rfl <;> decide
theorem r_vz {n : Nat} (h : n ≤ 1) : vp_nar .boolean (nI n) = nI n := by
  rcases (show n = 0 ∨ n = 1 by omega) with rfl | rfl <;> decide
theorem r_vc {n : Nat} (h : n ≤ 65535) : vp_nar .char (nI n) = nI n := by
  unfold vp_nar; rw [(pk_charN (show n < 65536 by omega)).1]
theorem r_min {x y : Nat} (hx : x < 2 ^ 31) (hy : y < 2 ^ 31) : (if nI y < nI x then nI y else nI x) = nI (min x y) := by
  by_cases h : y < x
  · rw [if_pos ((nI_ltI hy hx).mpr h), Nat.min_eq_right (by omega)]
  · rw [if_neg (fun q => h ((nI_ltI hy hx).mp q)), Nat.min_eq_left (by omega)]
theorem r_max {x y : Nat} (hx : x < 2 ^ 31) (hy : y < 2 ^ 31) : (if nI x < nI y then nI y else nI x) = nI (max x y) := by
  by_cases h : x < y
  · rw [if_pos ((nI_ltI hx hy).mpr h), Nat.max_eq_right (by omega)]
  · rw [if_neg (fun q => h ((nI_ltI hx hy).mp q)), Nat.max_eq_left (by omega)]
/-- a state: numbers, arrays of numbers, arrays of ints, arrays of longs -/
abbrev St : Type := (Nat → Nat) × (Nat → Nat → Nat) × (Nat → Nat → Int32) × (Nat → Nat → Int64)
def nv (S : St) (k : Nat) : Nat := S.1 k
def av (S : St) (k j : Nat) : Nat := S.2.1 k j
def xv (S : St) (k j : Nat) : Int32 := S.2.2.1 k j
def yv (S : St) (k j : Nat) : Int64 := S.2.2.2 k j
def sn (S : St) (k v : Nat) : St := (fun i => if i = k then v else S.1 i, S.2)
def sa (S : St) (k j v : Nat) : St := (S.1, fun i => if i = k then (fun q => if q = j then v else S.2.1 i q) else S.2.1 i, S.2.2)
def sx (S : St) (k j : Nat) (v : Int32) : St := (S.1, S.2.1, fun i => if i = k then (fun q => if q = j then v else S.2.2.1 i q) else S.2.2.1 i, S.2.2.2)
def sy (S : St) (k j : Nat) (v : Int64) : St := (S.1, S.2.1, S.2.2.1, fun i => if i = k then (fun q => if q = j then v else S.2.2.2 i q) else S.2.2.2 i)

theorem nv_sn (S : St) (k v : Nat) (i : Nat) : nv (sn S k v) i = if i = k then v else nv S i := rfl
theorem nv_sa (S : St) (k q v : Nat) (i : Nat) : nv (sa S k q v) i = nv S i := rfl
theorem nv_sx (S : St) (k q : Nat) (v : Int32) (i : Nat) : nv (sx S k q v) i = nv S i := rfl
theorem nv_sy (S : St) (k q : Nat) (v : Int64) (i : Nat) : nv (sy S k q v) i = nv S i := rfl
theorem av_sn (S : St) (k v : Nat) (i j : Nat) : av (sn S k v) i j = av S i j := rfl
theorem av_sa (S : St) (k q v : Nat) (i j : Nat) : av (sa S k q v) i j = if i = k then (if j = q then v else av S i j) else av S i j := by
  unfold av sa; dsimp only; split <;> rfl
theorem av_sx (S : St) (k q : Nat) (v : Int32) (i j : Nat) : av (sx S k q v) i j = av S i j := rfl
theorem av_sy (S : St) (k q : Nat) (v : Int64) (i j : Nat) : av (sy S k q v) i j = av S i j := rfl
theorem xv_sn (S : St) (k v : Nat) (i j : Nat) : xv (sn S k v) i j = xv S i j := rfl
theorem xv_sa (S : St) (k q v : Nat) (i j : Nat) : xv (sa S k q v) i j = xv S i j := rfl
theorem xv_sx (S : St) (k q : Nat) (v : Int32) (i j : Nat) : xv (sx S k q v) i j = if i = k then (if j = q then v else xv S i j) else xv S i j := by
  unfold xv sx; dsimp only; split <;> rfl
theorem xv_sy (S : St) (k q : Nat) (v : Int64) (i j : Nat) : xv (sy S k q v) i j = xv S i j := rfl
theorem yv_sn (S : St) (k v : Nat) (i j : Nat) : yv (sn S k v) i j = yv S i j := rfl
theorem yv_sa (S : St) (k q v : Nat) (i j : Nat) : yv (sa S k q v) i j = yv S i j := rfl
theorem yv_sx (S : St) (k q : Nat) (v : Int32) (i j : Nat) : yv (sx S k q v) i j = yv S i j := rfl
theorem yv_sy (S : St) (k q : Nat) (v : Int64) (i j : Nat) : yv (sy S k q v) i j = if i = k then (if j = q then v else yv S i j) else yv S i j := by
  unfold yv sy; dsimp only; split <;> rfl
def bdG (nm vm : Nat → Nat) (S : St) : Prop := (∀ k, nv S k ≤ nm k) ∧ ∀ k j, av S k j ≤ vm k
theorem bd_sn {nm vm : Nat → Nat} {S : St} {k v : Nat} (h : bdG nm vm S) (hv : v ≤ nm k) : bdG nm vm (sn S k v) := ⟨fun i => by
  rw [nv_sn]; split
  · rename_i q; rw [q]; exact hv
  · exact h.1 i, fun i j => h.2 i j⟩
theorem bd_sa {nm vm : Nat → Nat} {S : St} {k q v : Nat} (h : bdG nm vm S) (hv : v ≤ vm k) : bdG nm vm (sa S k q v) := ⟨fun i => h.1 i, fun i j => by
  rw [av_sa]; split
  · rename_i e; split
    · rw [e]; exact hv
    · exact h.2 i j
  · exact h.2 i j⟩
theorem bd_sx {nm vm : Nat → Nat} {S : St} {k q : Nat} {v : Int32} (h : bdG nm vm S) : bdG nm vm (sx S k q v) := ⟨h.1, h.2⟩
theorem bd_sy {nm vm : Nat → Nat} {S : St} {k q : Nat} {v : Int64} (h : bdG nm vm S) : bdG nm vm (sy S k q v) := ⟨h.1, h.2⟩
/-- a method's start: the world's cells and the tables -/
def wPre (D : va_G) (cl : List vw_C) (ws : va_W) (tys : List (ClassId × FieldType)) : State → Prop := fun U => va_P D cl ws U.heap ∧ va_K D cl tys U
theorem wPre_blind {av0 : List Value} {D : va_G} {cl : List vw_C} {ws : va_W} {tys : List (ClassId × FieldType)} : FrameBlind (va_Pc av0 (wPre D cl ws tys)) := fun a U g mk q => ⟨q.1, q.2.1, va_K.moved (u := U) (U := U.calling g mk a) (Vm.Alike.refl U.vm) q.2.2⟩
/-- a method's end: its answer, the world behind it, nothing else has changed -/
def wQ (r : Option Value) (D : va_G) (cl : List vw_C) (ws : va_W) (A : Nat → Prop) (B : Prop) : Array Value → State → Outcome → State → Prop := fun _ st o t => o = .returned r ∧ va_P D cl ws t.heap ∧ va_F A st t ∧ B
section RB
variable {p : Program} {l : Launch} {e : Env} {R : Room} {s : State} {m : MethodId} {args : Array Value} {below : List Frame} {meth : Method} {c : Code} {H : Heap} {locs : List Loc} {cells slots : Nat} {Q : State → Prop}
variable {cc : ByteArray} {pc : Nat} {ls : Array Slot} {rest : List Value} {D : va_G} {cl : List vw_C} {tys : List (ClassId × FieldType)} {ws : va_W} {a : Nat} {A : Nat → Prop} {H0 : Heap}
theorem r_iadd (hx : p.tables.exec = Jvm.exec) (hb : c.code = cc) {x y : Nat} (hdg : decode cc pc = .ok (.iadd, 1)) (k : W p l e R s m args below meth c H locs cells slots Q (F0 m (pc + 1) ls (.int (nI (x + y)) :: rest))) : W p l e R s m args below meth c H locs cells slots Q (F0 m pc ls (.int (nI y) :: .int (nI x) :: rest)) := lv_iadd hx hb hdg (by rw [nI_add]; exact k)
theorem r_imul (hx : p.tables.exec = Jvm.exec) (hb : c.code = cc) {x y : Nat} (hdg : decode cc pc = .ok (.imul, 1)) (k : W p l e R s m args below meth c H locs cells slots Q (F0 m (pc + 1) ls (.int (nI (x * y)) :: rest))) : W p l e R s m args below meth c H locs cells slots Q (F0 m pc ls (.int (nI y) :: .int (nI x) :: rest)) := lv_imul hx hb hdg (by rw [pk_mul]; exact k)
theorem r_isub (hx : p.tables.exec = Jvm.exec) (hb : c.code = cc) {x y : Nat} (hdg : decode cc pc = .ok (.isub, 1)) (h : y ≤ x) (k : W p l e R s m args below meth c H locs cells slots Q (F0 m (pc + 1) ls (.int (nI (x - y)) :: rest))) : W p l e R s m args below meth c H locs cells slots Q (F0 m pc ls (.int (nI y) :: .int (nI x) :: rest)) := lv_isub hx hb hdg (by rw [pk_sub h]; exact k)
theorem r_icmp_eq (hx : p.tables.exec = Jvm.exec) (hb : c.code = cc) {x y : Nat} {off : Int} {tgt : Nat} (hdg : decode cc pc = .ok (.if_icmp .eq off, 3)) (ht : (pc : Int) + off = (tgt : Int)) (bx : x < 2 ^ 31) (byy : y < 2 ^ 31) (kt : x = y → W p l e R s m args below meth c H locs cells slots Q (F0 m tgt ls rest)) (kf : ¬ x = y → W p l e R s m args below meth c H locs cells slots Q (F0 m (pc + 3) ls rest)) : W p l e R s m args below meth c H locs cells slots Q (F0 m pc ls (.int (nI y) :: .int (nI x) :: rest)) := lv_icmp_eq hx hb hdg ht (fun h => kt ((nI_eq bx byy).mp h)) (fun h => kf (fun q => h ((nI_eq bx byy).mpr q)))
theorem r_if_eq_n (hx : p.tables.exec = Jvm.exec) (hb : c.code = cc) {x : Nat} {off : Int} {tgt : Nat} (hdg : decode cc pc = .ok (.ifCond .eq off, 3)) (ht : (pc : Int) + off = (tgt : Int)) (bx : x < 2 ^ 31) (kt : x = 0 → W p l e R s m args below meth c H locs cells slots Q (F0 m tgt ls rest)) (kf : ¬ x = 0 → W p l e R s m args below meth c H locs cells slots Q (F0 m (pc + 3) ls rest)) : W p l e R s m args below meth c H locs cells slots Q (F0 m pc ls (.int (nI x) :: rest)) := lv_if_eq hx hb hdg ht (fun h => kt ((nI_eq bx (show 0 < 2 ^ 31 by decide)).mp (by rw [nI_0]; exact h))) (fun h => kf (fun q => h (by have z := (nI_eq bx (show 0 < 2 ^ 31 by decide)).mpr q; rw [nI_0] at z; exact z)))
theorem r_lc_eq (hx : p.tables.exec = Jvm.exec) (hb : c.code = cc) {x y : Int64} {off : Int} {tgt : Nat} (hdg : decode cc pc = .ok (.ifCond .eq off, 3)) (ht : (pc : Int) + off = (tgt : Int)) (kt : x = y → W p l e R s m args below meth c H locs cells slots Q (F0 m tgt ls rest)) (kf : ¬ x = y → W p l e R s m args below meth c H locs cells slots Q (F0 m (pc + 3) ls rest)) : W p l e R s m args below meth c H locs cells slots Q (F0 m pc ls (.int (lg_cmp x y) :: rest)) := lv_if_eq hx hb hdg ht (fun h => kt ((lg_cmp_eq x y).mp h)) (fun h => kf (fun q => h ((lg_cmp_eq x y).mpr q)))
theorem r_icmp_ne (hx : p.tables.exec = Jvm.exec) (hb : c.code = cc) {x y : Nat} {off : Int} {tgt : Nat} (hdg : decode cc pc = .ok (.if_icmp .ne off, 3)) (ht : (pc : Int) + off = (tgt : Int)) (bx : x < 2 ^ 31) (byy : y < 2 ^ 31) (kt : ¬ x = y → W p l e R s m args below meth c H locs cells slots Q (F0 m tgt ls rest)) (kf : x = y → W p l e R s m args below meth c H locs cells slots Q (F0 m (pc + 3) ls rest)) : W p l e R s m args below meth c H locs cells slots Q (F0 m pc ls (.int (nI y) :: .int (nI x) :: rest)) := lv_icmp_ne hx hb hdg ht (fun h => kt (fun q => h ((nI_eq bx byy).mpr q))) (fun h => kf ((nI_eq bx byy).mp h))
theorem r_if_ne_n (hx : p.tables.exec = Jvm.exec) (hb : c.code = cc) {x : Nat} {off : Int} {tgt : Nat} (hdg : decode cc pc = .ok (.ifCond .ne off, 3)) (ht : (pc : Int) + off = (tgt : Int)) (bx : x < 2 ^ 31) (kt : ¬ x = 0 → W p l e R s m args below meth c H locs cells slots Q (F0 m tgt ls rest)) (kf : x = 0 → W p l e R s m args below meth c H locs cells slots Q (F0 m (pc + 3) ls rest)) : W p l e R s m args below meth c H locs cells slots Q (F0 m pc ls (.int (nI x) :: rest)) := lv_if_ne hx hb hdg ht (fun h => kt (fun q => h (by have z := (nI_eq bx (show 0 < 2 ^ 31 by decide)).mpr q; rw [nI_0] at z; exact z))) (fun h => kf ((nI_eq bx (show 0 < 2 ^ 31 by decide)).mp (by rw [nI_0]; exact h)))
theorem r_lc_ne (hx : p.tables.exec = Jvm.exec) (hb : c.code = cc) {x y : Int64} {off : Int} {tgt : Nat} (hdg : decode cc pc = .ok (.ifCond .ne off, 3)) (ht : (pc : Int) + off = (tgt : Int)) (kt : ¬ x = y → W p l e R s m args below meth c H locs cells slots Q (F0 m tgt ls rest)) (kf : x = y → W p l e R s m args below meth c H locs cells slots Q (F0 m (pc + 3) ls rest)) : W p l e R s m args below meth c H locs cells slots Q (F0 m pc ls (.int (lg_cmp x y) :: rest)) := lv_if_ne hx hb hdg ht (fun h => kt (fun q => h ((lg_cmp_eq x y).mpr q))) (fun h => kf ((lg_cmp_eq x y).mp h))
theorem r_icmp_lt (hx : p.tables.exec = Jvm.exec) (hb : c.code = cc) {x y : Nat} {off : Int} {tgt : Nat} (hdg : decode cc pc = .ok (.if_icmp .lt off, 3)) (ht : (pc : Int) + off = (tgt : Int)) (bx : x < 2 ^ 31) (byy : y < 2 ^ 31) (kt : x < y → W p l e R s m args below meth c H locs cells slots Q (F0 m tgt ls rest)) (kf : ¬ x < y → W p l e R s m args below meth c H locs cells slots Q (F0 m (pc + 3) ls rest)) : W p l e R s m args below meth c H locs cells slots Q (F0 m pc ls (.int (nI y) :: .int (nI x) :: rest)) := lv_icmp_lt hx hb hdg ht (fun h => kt ((nI_ltI bx byy).mp h)) (fun h => kf (fun q => h ((nI_ltI bx byy).mpr q)))
theorem r_if_lt_n (hx : p.tables.exec = Jvm.exec) (hb : c.code = cc) {x : Nat} {off : Int} {tgt : Nat} (hdg : decode cc pc = .ok (.ifCond .lt off, 3)) (ht : (pc : Int) + off = (tgt : Int)) (bx : x < 2 ^ 31) (kt : x < 0 → W p l e R s m args below meth c H locs cells slots Q (F0 m tgt ls rest)) (kf : ¬ x < 0 → W p l e R s m args below meth c H locs cells slots Q (F0 m (pc + 3) ls rest)) : W p l e R s m args below meth c H locs cells slots Q (F0 m pc ls (.int (nI x) :: rest)) := lv_if_lt hx hb hdg ht (fun h => kt ((nI_ltI bx (show 0 < 2 ^ 31 by decide)).mp (by rw [nI_0]; exact h))) (fun h => kf (fun q => h (by have z := (nI_ltI bx (show 0 < 2 ^ 31 by decide)).mpr q; rw [nI_0] at z; exact z)))
theorem r_lc_lt (hx : p.tables.exec = Jvm.exec) (hb : c.code = cc) {x y : Int64} {off : Int} {tgt : Nat} (hdg : decode cc pc = .ok (.ifCond .lt off, 3)) (ht : (pc : Int) + off = (tgt : Int)) (kt : x < y → W p l e R s m args below meth c H locs cells slots Q (F0 m tgt ls rest)) (kf : ¬ x < y → W p l e R s m args below meth c H locs cells slots Q (F0 m (pc + 3) ls rest)) : W p l e R s m args below meth c H locs cells slots Q (F0 m pc ls (.int (lg_cmp x y) :: rest)) := lv_if_lt hx hb hdg ht (fun h => kt ((lg_cmp_lt x y).mp h)) (fun h => kf (fun q => h ((lg_cmp_lt x y).mpr q)))
theorem r_icmp_ge (hx : p.tables.exec = Jvm.exec) (hb : c.code = cc) {x y : Nat} {off : Int} {tgt : Nat} (hdg : decode cc pc = .ok (.if_icmp .ge off, 3)) (ht : (pc : Int) + off = (tgt : Int)) (bx : x < 2 ^ 31) (byy : y < 2 ^ 31) (kt : y ≤ x → W p l e R s m args below meth c H locs cells slots Q (F0 m tgt ls rest)) (kf : ¬ y ≤ x → W p l e R s m args below meth c H locs cells slots Q (F0 m (pc + 3) ls rest)) : W p l e R s m args below meth c H locs cells slots Q (F0 m pc ls (.int (nI y) :: .int (nI x) :: rest)) := lv_icmp_ge hx hb hdg ht (fun h => kt ((nI_leI byy bx).mp h)) (fun h => kf (fun q => h ((nI_leI byy bx).mpr q)))
theorem r_if_ge_n (hx : p.tables.exec = Jvm.exec) (hb : c.code = cc) {x : Nat} {off : Int} {tgt : Nat} (hdg : decode cc pc = .ok (.ifCond .ge off, 3)) (ht : (pc : Int) + off = (tgt : Int)) (bx : x < 2 ^ 31) (kt : 0 ≤ x → W p l e R s m args below meth c H locs cells slots Q (F0 m tgt ls rest)) (kf : ¬ 0 ≤ x → W p l e R s m args below meth c H locs cells slots Q (F0 m (pc + 3) ls rest)) : W p l e R s m args below meth c H locs cells slots Q (F0 m pc ls (.int (nI x) :: rest)) := lv_if_ge hx hb hdg ht (fun h => kt ((nI_leI (show 0 < 2 ^ 31 by decide) bx).mp (by rw [nI_0]; exact h))) (fun h => kf (fun q => h (by have z := (nI_leI (show 0 < 2 ^ 31 by decide) bx).mpr q; rw [nI_0] at z; exact z)))
theorem r_lc_ge (hx : p.tables.exec = Jvm.exec) (hb : c.code = cc) {x y : Int64} {off : Int} {tgt : Nat} (hdg : decode cc pc = .ok (.ifCond .ge off, 3)) (ht : (pc : Int) + off = (tgt : Int)) (kt : y ≤ x → W p l e R s m args below meth c H locs cells slots Q (F0 m tgt ls rest)) (kf : ¬ y ≤ x → W p l e R s m args below meth c H locs cells slots Q (F0 m (pc + 3) ls rest)) : W p l e R s m args below meth c H locs cells slots Q (F0 m pc ls (.int (lg_cmp x y) :: rest)) := lv_if_ge hx hb hdg ht (fun h => kt ((lg_cmp_ge x y).mp h)) (fun h => kf (fun q => h ((lg_cmp_ge x y).mpr q)))
theorem r_icmp_gt (hx : p.tables.exec = Jvm.exec) (hb : c.code = cc) {x y : Nat} {off : Int} {tgt : Nat} (hdg : decode cc pc = .ok (.if_icmp .gt off, 3)) (ht : (pc : Int) + off = (tgt : Int)) (bx : x < 2 ^ 31) (byy : y < 2 ^ 31) (kt : y < x → W p l e R s m args below meth c H locs cells slots Q (F0 m tgt ls rest)) (kf : ¬ y < x → W p l e R s m args below meth c H locs cells slots Q (F0 m (pc + 3) ls rest)) : W p l e R s m args below meth c H locs cells slots Q (F0 m pc ls (.int (nI y) :: .int (nI x) :: rest)) := lv_icmp_gt hx hb hdg ht (fun h => kt ((nI_ltI byy bx).mp h)) (fun h => kf (fun q => h ((nI_ltI byy bx).mpr q)))
theorem r_if_gt_n (hx : p.tables.exec = Jvm.exec) (hb : c.code = cc) {x : Nat} {off : Int} {tgt : Nat} (hdg : decode cc pc = .ok (.ifCond .gt off, 3)) (ht : (pc : Int) + off = (tgt : Int)) (bx : x < 2 ^ 31) (kt : 0 < x → W p l e R s m args below meth c H locs cells slots Q (F0 m tgt ls rest)) (kf : ¬ 0 < x → W p l e R s m args below meth c H locs cells slots Q (F0 m (pc + 3) ls rest)) : W p l e R s m args below meth c H locs cells slots Q (F0 m pc ls (.int (nI x) :: rest)) := lv_if_gt hx hb hdg ht (fun h => kt ((nI_ltI (show 0 < 2 ^ 31 by decide) bx).mp (by rw [nI_0]; exact h))) (fun h => kf (fun q => h (by have z := (nI_ltI (show 0 < 2 ^ 31 by decide) bx).mpr q; rw [nI_0] at z; exact z)))
theorem r_lc_gt (hx : p.tables.exec = Jvm.exec) (hb : c.code = cc) {x y : Int64} {off : Int} {tgt : Nat} (hdg : decode cc pc = .ok (.ifCond .gt off, 3)) (ht : (pc : Int) + off = (tgt : Int)) (kt : y < x → W p l e R s m args below meth c H locs cells slots Q (F0 m tgt ls rest)) (kf : ¬ y < x → W p l e R s m args below meth c H locs cells slots Q (F0 m (pc + 3) ls rest)) : W p l e R s m args below meth c H locs cells slots Q (F0 m pc ls (.int (lg_cmp x y) :: rest)) := lv_if_gt hx hb hdg ht (fun h => kt ((lg_cmp_gt x y).mp h)) (fun h => kf (fun q => h ((lg_cmp_gt x y).mpr q)))
theorem r_icmp_le (hx : p.tables.exec = Jvm.exec) (hb : c.code = cc) {x y : Nat} {off : Int} {tgt : Nat} (hdg : decode cc pc = .ok (.if_icmp .le off, 3)) (ht : (pc : Int) + off = (tgt : Int)) (bx : x < 2 ^ 31) (byy : y < 2 ^ 31) (kt : x ≤ y → W p l e R s m args below meth c H locs cells slots Q (F0 m tgt ls rest)) (kf : ¬ x ≤ y → W p l e R s m args below meth c H locs cells slots Q (F0 m (pc + 3) ls rest)) : W p l e R s m args below meth c H locs cells slots Q (F0 m pc ls (.int (nI y) :: .int (nI x) :: rest)) := lv_icmp_le hx hb hdg ht (fun h => kt ((nI_leI bx byy).mp h)) (fun h => kf (fun q => h ((nI_leI bx byy).mpr q)))
theorem r_if_le_n (hx : p.tables.exec = Jvm.exec) (hb : c.code = cc) {x : Nat} {off : Int} {tgt : Nat} (hdg : decode cc pc = .ok (.ifCond .le off, 3)) (ht : (pc : Int) + off = (tgt : Int)) (bx : x < 2 ^ 31) (kt : x ≤ 0 → W p l e R s m args below meth c H locs cells slots Q (F0 m tgt ls rest)) (kf : ¬ x ≤ 0 → W p l e R s m args below meth c H locs cells slots Q (F0 m (pc + 3) ls rest)) : W p l e R s m args below meth c H locs cells slots Q (F0 m pc ls (.int (nI x) :: rest)) := lv_if_le hx hb hdg ht (fun h => kt ((nI_leI bx (show 0 < 2 ^ 31 by decide)).mp (by rw [nI_0]; exact h))) (fun h => kf (fun q => h (by have z := (nI_leI bx (show 0 < 2 ^ 31 by decide)).mpr q; rw [nI_0] at z; exact z)))
theorem r_lc_le (hx : p.tables.exec = Jvm.exec) (hb : c.code = cc) {x y : Int64} {off : Int} {tgt : Nat} (hdg : decode cc pc = .ok (.ifCond .le off, 3)) (ht : (pc : Int) + off = (tgt : Int)) (kt : x ≤ y → W p l e R s m args below meth c H locs cells slots Q (F0 m tgt ls rest)) (kf : ¬ x ≤ y → W p l e R s m args below meth c H locs cells slots Q (F0 m (pc + 3) ls rest)) : W p l e R s m args below meth c H locs cells slots Q (F0 m pc ls (.int (lg_cmp x y) :: rest)) := lv_if_le hx hb hdg ht (fun h => kt ((lg_cmp_le x y).mp h)) (fun h => kf (fun q => h ((lg_cmp_le x y).mpr q)))
theorem r_if_eq_b (hx : p.tables.exec = Jvm.exec) (hb : c.code = cc) {P : Prop} [Decidable P] {off : Int} {tgt : Nat} (hdg : decode cc pc = .ok (.ifCond .eq off, 3)) (ht : (pc : Int) + off = (tgt : Int)) (kt : ¬ P → W p l e R s m args below meth c H locs cells slots Q (F0 m tgt ls rest)) (kf : P → W p l e R s m args below meth c H locs cells slots Q (F0 m (pc + 3) ls rest)) : W p l e R s m args below meth c H locs cells slots Q (F0 m pc ls (.int (nI (bN P)) :: rest)) := lv_if_eq hx hb hdg ht (fun h => kt (bN_eq0 h)) (fun h => kf (bN_ne0 h))
theorem r_if_ne_b (hx : p.tables.exec = Jvm.exec) (hb : c.code = cc) {P : Prop} [Decidable P] {off : Int} {tgt : Nat} (hdg : decode cc pc = .ok (.ifCond .ne off, 3)) (ht : (pc : Int) + off = (tgt : Int)) (kt : P → W p l e R s m args below meth c H locs cells slots Q (F0 m tgt ls rest)) (kf : ¬ P → W p l e R s m args below meth c H locs cells slots Q (F0 m (pc + 3) ls rest)) : W p l e R s m args below meth c H locs cells slots Q (F0 m pc ls (.int (nI (bN P)) :: rest)) := lv_if_ne hx hb hdg ht (fun h => kt (bN_ne0 h)) (fun h => kf (bN_eq0 h))
theorem r_iald_n (hx : p.tables.exec = Jvm.exec) (hb : c.code = cc) (hK : va_K D cl tys s) (hP : va_P D cl ws H) (q0 t0 : Nat) {cA : ClassId} {n : Nat} {f : Nat → Nat} (ha : ws[q0]? = some (a, .inl (cA, n, .inl (fun j => nI (f j))))) (ht : tys[t0]? = some (cA, .int)) {i : Nat} (hi : i < n) (hn : n < 2 ^ 31) (hdg : decode cc pc = .ok (.iaload, 1)) (kk : W p l e R s m args below meth c H locs cells slots Q (F0 m (pc + 1) ls (.int (nI (f i)) :: rest))) : W p l e R s m args below meth c H locs cells slots Q (F0 m pc ls (.int (nI i) :: .ref a :: rest)) := by
  refine va_iald hx hb hK hP q0 t0 ha ht (vp_in_nI hi hn) hdg ?_
  rw [nI_clamp (by omega)]
  exact kk
theorem r_iald_x (hx : p.tables.exec = Jvm.exec) (hb : c.code = cc) (hK : va_K D cl tys s) (hP : va_P D cl ws H) (q0 t0 : Nat) {cA : ClassId} {n : Nat} {f : Nat → Int32} (ha : ws[q0]? = some (a, .inl (cA, n, .inl (f)))) (ht : tys[t0]? = some (cA, .int)) {i : Nat} (hi : i < n) (hn : n < 2 ^ 31) (hdg : decode cc pc = .ok (.iaload, 1)) (kk : W p l e R s m args below meth c H locs cells slots Q (F0 m (pc + 1) ls (.int (f i) :: rest))) : W p l e R s m args below meth c H locs cells slots Q (F0 m pc ls (.int (nI i) :: .ref a :: rest)) := by
  refine va_iald hx hb hK hP q0 t0 ha ht (vp_in_nI hi hn) hdg ?_
  rw [nI_clamp (by omega)]
  exact kk
theorem r_zald_n (hx : p.tables.exec = Jvm.exec) (hb : c.code = cc) (hK : va_K D cl tys s) (hP : va_P D cl ws H) (q0 t0 : Nat) {cA : ClassId} {n : Nat} {f : Nat → Nat} (ha : ws[q0]? = some (a, .inl (cA, n, .inl (fun j => nI (f j))))) (ht : tys[t0]? = some (cA, .boolean)) {i : Nat} (hi : i < n) (hn : n < 2 ^ 31) (hdg : decode cc pc = .ok (.baload, 1)) (kk : W p l e R s m args below meth c H locs cells slots Q (F0 m (pc + 1) ls (.int (nI (f i)) :: rest))) : W p l e R s m args below meth c H locs cells slots Q (F0 m pc ls (.int (nI i) :: .ref a :: rest)) := by
  refine va_zald hx hb hK hP q0 t0 ha ht (vp_in_nI hi hn) hdg ?_
  rw [nI_clamp (by omega)]
  exact kk
theorem r_zald_x (hx : p.tables.exec = Jvm.exec) (hb : c.code = cc) (hK : va_K D cl tys s) (hP : va_P D cl ws H) (q0 t0 : Nat) {cA : ClassId} {n : Nat} {f : Nat → Int32} (ha : ws[q0]? = some (a, .inl (cA, n, .inl (f)))) (ht : tys[t0]? = some (cA, .boolean)) {i : Nat} (hi : i < n) (hn : n < 2 ^ 31) (hdg : decode cc pc = .ok (.baload, 1)) (kk : W p l e R s m args below meth c H locs cells slots Q (F0 m (pc + 1) ls (.int (f i) :: rest))) : W p l e R s m args below meth c H locs cells slots Q (F0 m pc ls (.int (nI i) :: .ref a :: rest)) := by
  refine va_zald hx hb hK hP q0 t0 ha ht (vp_in_nI hi hn) hdg ?_
  rw [nI_clamp (by omega)]
  exact kk
theorem r_bald_n (hx : p.tables.exec = Jvm.exec) (hb : c.code = cc) (hK : va_K D cl tys s) (hP : va_P D cl ws H) (q0 t0 : Nat) {cA : ClassId} {n : Nat} {f : Nat → Nat} (ha : ws[q0]? = some (a, .inl (cA, n, .inl (fun j => nI (f j))))) (ht : tys[t0]? = some (cA, .byte)) {i : Nat} (hi : i < n) (hn : n < 2 ^ 31) (hdg : decode cc pc = .ok (.baload, 1)) (kk : W p l e R s m args below meth c H locs cells slots Q (F0 m (pc + 1) ls (.int (nI (f i)) :: rest))) : W p l e R s m args below meth c H locs cells slots Q (F0 m pc ls (.int (nI i) :: .ref a :: rest)) := by
  refine va_bald hx hb hK hP q0 t0 ha ht (vp_in_nI hi hn) hdg ?_
  rw [nI_clamp (by omega)]
  exact kk
theorem r_bald_x (hx : p.tables.exec = Jvm.exec) (hb : c.code = cc) (hK : va_K D cl tys s) (hP : va_P D cl ws H) (q0 t0 : Nat) {cA : ClassId} {n : Nat} {f : Nat → Int32} (ha : ws[q0]? = some (a, .inl (cA, n, .inl (f)))) (ht : tys[t0]? = some (cA, .byte)) {i : Nat} (hi : i < n) (hn : n < 2 ^ 31) (hdg : decode cc pc = .ok (.baload, 1)) (kk : W p l e R s m args below meth c H locs cells slots Q (F0 m (pc + 1) ls (.int (f i) :: rest))) : W p l e R s m args below meth c H locs cells slots Q (F0 m pc ls (.int (nI i) :: .ref a :: rest)) := by
  refine va_bald hx hb hK hP q0 t0 ha ht (vp_in_nI hi hn) hdg ?_
  rw [nI_clamp (by omega)]
  exact kk
theorem r_cald_n (hx : p.tables.exec = Jvm.exec) (hb : c.code = cc) (hK : va_K D cl tys s) (hP : va_P D cl ws H) (q0 t0 : Nat) {cA : ClassId} {n : Nat} {f : Nat → Nat} (ha : ws[q0]? = some (a, .inl (cA, n, .inl (fun j => nI (f j))))) (ht : tys[t0]? = some (cA, .char)) {i : Nat} (hi : i < n) (hn : n < 2 ^ 31) (hdg : decode cc pc = .ok (.caload, 1)) (kk : W p l e R s m args below meth c H locs cells slots Q (F0 m (pc + 1) ls (.int (nI (f i)) :: rest))) : W p l e R s m args below meth c H locs cells slots Q (F0 m pc ls (.int (nI i) :: .ref a :: rest)) := by
  refine va_cald hx hb hK hP q0 t0 ha ht (vp_in_nI hi hn) hdg ?_
  rw [nI_clamp (by omega)]
  exact kk
theorem r_cald_x (hx : p.tables.exec = Jvm.exec) (hb : c.code = cc) (hK : va_K D cl tys s) (hP : va_P D cl ws H) (q0 t0 : Nat) {cA : ClassId} {n : Nat} {f : Nat → Int32} (ha : ws[q0]? = some (a, .inl (cA, n, .inl (f)))) (ht : tys[t0]? = some (cA, .char)) {i : Nat} (hi : i < n) (hn : n < 2 ^ 31) (hdg : decode cc pc = .ok (.caload, 1)) (kk : W p l e R s m args below meth c H locs cells slots Q (F0 m (pc + 1) ls (.int (f i) :: rest))) : W p l e R s m args below meth c H locs cells slots Q (F0 m pc ls (.int (nI i) :: .ref a :: rest)) := by
  refine va_cald hx hb hK hP q0 t0 ha ht (vp_in_nI hi hn) hdg ?_
  rw [nI_clamp (by omega)]
  exact kk
theorem r_lald_y (hx : p.tables.exec = Jvm.exec) (hb : c.code = cc) (hK : va_K D cl tys s) (hP : va_P D cl ws H) (q0 t0 : Nat) {cA : ClassId} {n : Nat} {f : Nat → Int64} (ha : ws[q0]? = some (a, .inl (cA, n, .inr (.inl f)))) (ht : tys[t0]? = some (cA, .long)) {i : Nat} (hi : i < n) (hn : n < 2 ^ 31) (hdg : decode cc pc = .ok (.laload, 1)) (kk : W p l e R s m args below meth c H locs cells slots Q (F0 m (pc + 1) ls (.long (f i) :: rest))) : W p l e R s m args below meth c H locs cells slots Q (F0 m pc ls (.int (nI i) :: .ref a :: rest)) := by
  refine va_lald hx hb hK hP q0 t0 ha ht (vp_in_nI hi hn) hdg ?_
  rw [nI_clamp (by omega)]
  exact kk
theorem r_updn {f : Nat → Nat} {i x : Nat} : upd (fun j => nI (f j)) i (nI x) = fun j => nI (if j = i then x else f j) := by
  funext j; unfold upd; by_cases h : j = i
  · rw [if_pos h, if_pos h]
  · rw [if_neg h, if_neg h]
theorem r_iast_n (hx : p.tables.exec = Jvm.exec) (hb : c.code = cc) (hK : va_K D cl tys s) (hP : va_P D cl ws H) (hD : va_D A ws) (hS : va_S A H0 H locs) (q0 t0 : Nat) {cA : ClassId} {n : Nat} {f : Nat → Nat} (ha : ws[q0]? = some (a, .inl (cA, n, .inl (fun j => nI (f j))))) (ht : tys[t0]? = some (cA, .int)) {i x : Nat} (hi : i < n) (hn : n < 2 ^ 31) (hdg : decode cc pc = .ok (.iastore, 1)) (kk : ∀ (H1 : Heap) (locs1 : List Loc), va_P D cl (ws.set q0 (a, .inl (cA, n, .inl (fun j => nI (if j = i then x else f j))))) H1 → va_D A (ws.set q0 (a, .inl (cA, n, .inl (fun j => nI (if j = i then x else f j))))) → va_S A H0 H1 locs1 → W p l e R s m args below meth c H1 locs1 cells slots Q (F0 m (pc + 1) ls rest)) : W p l e R s m args below meth c H locs cells slots Q (F0 m pc ls (.int (nI x) :: .int (nI i) :: .ref a :: rest)) := by
  refine va_iast hx hb hK hP hD hS q0 t0 ha ht (vp_in_nI hi hn) hdg (fun H1 locs1 h1 h2 h3 => ?_)
  rw [nI_clamp (by omega), r_updn] at h1 h2
  exact kk H1 locs1 h1 h2 h3
theorem r_zast_n (hx : p.tables.exec = Jvm.exec) (hb : c.code = cc) (hK : va_K D cl tys s) (hP : va_P D cl ws H) (hD : va_D A ws) (hS : va_S A H0 H locs) (q0 t0 : Nat) {cA : ClassId} {n : Nat} {f : Nat → Nat} (ha : ws[q0]? = some (a, .inl (cA, n, .inl (fun j => nI (f j))))) (ht : tys[t0]? = some (cA, .boolean)) {i x : Nat} (hi : i < n) (hn : n < 2 ^ 31) (hv : x ≤ 1) (hdg : decode cc pc = .ok (.bastore, 1)) (kk : ∀ (H1 : Heap) (locs1 : List Loc), va_P D cl (ws.set q0 (a, .inl (cA, n, .inl (fun j => nI (if j = i then x else f j))))) H1 → va_D A (ws.set q0 (a, .inl (cA, n, .inl (fun j => nI (if j = i then x else f j))))) → va_S A H0 H1 locs1 → W p l e R s m args below meth c H1 locs1 cells slots Q (F0 m (pc + 1) ls rest)) : W p l e R s m args below meth c H locs cells slots Q (F0 m pc ls (.int (nI x) :: .int (nI i) :: .ref a :: rest)) := by
  refine va_zast hx hb hK hP hD hS q0 t0 ha ht (vp_in_nI hi hn) hdg (fun H1 locs1 h1 h2 h3 => ?_)
  rw [nI_clamp (by omega), r_vz hv, r_updn] at h1 h2
  exact kk H1 locs1 h1 h2 h3
theorem r_cast_n (hx : p.tables.exec = Jvm.exec) (hb : c.code = cc) (hK : va_K D cl tys s) (hP : va_P D cl ws H) (hD : va_D A ws) (hS : va_S A H0 H locs) (q0 t0 : Nat) {cA : ClassId} {n : Nat} {f : Nat → Nat} (ha : ws[q0]? = some (a, .inl (cA, n, .inl (fun j => nI (f j))))) (ht : tys[t0]? = some (cA, .char)) {i x : Nat} (hi : i < n) (hn : n < 2 ^ 31) (hv : x ≤ 65535) (hdg : decode cc pc = .ok (.castore, 1)) (kk : ∀ (H1 : Heap) (locs1 : List Loc), va_P D cl (ws.set q0 (a, .inl (cA, n, .inl (fun j => nI (if j = i then x else f j))))) H1 → va_D A (ws.set q0 (a, .inl (cA, n, .inl (fun j => nI (if j = i then x else f j))))) → va_S A H0 H1 locs1 → W p l e R s m args below meth c H1 locs1 cells slots Q (F0 m (pc + 1) ls rest)) : W p l e R s m args below meth c H locs cells slots Q (F0 m pc ls (.int (nI x) :: .int (nI i) :: .ref a :: rest)) := by
  refine va_cast hx hb hK hP hD hS q0 t0 ha ht (vp_in_nI hi hn) hdg (fun H1 locs1 h1 h2 h3 => ?_)
  rw [nI_clamp (by omega), r_vc hv, r_updn] at h1 h2
  exact kk H1 locs1 h1 h2 h3
theorem r_iast_x (hx : p.tables.exec = Jvm.exec) (hb : c.code = cc) (hK : va_K D cl tys s) (hP : va_P D cl ws H) (hD : va_D A ws) (hS : va_S A H0 H locs) (q0 t0 : Nat) {cA : ClassId} {n : Nat} {f : Nat → Int32} (ha : ws[q0]? = some (a, .inl (cA, n, .inl f))) (ht : tys[t0]? = some (cA, .int)) {i : Nat} {x : Int32} (hi : i < n) (hn : n < 2 ^ 31) (hdg : decode cc pc = .ok (.iastore, 1)) (kk : ∀ (H1 : Heap) (locs1 : List Loc), va_P D cl (ws.set q0 (a, .inl (cA, n, .inl (fun j => if j = i then x else f j)))) H1 → va_D A (ws.set q0 (a, .inl (cA, n, .inl (fun j => if j = i then x else f j)))) → va_S A H0 H1 locs1 → W p l e R s m args below meth c H1 locs1 cells slots Q (F0 m (pc + 1) ls rest)) : W p l e R s m args below meth c H locs cells slots Q (F0 m pc ls (.int x :: .int (nI i) :: .ref a :: rest)) := by
  refine va_iast hx hb hK hP hD hS q0 t0 ha ht (vp_in_nI hi hn) hdg (fun H1 locs1 h1 h2 h3 => ?_)
  rw [nI_clamp (by omega)] at h1 h2
  exact kk H1 locs1 h1 h2 h3
theorem r_last_y (hx : p.tables.exec = Jvm.exec) (hb : c.code = cc) (hK : va_K D cl tys s) (hP : va_P D cl ws H) (hD : va_D A ws) (hS : va_S A H0 H locs) (q0 t0 : Nat) {cA : ClassId} {n : Nat} {f : Nat → Int64} (ha : ws[q0]? = some (a, .inl (cA, n, .inr (.inl f)))) (ht : tys[t0]? = some (cA, .long)) {i : Nat} {x : Int64} (hi : i < n) (hn : n < 2 ^ 31) (hdg : decode cc pc = .ok (.lastore, 1)) (kk : ∀ (H1 : Heap) (locs1 : List Loc), va_P D cl (ws.set q0 (a, .inl (cA, n, .inr (.inl (fun j => if j = i then x else f j))))) H1 → va_D A (ws.set q0 (a, .inl (cA, n, .inr (.inl (fun j => if j = i then x else f j))))) → va_S A H0 H1 locs1 → W p l e R s m args below meth c H1 locs1 cells slots Q (F0 m (pc + 1) ls rest)) : W p l e R s m args below meth c H locs cells slots Q (F0 m pc ls (.long x :: .int (nI i) :: .ref a :: rest)) := by
  refine va_last hx hb hK hP hD hS q0 t0 ha ht (vp_in_nI hi hn) hdg (fun H1 locs1 h1 h2 h3 => ?_)
  rw [nI_clamp (by omega)] at h1 h2
  exact kk H1 locs1 h1 h2 h3
variable {y : MethodName} {bytes : ByteArray} {maxL nL n index : Nat} {ret : Option FieldType} {w0 : List Cond} {rm : Room} {Ts : List Cond} {own C : String} {b : Addr} {As : List Value} {st : List Value}
theorem r_callR {r : Value} (F : CallFix p m c cc nL s args Ts own) (hM : Met l y w0 rm (va_Pc (Value.ref b :: As) (wPre D cl ws tys)) (k2_QcV r) 0 0 (fun _ => False)) (cw : CallW R s args own C index y bytes maxL ret w0 rm 0 0 n) (hrecv : ∃ cellB : Cell, H[b]? = some cellB ∧ cellB.vm.isStatics = false ∧ s.vm.findClass C = some cellB.cls) (hP : va_P D cl ws H) (hK : va_K D cl tys s)
    (hn : As.length = n) (hsz : ls.size = nL) (hst : st = As.reverse ++ .ref b :: rest) (hW : (rest.map fun v => v.category).sum ≤ 8) (hdg : decode cc pc = .ok (.invokevirtual index, 3)) (hf : cells + 0 ≤ R.cells ∧ slots + 0 ≤ R.slots) (kk : W p l e R s m args below meth c H locs cells slots Q (F0 m (pc + 3) ls (r :: rest))) : W p l e R s m args below meth c H locs cells slots Q (F0 m pc ls st) :=
  W.callV (W.runV (As := As) (rest := rest) F hM cw ⟨wPre_blind, hrecv, fun U hU hW => ⟨rfl, by rw [hU]; exact hP, va_K.moved hW.alike hK⟩⟩ rfl hn hsz hst (lv_room hW) hdg hf) kk
theorem r_callS {r : Value} (F : CallFix p m c cc nL s args Ts own) (hM : Met l y w0 rm (va_Pc As (fun _ => True)) (k2_QcV r) 0 0 (fun _ => False)) (cw : CallB R s args own index y bytes maxL ret w0 rm 0 0 n ∧ (Cond.static y).before args s = true)
    (hn : As.length = n) (hsz : ls.size = nL) (hst : st = As.reverse ++ rest) (hW : (rest.map fun v => v.category).sum ≤ 8) (hdg : decode cc pc = .ok (.invokestatic index, 3)) (hf : cells + 0 ≤ R.cells ∧ slots + 0 ≤ R.slots) (kk : W p l e R s m args below meth c H locs cells slots Q (F0 m (pc + 3) ls (r :: rest))) : W p l e R s m args below meth c H locs cells slots Q (F0 m pc ls st) :=
  W.callV (W.runS (As := As) (rest := rest) F hM cw ⟨fun _ _ _ _ q => q, fun U hU hW => ⟨rfl, trivial⟩⟩ rfl hn hsz hst (lv_room hW) hdg hf) kk
/-- a call that writes the world: A1 what it may write, A0 what the caller may -/
theorem r_callWL {r : Option Value} {ws' : va_W} {A1 : Nat → Prop} {B1 : Prop} (F : CallFix p m c cc nL s args Ts own) (hM : Met l y w0 rm (va_Pc (Value.ref b :: As) (wPre D cl ws tys)) (wQ r D cl ws' A1 B1) 0 0 A1) (cw : CallW R s args own C index y bytes maxL ret w0 rm 0 0 n) (hrecv : ∃ cellB : Cell, H[b]? = some cellB ∧ cellB.vm.isStatics = false ∧ s.vm.findClass C = some cellB.cls) (hP : va_P D cl ws H) (hK : va_K D cl tys s) (hAA : ∀ q, A1 q → A q) (hS : va_S A H0 H locs)
    (hn : As.length = n) (hsz : ls.size = nL) (hst : st = As.reverse ++ .ref b :: rest) (hW : (rest.map fun v => v.category).sum ≤ 8) (hdg : decode cc pc = .ok (.invokevirtual index, 3)) (hf : cells + 0 ≤ R.cells ∧ slots + 0 ≤ R.slots)
    (kk : ∀ (H1 : Heap) (locs1 : List Loc), va_P D cl ws' H1 → va_S A H0 H1 locs1 → H.size ≤ H1.size → (∀ q : Nat, q < H.size → ¬ A1 q → H1[q]? = H[q]?) → B1 → W p l e R s m args below meth c H1 locs1 cells slots Q (F0 m (pc + 3) ls (r.toList ++ rest))) : W p l e R s m args below meth c H locs cells slots Q (F0 m pc ls st) := by
  intro T hT X
  obtain ⟨v, st₀, t, T', L, h0, X', hL, e1, e2, ⟨hv, hp, ⟨hz, hk⟩, hB⟩, stp⟩ := (va_runV (As := As) (rest := rest) (g := F0 m pc ls st) F hM cw ⟨wPre_blind, hrecv, fun U hU hW => ⟨rfl, by rw [hU]; exact hP, va_K.moved hW.alike hK⟩⟩ rfl hn hsz hst (lv_room hW) hdg hf) T hT X
  cases hv
  rw [h0] at hz hk
  obtain ⟨t2, a1, b1⟩ := kk T'.heap (locs ++ L) (by rw [e1]; exact hp) ⟨Nat.le_trans hS.1 (by rw [e1]; exact hz), fun q h1 h2 => by rw [e1, hk q (Nat.lt_of_lt_of_le h1 hS.1) (fun z => h2 (hAA q z))]; exact hS.2.1 q h1 h2, fun q hq => by
      rcases List.mem_append.mp hq with h | h
      · exact hS.2.2 q h
      · exact hAA _ (hL q h)⟩ (by rw [e1]; exact hz) (fun q h1 h2 => by rw [e1]; exact hk q h1 h2) hB T' rfl X'
  exact ⟨t2, stp t2 a1, b1⟩
theorem r_callW {r : Option Value} {ws' : va_W} {st' : List Value} {B1 : Prop} (F : CallFix p m c cc nL s args Ts own) (hM : Met l y w0 rm (va_Pc (Value.ref b :: As) (wPre D cl ws tys)) (wQ r D cl ws' A B1) 0 0 A) (cw : CallW R s args own C index y bytes maxL ret w0 rm 0 0 n) (hrecv : ∃ cellB : Cell, H[b]? = some cellB ∧ cellB.vm.isStatics = false ∧ s.vm.findClass C = some cellB.cls) (hP : va_P D cl ws H) (hK : va_K D cl tys s) (hst' : r.toList ++ rest = st') (hS : va_S A H0 H locs)
    (hn : As.length = n) (hsz : ls.size = nL) (hst : st = As.reverse ++ .ref b :: rest) (hW : (rest.map fun v => v.category).sum ≤ 8) (hdg : decode cc pc = .ok (.invokevirtual index, 3)) (hf : cells + 0 ≤ R.cells ∧ slots + 0 ≤ R.slots)
    (kk : ∀ (H1 : Heap) (locs1 : List Loc), va_P D cl ws' H1 → va_S A H0 H1 locs1 → B1 → W p l e R s m args below meth c H1 locs1 cells slots Q (F0 m (pc + 3) ls st')) : W p l e R s m args below meth c H locs cells slots Q (F0 m pc ls st) :=
  r_callWL F hM cw hrecv hP hK (fun _ h => h) hS hn hsz hst hW hdg hf (fun H1 locs1 h1 h2 _ _ h3 => by rw [hst']; exact kk H1 locs1 h1 h2 h3)
end RB
theorem r_out {x : Int32} {lo hi : Int} (h : ¬ (lo ≤ x.toInt ∧ x.toInt ≤ hi)) : x.toInt < lo ∨ hi < x.toInt := by omega
end
section
theorem dX0_init_0 : decode cX0_init 0 = .ok (.aload_n 0, 1) := by decide +kernel
theorem dX0_init_1 : decode cX0_init 1 = .ok (.invokespecial 5, 3) := by decide +kernel
theorem dX0_init_4 : decode cX0_init 4 = .ok (.aload_n 0, 1) := by decide +kernel
theorem dX0_init_5 : decode cX0_init 5 = .ok (.iconst 0, 1) := by decide +kernel
theorem dX0_init_6 : decode cX0_init 6 = .ok (.putfield 11, 3) := by decide +kernel
theorem dX0_init_9 : decode cX0_init 9 = .ok (.aload_n 0, 1) := by decide +kernel
theorem dX0_init_10 : decode cX0_init 10 = .ok (.sipush 300, 3) := by decide +kernel
theorem dX0_init_13 : decode cX0_init 13 = .ok (.newarray .int, 2) := by decide +kernel
theorem dX0_init_15 : decode cX0_init 15 = .ok (.putfield 17, 3) := by decide +kernel
theorem dX0_init_18 : decode cX0_init 18 = .ok (.aload_n 0, 1) := by decide +kernel
theorem dX0_init_19 : decode cX0_init 19 = .ok (.sipush 300, 3) := by decide +kernel
theorem dX0_init_22 : decode cX0_init 22 = .ok (.newarray .int, 2) := by decide +kernel
theorem dX0_init_24 : decode cX0_init 24 = .ok (.putfield 21, 3) := by decide +kernel
theorem dX0_init_27 : decode cX0_init 27 = .ok (.aload_n 0, 1) := by decide +kernel
theorem dX0_init_28 : decode cX0_init 28 = .ok (.sipush 300, 3) := by decide +kernel
theorem dX0_init_31 : decode cX0_init 31 = .ok (.newarray .boolean, 2) := by decide +kernel
theorem dX0_init_33 : decode cX0_init 33 = .ok (.putfield 24, 3) := by decide +kernel
theorem dX0_init_36 : decode cX0_init 36 = .ok (.return_, 1) := by decide +kernel
theorem dX0_add_0 : decode cX0_add 0 = .ok (.aload_n 0, 1) := by decide +kernel
theorem dX0_add_1 : decode cX0_add 1 = .ok (.getfield 11, 3) := by decide +kernel
theorem dX0_add_4 : decode cX0_add 4 = .ok (.sipush 300, 3) := by decide +kernel
theorem dX0_add_7 : decode cX0_add 7 = .ok (.if_icmp .ge 33, 3) := by decide +kernel
theorem dX0_add_10 : decode cX0_add 10 = .ok (.aload_n 0, 1) := by decide +kernel
theorem dX0_add_11 : decode cX0_add 11 = .ok (.getfield 17, 3) := by decide +kernel
theorem dX0_add_14 : decode cX0_add 14 = .ok (.aload_n 0, 1) := by decide +kernel
theorem dX0_add_15 : decode cX0_add 15 = .ok (.getfield 11, 3) := by decide +kernel
theorem dX0_add_18 : decode cX0_add 18 = .ok (.iload_n 2, 1) := by decide +kernel
theorem dX0_add_19 : decode cX0_add 19 = .ok (.iastore, 1) := by decide +kernel
theorem dX0_add_20 : decode cX0_add 20 = .ok (.aload_n 0, 1) := by decide +kernel
theorem dX0_add_21 : decode cX0_add 21 = .ok (.getfield 21, 3) := by decide +kernel
theorem dX0_add_24 : decode cX0_add 24 = .ok (.aload_n 0, 1) := by decide +kernel
theorem dX0_add_25 : decode cX0_add 25 = .ok (.getfield 11, 3) := by decide +kernel
theorem dX0_add_28 : decode cX0_add 28 = .ok (.iload_n 1, 1) := by decide +kernel
theorem dX0_add_29 : decode cX0_add 29 = .ok (.iastore, 1) := by decide +kernel
theorem dX0_add_30 : decode cX0_add 30 = .ok (.aload_n 0, 1) := by decide +kernel
theorem dX0_add_31 : decode cX0_add 31 = .ok (.dup, 1) := by decide +kernel
theorem dX0_add_32 : decode cX0_add 32 = .ok (.getfield 11, 3) := by decide +kernel
theorem dX0_add_35 : decode cX0_add 35 = .ok (.iconst 1, 1) := by decide +kernel
theorem dX0_add_36 : decode cX0_add 36 = .ok (.iadd, 1) := by decide +kernel
theorem dX0_add_37 : decode cX0_add 37 = .ok (.putfield 11, 3) := by decide +kernel
theorem dX0_add_40 : decode cX0_add 40 = .ok (.return_, 1) := by decide +kernel
theorem dX0_isTaken_0 : decode cX0_isTaken 0 = .ok (.aload_n 0, 1) := by decide +kernel
theorem dX0_isTaken_1 : decode cX0_isTaken 1 = .ok (.iload_n 1, 1) := by decide +kernel
theorem dX0_isTaken_2 : decode cX0_isTaken 2 = .ok (.invokevirtual 28, 3) := by decide +kernel
theorem dX0_isTaken_5 : decode cX0_isTaken 5 = .ok (.iconst (-1), 1) := by decide +kernel
theorem dX0_isTaken_6 : decode cX0_isTaken 6 = .ok (.if_icmp .eq 7, 3) := by decide +kernel
theorem dX0_isTaken_9 : decode cX0_isTaken 9 = .ok (.iconst 1, 1) := by decide +kernel
theorem dX0_isTaken_10 : decode cX0_isTaken 10 = .ok (.goto 4, 3) := by decide +kernel
theorem dX0_isTaken_13 : decode cX0_isTaken 13 = .ok (.iconst 0, 1) := by decide +kernel
theorem dX0_isTaken_14 : decode cX0_isTaken 14 = .ok (.ireturn, 1) := by decide +kernel
theorem dX0_holderOfGood_0 : decode cX0_holderOfGood 0 = .ok (.aload_n 0, 1) := by decide +kernel
theorem dX0_holderOfGood_1 : decode cX0_holderOfGood 1 = .ok (.iload_n 1, 1) := by decide +kernel
theorem dX0_holderOfGood_2 : decode cX0_holderOfGood 2 = .ok (.invokevirtual 28, 3) := by decide +kernel
theorem dX0_holderOfGood_5 : decode cX0_holderOfGood 5 = .ok (.istore_n 2, 1) := by decide +kernel
theorem dX0_holderOfGood_6 : decode cX0_holderOfGood 6 = .ok (.iload_n 2, 1) := by decide +kernel
theorem dX0_holderOfGood_7 : decode cX0_holderOfGood 7 = .ok (.iconst (-1), 1) := by decide +kernel
theorem dX0_holderOfGood_8 : decode cX0_holderOfGood 8 = .ok (.if_icmp .eq 12, 3) := by decide +kernel
theorem dX0_holderOfGood_11 : decode cX0_holderOfGood 11 = .ok (.aload_n 0, 1) := by decide +kernel
theorem dX0_holderOfGood_12 : decode cX0_holderOfGood 12 = .ok (.getfield 24, 3) := by decide +kernel
theorem dX0_holderOfGood_15 : decode cX0_holderOfGood 15 = .ok (.iload_n 2, 1) := by decide +kernel
theorem dX0_holderOfGood_16 : decode cX0_holderOfGood 16 = .ok (.baload, 1) := by decide +kernel
theorem dX0_holderOfGood_17 : decode cX0_holderOfGood 17 = .ok (.ifCond .eq 7, 3) := by decide +kernel
theorem dX0_holderOfGood_20 : decode cX0_holderOfGood 20 = .ok (.iconst 0, 1) := by decide +kernel
theorem dX0_holderOfGood_21 : decode cX0_holderOfGood 21 = .ok (.goto 9, 3) := by decide +kernel
theorem dX0_holderOfGood_24 : decode cX0_holderOfGood 24 = .ok (.aload_n 0, 1) := by decide +kernel
theorem dX0_holderOfGood_25 : decode cX0_holderOfGood 25 = .ok (.getfield 21, 3) := by decide +kernel
theorem dX0_holderOfGood_28 : decode cX0_holderOfGood 28 = .ok (.iload_n 2, 1) := by decide +kernel
theorem dX0_holderOfGood_29 : decode cX0_holderOfGood 29 = .ok (.iaload, 1) := by decide +kernel
theorem dX0_holderOfGood_30 : decode cX0_holderOfGood 30 = .ok (.ireturn, 1) := by decide +kernel
theorem dX0_lose_0 : decode cX0_lose 0 = .ok (.aload_n 0, 1) := by decide +kernel
theorem dX0_lose_1 : decode cX0_lose 1 = .ok (.iload_n 1, 1) := by decide +kernel
theorem dX0_lose_2 : decode cX0_lose 2 = .ok (.invokevirtual 28, 3) := by decide +kernel
theorem dX0_lose_5 : decode cX0_lose 5 = .ok (.istore_n 2, 1) := by decide +kernel
theorem dX0_lose_6 : decode cX0_lose 6 = .ok (.iload_n 2, 1) := by decide +kernel
theorem dX0_lose_7 : decode cX0_lose 7 = .ok (.iconst (-1), 1) := by decide +kernel
theorem dX0_lose_8 : decode cX0_lose 8 = .ok (.if_icmp .eq 10, 3) := by decide +kernel
theorem dX0_lose_11 : decode cX0_lose 11 = .ok (.aload_n 0, 1) := by decide +kernel
theorem dX0_lose_12 : decode cX0_lose 12 = .ok (.getfield 24, 3) := by decide +kernel
theorem dX0_lose_15 : decode cX0_lose 15 = .ok (.iload_n 2, 1) := by decide +kernel
theorem dX0_lose_16 : decode cX0_lose 16 = .ok (.iconst 1, 1) := by decide +kernel
theorem dX0_lose_17 : decode cX0_lose 17 = .ok (.bastore, 1) := by decide +kernel
theorem dX0_lose_18 : decode cX0_lose 18 = .ok (.return_, 1) := by decide +kernel
theorem dX0_countOf_0 : decode cX0_countOf 0 = .ok (.iconst 0, 1) := by decide +kernel
theorem dX0_countOf_1 : decode cX0_countOf 1 = .ok (.istore_n 2, 1) := by decide +kernel
theorem dX0_countOf_2 : decode cX0_countOf 2 = .ok (.iconst 0, 1) := by decide +kernel
theorem dX0_countOf_3 : decode cX0_countOf 3 = .ok (.istore_n 3, 1) := by decide +kernel
theorem dX0_countOf_4 : decode cX0_countOf 4 = .ok (.iload_n 3, 1) := by decide +kernel
theorem dX0_countOf_5 : decode cX0_countOf 5 = .ok (.aload_n 0, 1) := by decide +kernel
theorem dX0_countOf_6 : decode cX0_countOf 6 = .ok (.getfield 11, 3) := by decide +kernel
theorem dX0_countOf_9 : decode cX0_countOf 9 = .ok (.if_icmp .ge 22, 3) := by decide +kernel
theorem dX0_countOf_12 : decode cX0_countOf 12 = .ok (.aload_n 0, 1) := by decide +kernel
theorem dX0_countOf_13 : decode cX0_countOf 13 = .ok (.getfield 21, 3) := by decide +kernel
theorem dX0_countOf_16 : decode cX0_countOf 16 = .ok (.iload_n 3, 1) := by decide +kernel
theorem dX0_countOf_17 : decode cX0_countOf 17 = .ok (.iaload, 1) := by decide +kernel
theorem dX0_countOf_18 : decode cX0_countOf 18 = .ok (.iload_n 1, 1) := by decide +kernel
theorem dX0_countOf_19 : decode cX0_countOf 19 = .ok (.if_icmp .ne 6, 3) := by decide +kernel
theorem dX0_countOf_22 : decode cX0_countOf 22 = .ok (.iinc 2 1, 3) := by decide +kernel
theorem dX0_countOf_25 : decode cX0_countOf 25 = .ok (.iinc 3 1, 3) := by decide +kernel
theorem dX0_countOf_28 : decode cX0_countOf 28 = .ok (.goto (-24), 3) := by decide +kernel
theorem dX0_countOf_31 : decode cX0_countOf 31 = .ok (.iload_n 2, 1) := by decide +kernel
theorem dX0_countOf_32 : decode cX0_countOf 32 = .ok (.ireturn, 1) := by decide +kernel
theorem dX0_moveAll_0 : decode cX0_moveAll 0 = .ok (.iconst 0, 1) := by decide +kernel
theorem dX0_moveAll_1 : decode cX0_moveAll 1 = .ok (.istore_n 3, 1) := by decide +kernel
theorem dX0_moveAll_2 : decode cX0_moveAll 2 = .ok (.iload_n 3, 1) := by decide +kernel
theorem dX0_moveAll_3 : decode cX0_moveAll 3 = .ok (.aload_n 0, 1) := by decide +kernel
theorem dX0_moveAll_4 : decode cX0_moveAll 4 = .ok (.getfield 11, 3) := by decide +kernel
theorem dX0_moveAll_7 : decode cX0_moveAll 7 = .ok (.if_icmp .ge 26, 3) := by decide +kernel
theorem dX0_moveAll_10 : decode cX0_moveAll 10 = .ok (.aload_n 0, 1) := by decide +kernel
theorem dX0_moveAll_11 : decode cX0_moveAll 11 = .ok (.getfield 21, 3) := by decide +kernel
theorem dX0_moveAll_14 : decode cX0_moveAll 14 = .ok (.iload_n 3, 1) := by decide +kernel
theorem dX0_moveAll_15 : decode cX0_moveAll 15 = .ok (.iaload, 1) := by decide +kernel
theorem dX0_moveAll_16 : decode cX0_moveAll 16 = .ok (.iload_n 1, 1) := by decide +kernel
theorem dX0_moveAll_17 : decode cX0_moveAll 17 = .ok (.if_icmp .ne 10, 3) := by decide +kernel
theorem dX0_moveAll_20 : decode cX0_moveAll 20 = .ok (.aload_n 0, 1) := by decide +kernel
theorem dX0_moveAll_21 : decode cX0_moveAll 21 = .ok (.getfield 21, 3) := by decide +kernel
theorem dX0_moveAll_24 : decode cX0_moveAll 24 = .ok (.iload_n 3, 1) := by decide +kernel
theorem dX0_moveAll_25 : decode cX0_moveAll 25 = .ok (.iload_n 2, 1) := by decide +kernel
theorem dX0_moveAll_26 : decode cX0_moveAll 26 = .ok (.iastore, 1) := by decide +kernel
theorem dX0_moveAll_27 : decode cX0_moveAll 27 = .ok (.iinc 3 1, 3) := by decide +kernel
theorem dX0_moveAll_30 : decode cX0_moveAll 30 = .ok (.goto (-28), 3) := by decide +kernel
theorem dX0_moveAll_33 : decode cX0_moveAll 33 = .ok (.return_, 1) := by decide +kernel
theorem dX0_placeOf_0 : decode cX0_placeOf 0 = .ok (.iconst 0, 1) := by decide +kernel
theorem dX0_placeOf_1 : decode cX0_placeOf 1 = .ok (.istore_n 2, 1) := by decide +kernel
theorem dX0_placeOf_2 : decode cX0_placeOf 2 = .ok (.iload_n 2, 1) := by decide +kernel
theorem dX0_placeOf_3 : decode cX0_placeOf 3 = .ok (.aload_n 0, 1) := by decide +kernel
theorem dX0_placeOf_4 : decode cX0_placeOf 4 = .ok (.getfield 11, 3) := by decide +kernel
theorem dX0_placeOf_7 : decode cX0_placeOf 7 = .ok (.if_icmp .ge 21, 3) := by decide +kernel
theorem dX0_placeOf_10 : decode cX0_placeOf 10 = .ok (.aload_n 0, 1) := by decide +kernel
theorem dX0_placeOf_11 : decode cX0_placeOf 11 = .ok (.getfield 17, 3) := by decide +kernel
theorem dX0_placeOf_14 : decode cX0_placeOf 14 = .ok (.iload_n 2, 1) := by decide +kernel
theorem dX0_placeOf_15 : decode cX0_placeOf 15 = .ok (.iaload, 1) := by decide +kernel
theorem dX0_placeOf_16 : decode cX0_placeOf 16 = .ok (.iload_n 1, 1) := by decide +kernel
theorem dX0_placeOf_17 : decode cX0_placeOf 17 = .ok (.if_icmp .ne 5, 3) := by decide +kernel
theorem dX0_placeOf_20 : decode cX0_placeOf 20 = .ok (.iload_n 2, 1) := by decide +kernel
theorem dX0_placeOf_21 : decode cX0_placeOf 21 = .ok (.ireturn, 1) := by decide +kernel
theorem dX0_placeOf_22 : decode cX0_placeOf 22 = .ok (.iinc 2 1, 3) := by decide +kernel
theorem dX0_placeOf_25 : decode cX0_placeOf 25 = .ok (.goto (-23), 3) := by decide +kernel
theorem dX0_placeOf_28 : decode cX0_placeOf 28 = .ok (.iconst (-1), 1) := by decide +kernel
theorem dX0_placeOf_29 : decode cX0_placeOf 29 = .ok (.ireturn, 1) := by decide +kernel
theorem dX1_init_0 : decode cX1_init 0 = .ok (.aload_n 0, 1) := by decide +kernel
theorem dX1_init_1 : decode cX1_init 1 = .ok (.invokespecial 1, 3) := by decide +kernel
theorem dX1_init_4 : decode cX1_init 4 = .ok (.aload_n 0, 1) := by decide +kernel
theorem dX1_init_5 : decode cX1_init 5 = .ok (.iconst 0, 1) := by decide +kernel
theorem dX1_init_6 : decode cX1_init 6 = .ok (.putfield 7, 3) := by decide +kernel
theorem dX1_init_9 : decode cX1_init 9 = .ok (.aload_n 0, 1) := by decide +kernel
theorem dX1_init_10 : decode cX1_init 10 = .ok (.sipush 200, 3) := by decide +kernel
theorem dX1_init_13 : decode cX1_init 13 = .ok (.newarray .int, 2) := by decide +kernel
theorem dX1_init_15 : decode cX1_init 15 = .ok (.putfield 13, 3) := by decide +kernel
theorem dX1_init_18 : decode cX1_init 18 = .ok (.aload_n 0, 1) := by decide +kernel
theorem dX1_init_19 : decode cX1_init 19 = .ok (.sipush 200, 3) := by decide +kernel
theorem dX1_init_22 : decode cX1_init 22 = .ok (.newarray .int, 2) := by decide +kernel
theorem dX1_init_24 : decode cX1_init 24 = .ok (.putfield 17, 3) := by decide +kernel
theorem dX1_init_27 : decode cX1_init 27 = .ok (.aload_n 0, 1) := by decide +kernel
theorem dX1_init_28 : decode cX1_init 28 = .ok (.sipush 200, 3) := by decide +kernel
theorem dX1_init_31 : decode cX1_init 31 = .ok (.newarray .int, 2) := by decide +kernel
theorem dX1_init_33 : decode cX1_init 33 = .ok (.putfield 20, 3) := by decide +kernel
theorem dX1_init_36 : decode cX1_init 36 = .ok (.aload_n 0, 1) := by decide +kernel
theorem dX1_init_37 : decode cX1_init 37 = .ok (.sipush 200, 3) := by decide +kernel
theorem dX1_init_40 : decode cX1_init 40 = .ok (.newarray .long, 2) := by decide +kernel
theorem dX1_init_42 : decode cX1_init 42 = .ok (.putfield 23, 3) := by decide +kernel
theorem dX1_init_45 : decode cX1_init 45 = .ok (.aload_n 0, 1) := by decide +kernel
theorem dX1_init_46 : decode cX1_init 46 = .ok (.sipush 200, 3) := by decide +kernel
theorem dX1_init_49 : decode cX1_init 49 = .ok (.newarray .long, 2) := by decide +kernel
theorem dX1_init_51 : decode cX1_init 51 = .ok (.putfield 27, 3) := by decide +kernel
theorem dX1_init_54 : decode cX1_init 54 = .ok (.aload_n 0, 1) := by decide +kernel
theorem dX1_init_55 : decode cX1_init 55 = .ok (.sipush 200, 3) := by decide +kernel
theorem dX1_init_58 : decode cX1_init 58 = .ok (.newarray .boolean, 2) := by decide +kernel
theorem dX1_init_60 : decode cX1_init 60 = .ok (.putfield 30, 3) := by decide +kernel
theorem dX1_init_63 : decode cX1_init 63 = .ok (.aload_n 0, 1) := by decide +kernel
theorem dX1_init_64 : decode cX1_init 64 = .ok (.sipush 200, 3) := by decide +kernel
theorem dX1_init_67 : decode cX1_init 67 = .ok (.newarray .int, 2) := by decide +kernel
theorem dX1_init_69 : decode cX1_init 69 = .ok (.putfield 34, 3) := by decide +kernel
theorem dX1_init_72 : decode cX1_init 72 = .ok (.return_, 1) := by decide +kernel
theorem dX1_count_0 : decode cX1_count 0 = .ok (.aload_n 0, 1) := by decide +kernel
theorem dX1_count_1 : decode cX1_count 1 = .ok (.getfield 7, 3) := by decide +kernel
theorem dX1_count_4 : decode cX1_count 4 = .ok (.ireturn, 1) := by decide +kernel
theorem dX1_add_0 : decode cX1_add 0 = .ok (.aload_n 0, 1) := by decide +kernel
theorem dX1_add_1 : decode cX1_add 1 = .ok (.getfield 7, 3) := by decide +kernel
theorem dX1_add_4 : decode cX1_add 4 = .ok (.sipush 200, 3) := by decide +kernel
theorem dX1_add_7 : decode cX1_add 7 = .ok (.if_icmp .lt 5, 3) := by decide +kernel
theorem dX1_add_10 : decode cX1_add 10 = .ok (.iconst 0, 1) := by decide +kernel
theorem dX1_add_11 : decode cX1_add 11 = .ok (.ireturn, 1) := by decide +kernel
theorem dX1_add_12 : decode cX1_add 12 = .ok (.aload_n 0, 1) := by decide +kernel
theorem dX1_add_13 : decode cX1_add 13 = .ok (.getfield 13, 3) := by decide +kernel
theorem dX1_add_16 : decode cX1_add 16 = .ok (.aload_n 0, 1) := by decide +kernel
theorem dX1_add_17 : decode cX1_add 17 = .ok (.getfield 7, 3) := by decide +kernel
theorem dX1_add_20 : decode cX1_add 20 = .ok (.iload_n 1, 1) := by decide +kernel
theorem dX1_add_21 : decode cX1_add 21 = .ok (.iastore, 1) := by decide +kernel
theorem dX1_add_22 : decode cX1_add 22 = .ok (.aload_n 0, 1) := by decide +kernel
theorem dX1_add_23 : decode cX1_add 23 = .ok (.getfield 17, 3) := by decide +kernel
theorem dX1_add_26 : decode cX1_add 26 = .ok (.aload_n 0, 1) := by decide +kernel
theorem dX1_add_27 : decode cX1_add 27 = .ok (.getfield 7, 3) := by decide +kernel
theorem dX1_add_30 : decode cX1_add 30 = .ok (.iload_n 2, 1) := by decide +kernel
theorem dX1_add_31 : decode cX1_add 31 = .ok (.iastore, 1) := by decide +kernel
theorem dX1_add_32 : decode cX1_add 32 = .ok (.aload_n 0, 1) := by decide +kernel
theorem dX1_add_33 : decode cX1_add 33 = .ok (.getfield 20, 3) := by decide +kernel
theorem dX1_add_36 : decode cX1_add 36 = .ok (.aload_n 0, 1) := by decide +kernel
theorem dX1_add_37 : decode cX1_add 37 = .ok (.getfield 7, 3) := by decide +kernel
theorem dX1_add_40 : decode cX1_add 40 = .ok (.iload_n 3, 1) := by decide +kernel
theorem dX1_add_41 : decode cX1_add 41 = .ok (.iastore, 1) := by decide +kernel
theorem dX1_add_42 : decode cX1_add 42 = .ok (.aload_n 0, 1) := by decide +kernel
theorem dX1_add_43 : decode cX1_add 43 = .ok (.getfield 23, 3) := by decide +kernel
theorem dX1_add_46 : decode cX1_add 46 = .ok (.aload_n 0, 1) := by decide +kernel
theorem dX1_add_47 : decode cX1_add 47 = .ok (.getfield 7, 3) := by decide +kernel
theorem dX1_add_50 : decode cX1_add 50 = .ok (.lload 4, 2) := by decide +kernel
theorem dX1_add_52 : decode cX1_add 52 = .ok (.lastore, 1) := by decide +kernel
theorem dX1_add_53 : decode cX1_add 53 = .ok (.aload_n 0, 1) := by decide +kernel
theorem dX1_add_54 : decode cX1_add 54 = .ok (.getfield 27, 3) := by decide +kernel
theorem dX1_add_57 : decode cX1_add 57 = .ok (.aload_n 0, 1) := by decide +kernel
theorem dX1_add_58 : decode cX1_add 58 = .ok (.getfield 7, 3) := by decide +kernel
theorem dX1_add_61 : decode cX1_add 61 = .ok (.lload 6, 2) := by decide +kernel
theorem dX1_add_63 : decode cX1_add 63 = .ok (.lastore, 1) := by decide +kernel
theorem dX1_add_64 : decode cX1_add 64 = .ok (.aload_n 0, 1) := by decide +kernel
theorem dX1_add_65 : decode cX1_add 65 = .ok (.aload_n 0, 1) := by decide +kernel
theorem dX1_add_66 : decode cX1_add 66 = .ok (.getfield 7, 3) := by decide +kernel
theorem dX1_add_69 : decode cX1_add 69 = .ok (.invokevirtual 37, 3) := by decide +kernel
theorem dX1_add_72 : decode cX1_add 72 = .ok (.aload_n 0, 1) := by decide +kernel
theorem dX1_add_73 : decode cX1_add 73 = .ok (.dup, 1) := by decide +kernel
theorem dX1_add_74 : decode cX1_add 74 = .ok (.getfield 7, 3) := by decide +kernel
theorem dX1_add_77 : decode cX1_add 77 = .ok (.iconst 1, 1) := by decide +kernel
theorem dX1_add_78 : decode cX1_add 78 = .ok (.iadd, 1) := by decide +kernel
theorem dX1_add_79 : decode cX1_add 79 = .ok (.putfield 7, 3) := by decide +kernel
theorem dX1_add_82 : decode cX1_add 82 = .ok (.aload_n 0, 1) := by decide +kernel
theorem dX1_add_83 : decode cX1_add 83 = .ok (.getfield 7, 3) := by decide +kernel
theorem dX1_add_86 : decode cX1_add 86 = .ok (.ireturn, 1) := by decide +kernel
theorem dX1_putInOrder_0 : decode cX1_putInOrder 0 = .ok (.iload_n 1, 1) := by decide +kernel
theorem dX1_putInOrder_1 : decode cX1_putInOrder 1 = .ok (.istore_n 2, 1) := by decide +kernel
theorem dX1_putInOrder_2 : decode cX1_putInOrder 2 = .ok (.iload_n 2, 1) := by decide +kernel
theorem dX1_putInOrder_3 : decode cX1_putInOrder 3 = .ok (.ifCond .le 46, 3) := by decide +kernel
theorem dX1_putInOrder_6 : decode cX1_putInOrder 6 = .ok (.aload_n 0, 1) := by decide +kernel
theorem dX1_putInOrder_7 : decode cX1_putInOrder 7 = .ok (.getfield 27, 3) := by decide +kernel
theorem dX1_putInOrder_10 : decode cX1_putInOrder 10 = .ok (.aload_n 0, 1) := by decide +kernel
theorem dX1_putInOrder_11 : decode cX1_putInOrder 11 = .ok (.getfield 34, 3) := by decide +kernel
theorem dX1_putInOrder_14 : decode cX1_putInOrder 14 = .ok (.iload_n 2, 1) := by decide +kernel
theorem dX1_putInOrder_15 : decode cX1_putInOrder 15 = .ok (.iconst 1, 1) := by decide +kernel
theorem dX1_putInOrder_16 : decode cX1_putInOrder 16 = .ok (.isub, 1) := by decide +kernel
theorem dX1_putInOrder_17 : decode cX1_putInOrder 17 = .ok (.iaload, 1) := by decide +kernel
theorem dX1_putInOrder_18 : decode cX1_putInOrder 18 = .ok (.laload, 1) := by decide +kernel
theorem dX1_putInOrder_19 : decode cX1_putInOrder 19 = .ok (.aload_n 0, 1) := by decide +kernel
theorem dX1_putInOrder_20 : decode cX1_putInOrder 20 = .ok (.getfield 27, 3) := by decide +kernel
theorem dX1_putInOrder_23 : decode cX1_putInOrder 23 = .ok (.iload_n 1, 1) := by decide +kernel
theorem dX1_putInOrder_24 : decode cX1_putInOrder 24 = .ok (.laload, 1) := by decide +kernel
theorem dX1_putInOrder_25 : decode cX1_putInOrder 25 = .ok (.lcmp, 1) := by decide +kernel
theorem dX1_putInOrder_26 : decode cX1_putInOrder 26 = .ok (.ifCond .le 23, 3) := by decide +kernel
theorem dX1_putInOrder_29 : decode cX1_putInOrder 29 = .ok (.aload_n 0, 1) := by decide +kernel
theorem dX1_putInOrder_30 : decode cX1_putInOrder 30 = .ok (.getfield 34, 3) := by decide +kernel
theorem dX1_putInOrder_33 : decode cX1_putInOrder 33 = .ok (.iload_n 2, 1) := by decide +kernel
theorem dX1_putInOrder_34 : decode cX1_putInOrder 34 = .ok (.aload_n 0, 1) := by decide +kernel
theorem dX1_putInOrder_35 : decode cX1_putInOrder 35 = .ok (.getfield 34, 3) := by decide +kernel
theorem dX1_putInOrder_38 : decode cX1_putInOrder 38 = .ok (.iload_n 2, 1) := by decide +kernel
theorem dX1_putInOrder_39 : decode cX1_putInOrder 39 = .ok (.iconst 1, 1) := by decide +kernel
theorem dX1_putInOrder_40 : decode cX1_putInOrder 40 = .ok (.isub, 1) := by decide +kernel
theorem dX1_putInOrder_41 : decode cX1_putInOrder 41 = .ok (.iaload, 1) := by decide +kernel
theorem dX1_putInOrder_42 : decode cX1_putInOrder 42 = .ok (.iastore, 1) := by decide +kernel
theorem dX1_putInOrder_43 : decode cX1_putInOrder 43 = .ok (.iinc 2 (-1), 3) := by decide +kernel
theorem dX1_putInOrder_46 : decode cX1_putInOrder 46 = .ok (.goto (-44), 3) := by decide +kernel
theorem dX1_putInOrder_49 : decode cX1_putInOrder 49 = .ok (.aload_n 0, 1) := by decide +kernel
theorem dX1_putInOrder_50 : decode cX1_putInOrder 50 = .ok (.getfield 34, 3) := by decide +kernel
theorem dX1_putInOrder_53 : decode cX1_putInOrder 53 = .ok (.iload_n 2, 1) := by decide +kernel
theorem dX1_putInOrder_54 : decode cX1_putInOrder 54 = .ok (.iload_n 1, 1) := by decide +kernel
theorem dX1_putInOrder_55 : decode cX1_putInOrder 55 = .ok (.iastore, 1) := by decide +kernel
theorem dX1_putInOrder_56 : decode cX1_putInOrder 56 = .ok (.return_, 1) := by decide +kernel
theorem dX1_atPlace_0 : decode cX1_atPlace 0 = .ok (.aload_n 0, 1) := by decide +kernel
theorem dX1_atPlace_1 : decode cX1_atPlace 1 = .ok (.getfield 34, 3) := by decide +kernel
theorem dX1_atPlace_4 : decode cX1_atPlace 4 = .ok (.iload_n 1, 1) := by decide +kernel
theorem dX1_atPlace_5 : decode cX1_atPlace 5 = .ok (.iaload, 1) := by decide +kernel
theorem dX1_atPlace_6 : decode cX1_atPlace 6 = .ok (.ireturn, 1) := by decide +kernel
theorem dX1_holderOf_0 : decode cX1_holderOf 0 = .ok (.aload_n 0, 1) := by decide +kernel
theorem dX1_holderOf_1 : decode cX1_holderOf 1 = .ok (.getfield 13, 3) := by decide +kernel
theorem dX1_holderOf_4 : decode cX1_holderOf 4 = .ok (.iload_n 1, 1) := by decide +kernel
theorem dX1_holderOf_5 : decode cX1_holderOf 5 = .ok (.iaload, 1) := by decide +kernel
theorem dX1_holderOf_6 : decode cX1_holderOf 6 = .ok (.ireturn, 1) := by decide +kernel
theorem dX1_itemOf_0 : decode cX1_itemOf 0 = .ok (.aload_n 0, 1) := by decide +kernel
theorem dX1_itemOf_1 : decode cX1_itemOf 1 = .ok (.getfield 20, 3) := by decide +kernel
theorem dX1_itemOf_4 : decode cX1_itemOf 4 = .ok (.iload_n 1, 1) := by decide +kernel
theorem dX1_itemOf_5 : decode cX1_itemOf 5 = .ok (.iaload, 1) := by decide +kernel
theorem dX1_itemOf_6 : decode cX1_itemOf 6 = .ok (.ireturn, 1) := by decide +kernel
theorem dX1_lastDayOf_0 : decode cX1_lastDayOf 0 = .ok (.aload_n 0, 1) := by decide +kernel
theorem dX1_lastDayOf_1 : decode cX1_lastDayOf 1 = .ok (.getfield 27, 3) := by decide +kernel
theorem dX1_lastDayOf_4 : decode cX1_lastDayOf 4 = .ok (.iload_n 1, 1) := by decide +kernel
theorem dX1_lastDayOf_5 : decode cX1_lastDayOf 5 = .ok (.laload, 1) := by decide +kernel
theorem dX1_lastDayOf_6 : decode cX1_lastDayOf 6 = .ok (.lreturn, 1) := by decide +kernel
theorem dX1_isAnonymous_0 : decode cX1_isAnonymous 0 = .ok (.aload_n 0, 1) := by decide +kernel
theorem dX1_isAnonymous_1 : decode cX1_isAnonymous 1 = .ok (.getfield 30, 3) := by decide +kernel
theorem dX1_isAnonymous_4 : decode cX1_isAnonymous 4 = .ok (.iload_n 1, 1) := by decide +kernel
theorem dX1_isAnonymous_5 : decode cX1_isAnonymous 5 = .ok (.baload, 1) := by decide +kernel
theorem dX1_isAnonymous_6 : decode cX1_isAnonymous 6 = .ok (.ireturn, 1) := by decide +kernel
theorem dX1_makeAnonymous_0 : decode cX1_makeAnonymous 0 = .ok (.aload_n 0, 1) := by decide +kernel
theorem dX1_makeAnonymous_1 : decode cX1_makeAnonymous 1 = .ok (.getfield 30, 3) := by decide +kernel
theorem dX1_makeAnonymous_4 : decode cX1_makeAnonymous 4 = .ok (.iload_n 1, 1) := by decide +kernel
theorem dX1_makeAnonymous_5 : decode cX1_makeAnonymous 5 = .ok (.iconst 1, 1) := by decide +kernel
theorem dX1_makeAnonymous_6 : decode cX1_makeAnonymous 6 = .ok (.bastore, 1) := by decide +kernel
theorem dX1_makeAnonymous_7 : decode cX1_makeAnonymous 7 = .ok (.return_, 1) := by decide +kernel
theorem dX1_countNamed_0 : decode cX1_countNamed 0 = .ok (.iconst 0, 1) := by decide +kernel
theorem dX1_countNamed_1 : decode cX1_countNamed 1 = .ok (.istore_n 2, 1) := by decide +kernel
theorem dX1_countNamed_2 : decode cX1_countNamed 2 = .ok (.iconst 0, 1) := by decide +kernel
theorem dX1_countNamed_3 : decode cX1_countNamed 3 = .ok (.istore_n 3, 1) := by decide +kernel
theorem dX1_countNamed_4 : decode cX1_countNamed 4 = .ok (.iload_n 3, 1) := by decide +kernel
theorem dX1_countNamed_5 : decode cX1_countNamed 5 = .ok (.aload_n 0, 1) := by decide +kernel
theorem dX1_countNamed_6 : decode cX1_countNamed 6 = .ok (.getfield 7, 3) := by decide +kernel
theorem dX1_countNamed_9 : decode cX1_countNamed 9 = .ok (.if_icmp .ge 31, 3) := by decide +kernel
theorem dX1_countNamed_12 : decode cX1_countNamed 12 = .ok (.aload_n 0, 1) := by decide +kernel
theorem dX1_countNamed_13 : decode cX1_countNamed 13 = .ok (.getfield 13, 3) := by decide +kernel
theorem dX1_countNamed_16 : decode cX1_countNamed 16 = .ok (.iload_n 3, 1) := by decide +kernel
theorem dX1_countNamed_17 : decode cX1_countNamed 17 = .ok (.iaload, 1) := by decide +kernel
theorem dX1_countNamed_18 : decode cX1_countNamed 18 = .ok (.iload_n 1, 1) := by decide +kernel
theorem dX1_countNamed_19 : decode cX1_countNamed 19 = .ok (.if_icmp .ne 15, 3) := by decide +kernel
theorem dX1_countNamed_22 : decode cX1_countNamed 22 = .ok (.aload_n 0, 1) := by decide +kernel
theorem dX1_countNamed_23 : decode cX1_countNamed 23 = .ok (.getfield 30, 3) := by decide +kernel
theorem dX1_countNamed_26 : decode cX1_countNamed 26 = .ok (.iload_n 3, 1) := by decide +kernel
theorem dX1_countNamed_27 : decode cX1_countNamed 27 = .ok (.baload, 1) := by decide +kernel
theorem dX1_countNamed_28 : decode cX1_countNamed 28 = .ok (.ifCond .ne 6, 3) := by decide +kernel
theorem dX1_countNamed_31 : decode cX1_countNamed 31 = .ok (.iinc 2 1, 3) := by decide +kernel
theorem dX1_countNamed_34 : decode cX1_countNamed 34 = .ok (.iinc 3 1, 3) := by decide +kernel
theorem dX1_countNamed_37 : decode cX1_countNamed 37 = .ok (.goto (-33), 3) := by decide +kernel
theorem dX1_countNamed_40 : decode cX1_countNamed 40 = .ok (.iload_n 2, 1) := by decide +kernel
theorem dX1_countNamed_41 : decode cX1_countNamed 41 = .ok (.ireturn, 1) := by decide +kernel
theorem dX1_countBegun_0 : decode cX1_countBegun 0 = .ok (.iconst 0, 1) := by decide +kernel
theorem dX1_countBegun_1 : decode cX1_countBegun 1 = .ok (.istore 6, 2) := by decide +kernel
theorem dX1_countBegun_3 : decode cX1_countBegun 3 = .ok (.iconst 0, 1) := by decide +kernel
theorem dX1_countBegun_4 : decode cX1_countBegun 4 = .ok (.istore 7, 2) := by decide +kernel
theorem dX1_countBegun_6 : decode cX1_countBegun 6 = .ok (.iload 7, 2) := by decide +kernel
theorem dX1_countBegun_8 : decode cX1_countBegun 8 = .ok (.aload_n 0, 1) := by decide +kernel
theorem dX1_countBegun_9 : decode cX1_countBegun 9 = .ok (.getfield 7, 3) := by decide +kernel
theorem dX1_countBegun_12 : decode cX1_countBegun 12 = .ok (.if_icmp .ge 48, 3) := by decide +kernel
theorem dX1_countBegun_15 : decode cX1_countBegun 15 = .ok (.aload_n 0, 1) := by decide +kernel
theorem dX1_countBegun_16 : decode cX1_countBegun 16 = .ok (.getfield 17, 3) := by decide +kernel
theorem dX1_countBegun_19 : decode cX1_countBegun 19 = .ok (.iload 7, 2) := by decide +kernel
theorem dX1_countBegun_21 : decode cX1_countBegun 21 = .ok (.iaload, 1) := by decide +kernel
theorem dX1_countBegun_22 : decode cX1_countBegun 22 = .ok (.iload_n 1, 1) := by decide +kernel
theorem dX1_countBegun_23 : decode cX1_countBegun 23 = .ok (.if_icmp .ne 31, 3) := by decide +kernel
theorem dX1_countBegun_26 : decode cX1_countBegun 26 = .ok (.aload_n 0, 1) := by decide +kernel
theorem dX1_countBegun_27 : decode cX1_countBegun 27 = .ok (.getfield 23, 3) := by decide +kernel
theorem dX1_countBegun_30 : decode cX1_countBegun 30 = .ok (.iload 7, 2) := by decide +kernel
theorem dX1_countBegun_32 : decode cX1_countBegun 32 = .ok (.laload, 1) := by decide +kernel
theorem dX1_countBegun_33 : decode cX1_countBegun 33 = .ok (.lload_n 2, 1) := by decide +kernel
theorem dX1_countBegun_34 : decode cX1_countBegun 34 = .ok (.lcmp, 1) := by decide +kernel
theorem dX1_countBegun_35 : decode cX1_countBegun 35 = .ok (.ifCond .lt 19, 3) := by decide +kernel
theorem dX1_countBegun_38 : decode cX1_countBegun 38 = .ok (.aload_n 0, 1) := by decide +kernel
theorem dX1_countBegun_39 : decode cX1_countBegun 39 = .ok (.getfield 23, 3) := by decide +kernel
theorem dX1_countBegun_42 : decode cX1_countBegun 42 = .ok (.iload 7, 2) := by decide +kernel
theorem dX1_countBegun_44 : decode cX1_countBegun 44 = .ok (.laload, 1) := by decide +kernel
theorem dX1_countBegun_45 : decode cX1_countBegun 45 = .ok (.lload 4, 2) := by decide +kernel
theorem dX1_countBegun_47 : decode cX1_countBegun 47 = .ok (.lcmp, 1) := by decide +kernel
theorem dX1_countBegun_48 : decode cX1_countBegun 48 = .ok (.ifCond .gt 6, 3) := by decide +kernel
theorem dX1_countBegun_51 : decode cX1_countBegun 51 = .ok (.iinc 6 1, 3) := by decide +kernel
theorem dX1_countBegun_54 : decode cX1_countBegun 54 = .ok (.iinc 7 1, 3) := by decide +kernel
theorem dX1_countBegun_57 : decode cX1_countBegun 57 = .ok (.goto (-51), 3) := by decide +kernel
theorem dX1_countBegun_60 : decode cX1_countBegun 60 = .ok (.iload 6, 2) := by decide +kernel
theorem dX1_countBegun_62 : decode cX1_countBegun 62 = .ok (.ireturn, 1) := by decide +kernel
theorem dX1_moveAll_0 : decode cX1_moveAll 0 = .ok (.iconst 0, 1) := by decide +kernel
theorem dX1_moveAll_1 : decode cX1_moveAll 1 = .ok (.istore_n 3, 1) := by decide +kernel
theorem dX1_moveAll_2 : decode cX1_moveAll 2 = .ok (.iload_n 3, 1) := by decide +kernel
theorem dX1_moveAll_3 : decode cX1_moveAll 3 = .ok (.aload_n 0, 1) := by decide +kernel
theorem dX1_moveAll_4 : decode cX1_moveAll 4 = .ok (.getfield 7, 3) := by decide +kernel
theorem dX1_moveAll_7 : decode cX1_moveAll 7 = .ok (.if_icmp .ge 26, 3) := by decide +kernel
theorem dX1_moveAll_10 : decode cX1_moveAll 10 = .ok (.aload_n 0, 1) := by decide +kernel
theorem dX1_moveAll_11 : decode cX1_moveAll 11 = .ok (.getfield 13, 3) := by decide +kernel
theorem dX1_moveAll_14 : decode cX1_moveAll 14 = .ok (.iload_n 3, 1) := by decide +kernel
theorem dX1_moveAll_15 : decode cX1_moveAll 15 = .ok (.iaload, 1) := by decide +kernel
theorem dX1_moveAll_16 : decode cX1_moveAll 16 = .ok (.iload_n 1, 1) := by decide +kernel
theorem dX1_moveAll_17 : decode cX1_moveAll 17 = .ok (.if_icmp .ne 10, 3) := by decide +kernel
theorem dX1_moveAll_20 : decode cX1_moveAll 20 = .ok (.aload_n 0, 1) := by decide +kernel
theorem dX1_moveAll_21 : decode cX1_moveAll 21 = .ok (.getfield 13, 3) := by decide +kernel
theorem dX1_moveAll_24 : decode cX1_moveAll 24 = .ok (.iload_n 3, 1) := by decide +kernel
theorem dX1_moveAll_25 : decode cX1_moveAll 25 = .ok (.iload_n 2, 1) := by decide +kernel
theorem dX1_moveAll_26 : decode cX1_moveAll 26 = .ok (.iastore, 1) := by decide +kernel
theorem dX1_moveAll_27 : decode cX1_moveAll 27 = .ok (.iinc 3 1, 3) := by decide +kernel
theorem dX1_moveAll_30 : decode cX1_moveAll 30 = .ok (.goto (-28), 3) := by decide +kernel
theorem dX1_moveAll_33 : decode cX1_moveAll 33 = .ok (.return_, 1) := by decide +kernel
theorem dX2_init_0 : decode cX2_init 0 = .ok (.aload_n 0, 1) := by decide +kernel
theorem dX2_init_1 : decode cX2_init 1 = .ok (.invokespecial 1, 3) := by decide +kernel
theorem dX2_init_4 : decode cX2_init 4 = .ok (.aload_n 0, 1) := by decide +kernel
theorem dX2_init_5 : decode cX2_init 5 = .ok (.sipush 732, 3) := by decide +kernel
theorem dX2_init_8 : decode cX2_init 8 = .ok (.newarray .char, 2) := by decide +kernel
theorem dX2_init_10 : decode cX2_init 10 = .ok (.putfield 11, 3) := by decide +kernel
theorem dX2_init_13 : decode cX2_init 13 = .ok (.aload_n 0, 1) := by decide +kernel
theorem dX2_init_14 : decode cX2_init 14 = .ok (.bipush 61, 2) := by decide +kernel
theorem dX2_init_16 : decode cX2_init 16 = .ok (.newarray .int, 2) := by decide +kernel
theorem dX2_init_18 : decode cX2_init 18 = .ok (.putfield 17, 3) := by decide +kernel
theorem dX2_init_21 : decode cX2_init 21 = .ok (.aload_n 0, 1) := by decide +kernel
theorem dX2_init_22 : decode cX2_init 22 = .ok (.bipush 61, 2) := by decide +kernel
theorem dX2_init_24 : decode cX2_init 24 = .ok (.newarray .int, 2) := by decide +kernel
theorem dX2_init_26 : decode cX2_init 26 = .ok (.putfield 21, 3) := by decide +kernel
theorem dX2_init_29 : decode cX2_init 29 = .ok (.aload_n 0, 1) := by decide +kernel
theorem dX2_init_30 : decode cX2_init 30 = .ok (.bipush 13, 2) := by decide +kernel
theorem dX2_init_32 : decode cX2_init 32 = .ok (.newarray .int, 2) := by decide +kernel
theorem dX2_init_34 : decode cX2_init 34 = .ok (.putfield 24, 3) := by decide +kernel
theorem dX2_init_37 : decode cX2_init 37 = .ok (.return_, 1) := by decide +kernel
theorem dX2_put_0 : decode cX2_put 0 = .ok (.aload_n 2, 1) := by decide +kernel
theorem dX2_put_1 : decode cX2_put 1 = .ok (.invokevirtual 27, 3) := by decide +kernel
theorem dX2_put_4 : decode cX2_put 4 = .ok (.istore_n 3, 1) := by decide +kernel
theorem dX2_put_5 : decode cX2_put 5 = .ok (.iconst 0, 1) := by decide +kernel
theorem dX2_put_6 : decode cX2_put 6 = .ok (.istore 4, 2) := by decide +kernel
theorem dX2_put_8 : decode cX2_put 8 = .ok (.iload 4, 2) := by decide +kernel
theorem dX2_put_10 : decode cX2_put 10 = .ok (.iload_n 3, 1) := by decide +kernel
theorem dX2_put_11 : decode cX2_put 11 = .ok (.if_icmp .ge 28, 3) := by decide +kernel
theorem dX2_put_14 : decode cX2_put 14 = .ok (.aload_n 0, 1) := by decide +kernel
theorem dX2_put_15 : decode cX2_put 15 = .ok (.getfield 11, 3) := by decide +kernel
theorem dX2_put_18 : decode cX2_put 18 = .ok (.iload_n 1, 1) := by decide +kernel
theorem dX2_put_19 : decode cX2_put 19 = .ok (.bipush 12, 2) := by decide +kernel
theorem dX2_put_21 : decode cX2_put 21 = .ok (.imul, 1) := by decide +kernel
theorem dX2_put_22 : decode cX2_put 22 = .ok (.iload 4, 2) := by decide +kernel
theorem dX2_put_24 : decode cX2_put 24 = .ok (.iadd, 1) := by decide +kernel
theorem dX2_put_25 : decode cX2_put 25 = .ok (.aload_n 2, 1) := by decide +kernel
theorem dX2_put_26 : decode cX2_put 26 = .ok (.iload 4, 2) := by decide +kernel
theorem dX2_put_28 : decode cX2_put 28 = .ok (.invokevirtual 31, 3) := by decide +kernel
theorem dX2_put_31 : decode cX2_put 31 = .ok (.i2c, 1) := by decide +kernel
theorem dX2_put_32 : decode cX2_put 32 = .ok (.castore, 1) := by decide +kernel
theorem dX2_put_33 : decode cX2_put 33 = .ok (.iinc 4 1, 3) := by decide +kernel
theorem dX2_put_36 : decode cX2_put 36 = .ok (.goto (-28), 3) := by decide +kernel
theorem dX2_put_39 : decode cX2_put 39 = .ok (.aload_n 0, 1) := by decide +kernel
theorem dX2_put_40 : decode cX2_put 40 = .ok (.getfield 17, 3) := by decide +kernel
theorem dX2_put_43 : decode cX2_put 43 = .ok (.iload_n 1, 1) := by decide +kernel
theorem dX2_put_44 : decode cX2_put 44 = .ok (.iload_n 3, 1) := by decide +kernel
theorem dX2_put_45 : decode cX2_put 45 = .ok (.iastore, 1) := by decide +kernel
theorem dX2_put_46 : decode cX2_put 46 = .ok (.aload_n 0, 1) := by decide +kernel
theorem dX2_put_47 : decode cX2_put 47 = .ok (.getfield 21, 3) := by decide +kernel
theorem dX2_put_50 : decode cX2_put 50 = .ok (.iload_n 1, 1) := by decide +kernel
theorem dX2_put_51 : decode cX2_put 51 = .ok (.aload_n 2, 1) := by decide +kernel
theorem dX2_put_52 : decode cX2_put 52 = .ok (.invokevirtual 35, 3) := by decide +kernel
theorem dX2_put_55 : decode cX2_put 55 = .ok (.iastore, 1) := by decide +kernel
theorem dX2_put_56 : decode cX2_put 56 = .ok (.return_, 1) := by decide +kernel
theorem dX2_has_0 : decode cX2_has 0 = .ok (.aload_n 0, 1) := by decide +kernel
theorem dX2_has_1 : decode cX2_has 1 = .ok (.getfield 17, 3) := by decide +kernel
theorem dX2_has_4 : decode cX2_has 4 = .ok (.iload_n 1, 1) := by decide +kernel
theorem dX2_has_5 : decode cX2_has 5 = .ok (.iaload, 1) := by decide +kernel
theorem dX2_has_6 : decode cX2_has 6 = .ok (.ifCond .le 7, 3) := by decide +kernel
theorem dX2_has_9 : decode cX2_has 9 = .ok (.iconst 1, 1) := by decide +kernel
theorem dX2_has_10 : decode cX2_has 10 = .ok (.goto 4, 3) := by decide +kernel
theorem dX2_has_13 : decode cX2_has 13 = .ok (.iconst 0, 1) := by decide +kernel
theorem dX2_has_14 : decode cX2_has 14 = .ok (.ireturn, 1) := by decide +kernel
theorem dX2_isSame_0 : decode cX2_isSame 0 = .ok (.aload_n 2, 1) := by decide +kernel
theorem dX2_isSame_1 : decode cX2_isSame 1 = .ok (.invokevirtual 27, 3) := by decide +kernel
theorem dX2_isSame_4 : decode cX2_isSame 4 = .ok (.istore_n 3, 1) := by decide +kernel
theorem dX2_isSame_5 : decode cX2_isSame 5 = .ok (.aload_n 0, 1) := by decide +kernel
theorem dX2_isSame_6 : decode cX2_isSame 6 = .ok (.getfield 17, 3) := by decide +kernel
theorem dX2_isSame_9 : decode cX2_isSame 9 = .ok (.iload_n 1, 1) := by decide +kernel
theorem dX2_isSame_10 : decode cX2_isSame 10 = .ok (.iaload, 1) := by decide +kernel
theorem dX2_isSame_11 : decode cX2_isSame 11 = .ok (.iload_n 3, 1) := by decide +kernel
theorem dX2_isSame_12 : decode cX2_isSame 12 = .ok (.if_icmp .ne 16, 3) := by decide +kernel
theorem dX2_isSame_15 : decode cX2_isSame 15 = .ok (.aload_n 0, 1) := by decide +kernel
theorem dX2_isSame_16 : decode cX2_isSame 16 = .ok (.getfield 21, 3) := by decide +kernel
theorem dX2_isSame_19 : decode cX2_isSame 19 = .ok (.iload_n 1, 1) := by decide +kernel
theorem dX2_isSame_20 : decode cX2_isSame 20 = .ok (.iaload, 1) := by decide +kernel
theorem dX2_isSame_21 : decode cX2_isSame 21 = .ok (.aload_n 2, 1) := by decide +kernel
theorem dX2_isSame_22 : decode cX2_isSame 22 = .ok (.invokevirtual 35, 3) := by decide +kernel
theorem dX2_isSame_25 : decode cX2_isSame 25 = .ok (.if_icmp .eq 5, 3) := by decide +kernel
theorem dX2_isSame_28 : decode cX2_isSame 28 = .ok (.iconst 0, 1) := by decide +kernel
theorem dX2_isSame_29 : decode cX2_isSame 29 = .ok (.ireturn, 1) := by decide +kernel
theorem dX2_isSame_30 : decode cX2_isSame 30 = .ok (.iconst 0, 1) := by decide +kernel
theorem dX2_isSame_31 : decode cX2_isSame 31 = .ok (.istore 4, 2) := by decide +kernel
theorem dX2_isSame_33 : decode cX2_isSame 33 = .ok (.iload 4, 2) := by decide +kernel
theorem dX2_isSame_35 : decode cX2_isSame 35 = .ok (.iload_n 3, 1) := by decide +kernel
theorem dX2_isSame_36 : decode cX2_isSame 36 = .ok (.if_icmp .ge 27, 3) := by decide +kernel
theorem dX2_isSame_39 : decode cX2_isSame 39 = .ok (.aload_n 0, 1) := by decide +kernel
theorem dX2_isSame_40 : decode cX2_isSame 40 = .ok (.iload_n 1, 1) := by decide +kernel
theorem dX2_isSame_41 : decode cX2_isSame 41 = .ok (.iload 4, 2) := by decide +kernel
theorem dX2_isSame_43 : decode cX2_isSame 43 = .ok (.invokevirtual 38, 3) := by decide +kernel
theorem dX2_isSame_46 : decode cX2_isSame 46 = .ok (.aload_n 2, 1) := by decide +kernel
theorem dX2_isSame_47 : decode cX2_isSame 47 = .ok (.iload 4, 2) := by decide +kernel
theorem dX2_isSame_49 : decode cX2_isSame 49 = .ok (.invokevirtual 31, 3) := by decide +kernel
theorem dX2_isSame_52 : decode cX2_isSame 52 = .ok (.if_icmp .eq 5, 3) := by decide +kernel
theorem dX2_isSame_55 : decode cX2_isSame 55 = .ok (.iconst 0, 1) := by decide +kernel
theorem dX2_isSame_56 : decode cX2_isSame 56 = .ok (.ireturn, 1) := by decide +kernel
theorem dX2_isSame_57 : decode cX2_isSame 57 = .ok (.iinc 4 1, 3) := by decide +kernel
theorem dX2_isSame_60 : decode cX2_isSame 60 = .ok (.goto (-27), 3) := by decide +kernel
theorem dX2_isSame_63 : decode cX2_isSame 63 = .ok (.iconst 1, 1) := by decide +kernel
theorem dX2_isSame_64 : decode cX2_isSame 64 = .ok (.ireturn, 1) := by decide +kernel
theorem dX2_distance_0 : decode cX2_distance 0 = .ok (.aload_n 2, 1) := by decide +kernel
theorem dX2_distance_1 : decode cX2_distance 1 = .ok (.invokevirtual 27, 3) := by decide +kernel
theorem dX2_distance_4 : decode cX2_distance 4 = .ok (.istore_n 3, 1) := by decide +kernel
theorem dX2_distance_5 : decode cX2_distance 5 = .ok (.iconst 0, 1) := by decide +kernel
theorem dX2_distance_6 : decode cX2_distance 6 = .ok (.istore 4, 2) := by decide +kernel
theorem dX2_distance_8 : decode cX2_distance 8 = .ok (.iload 4, 2) := by decide +kernel
theorem dX2_distance_10 : decode cX2_distance 10 = .ok (.iload_n 3, 1) := by decide +kernel
theorem dX2_distance_11 : decode cX2_distance 11 = .ok (.if_icmp .gt 18, 3) := by decide +kernel
theorem dX2_distance_14 : decode cX2_distance 14 = .ok (.aload_n 0, 1) := by decide +kernel
theorem dX2_distance_15 : decode cX2_distance 15 = .ok (.getfield 24, 3) := by decide +kernel
theorem dX2_distance_18 : decode cX2_distance 18 = .ok (.iload 4, 2) := by decide +kernel
theorem dX2_distance_20 : decode cX2_distance 20 = .ok (.iload 4, 2) := by decide +kernel
theorem dX2_distance_22 : decode cX2_distance 22 = .ok (.iastore, 1) := by decide +kernel
theorem dX2_distance_23 : decode cX2_distance 23 = .ok (.iinc 4 1, 3) := by decide +kernel
theorem dX2_distance_26 : decode cX2_distance 26 = .ok (.goto (-18), 3) := by decide +kernel
theorem dX2_distance_29 : decode cX2_distance 29 = .ok (.iconst 1, 1) := by decide +kernel
theorem dX2_distance_30 : decode cX2_distance 30 = .ok (.istore 4, 2) := by decide +kernel
theorem dX2_distance_32 : decode cX2_distance 32 = .ok (.iload 4, 2) := by decide +kernel
theorem dX2_distance_34 : decode cX2_distance 34 = .ok (.aload_n 0, 1) := by decide +kernel
theorem dX2_distance_35 : decode cX2_distance 35 = .ok (.getfield 17, 3) := by decide +kernel
theorem dX2_distance_38 : decode cX2_distance 38 = .ok (.iload_n 1, 1) := by decide +kernel
theorem dX2_distance_39 : decode cX2_distance 39 = .ok (.iaload, 1) := by decide +kernel
theorem dX2_distance_40 : decode cX2_distance 40 = .ok (.if_icmp .gt 121, 3) := by decide +kernel
theorem dX2_distance_43 : decode cX2_distance 43 = .ok (.aload_n 0, 1) := by decide +kernel
theorem dX2_distance_44 : decode cX2_distance 44 = .ok (.iload_n 1, 1) := by decide +kernel
theorem dX2_distance_45 : decode cX2_distance 45 = .ok (.iload 4, 2) := by decide +kernel
theorem dX2_distance_47 : decode cX2_distance 47 = .ok (.iconst 1, 1) := by decide +kernel
theorem dX2_distance_48 : decode cX2_distance 48 = .ok (.isub, 1) := by decide +kernel
theorem dX2_distance_49 : decode cX2_distance 49 = .ok (.invokevirtual 38, 3) := by decide +kernel
theorem dX2_distance_52 : decode cX2_distance 52 = .ok (.istore 5, 2) := by decide +kernel
theorem dX2_distance_54 : decode cX2_distance 54 = .ok (.aload_n 0, 1) := by decide +kernel
theorem dX2_distance_55 : decode cX2_distance 55 = .ok (.getfield 24, 3) := by decide +kernel
theorem dX2_distance_58 : decode cX2_distance 58 = .ok (.iconst 0, 1) := by decide +kernel
theorem dX2_distance_59 : decode cX2_distance 59 = .ok (.iaload, 1) := by decide +kernel
theorem dX2_distance_60 : decode cX2_distance 60 = .ok (.istore 6, 2) := by decide +kernel
theorem dX2_distance_62 : decode cX2_distance 62 = .ok (.aload_n 0, 1) := by decide +kernel
theorem dX2_distance_63 : decode cX2_distance 63 = .ok (.getfield 24, 3) := by decide +kernel
theorem dX2_distance_66 : decode cX2_distance 66 = .ok (.iconst 0, 1) := by decide +kernel
theorem dX2_distance_67 : decode cX2_distance 67 = .ok (.iload 4, 2) := by decide +kernel
theorem dX2_distance_69 : decode cX2_distance 69 = .ok (.iastore, 1) := by decide +kernel
theorem dX2_distance_70 : decode cX2_distance 70 = .ok (.iconst 1, 1) := by decide +kernel
theorem dX2_distance_71 : decode cX2_distance 71 = .ok (.istore 7, 2) := by decide +kernel
theorem dX2_distance_73 : decode cX2_distance 73 = .ok (.iload 7, 2) := by decide +kernel
theorem dX2_distance_75 : decode cX2_distance 75 = .ok (.iload_n 3, 1) := by decide +kernel
theorem dX2_distance_76 : decode cX2_distance 76 = .ok (.if_icmp .gt 79, 3) := by decide +kernel
theorem dX2_distance_79 : decode cX2_distance 79 = .ok (.iload 5, 2) := by decide +kernel
theorem dX2_distance_81 : decode cX2_distance 81 = .ok (.aload_n 2, 1) := by decide +kernel
theorem dX2_distance_82 : decode cX2_distance 82 = .ok (.iload 7, 2) := by decide +kernel
theorem dX2_distance_84 : decode cX2_distance 84 = .ok (.iconst 1, 1) := by decide +kernel
theorem dX2_distance_85 : decode cX2_distance 85 = .ok (.isub, 1) := by decide +kernel
theorem dX2_distance_86 : decode cX2_distance 86 = .ok (.invokevirtual 31, 3) := by decide +kernel
theorem dX2_distance_89 : decode cX2_distance 89 = .ok (.if_icmp .ne 8, 3) := by decide +kernel
theorem dX2_distance_92 : decode cX2_distance 92 = .ok (.iload 6, 2) := by decide +kernel
theorem dX2_distance_94 : decode cX2_distance 94 = .ok (.goto 7, 3) := by decide +kernel
theorem dX2_distance_97 : decode cX2_distance 97 = .ok (.iload 6, 2) := by decide +kernel
theorem dX2_distance_99 : decode cX2_distance 99 = .ok (.iconst 1, 1) := by decide +kernel
theorem dX2_distance_100 : decode cX2_distance 100 = .ok (.iadd, 1) := by decide +kernel
theorem dX2_distance_101 : decode cX2_distance 101 = .ok (.istore 8, 2) := by decide +kernel
theorem dX2_distance_103 : decode cX2_distance 103 = .ok (.aload_n 0, 1) := by decide +kernel
theorem dX2_distance_104 : decode cX2_distance 104 = .ok (.getfield 24, 3) := by decide +kernel
theorem dX2_distance_107 : decode cX2_distance 107 = .ok (.iload 7, 2) := by decide +kernel
theorem dX2_distance_109 : decode cX2_distance 109 = .ok (.iaload, 1) := by decide +kernel
theorem dX2_distance_110 : decode cX2_distance 110 = .ok (.istore 6, 2) := by decide +kernel
theorem dX2_distance_112 : decode cX2_distance 112 = .ok (.aload_n 0, 1) := by decide +kernel
theorem dX2_distance_113 : decode cX2_distance 113 = .ok (.getfield 24, 3) := by decide +kernel
theorem dX2_distance_116 : decode cX2_distance 116 = .ok (.iload 7, 2) := by decide +kernel
theorem dX2_distance_118 : decode cX2_distance 118 = .ok (.iaload, 1) := by decide +kernel
theorem dX2_distance_119 : decode cX2_distance 119 = .ok (.aload_n 0, 1) := by decide +kernel
theorem dX2_distance_120 : decode cX2_distance 120 = .ok (.getfield 24, 3) := by decide +kernel
theorem dX2_distance_123 : decode cX2_distance 123 = .ok (.iload 7, 2) := by decide +kernel
theorem dX2_distance_125 : decode cX2_distance 125 = .ok (.iconst 1, 1) := by decide +kernel
theorem dX2_distance_126 : decode cX2_distance 126 = .ok (.isub, 1) := by decide +kernel
theorem dX2_distance_127 : decode cX2_distance 127 = .ok (.iaload, 1) := by decide +kernel
theorem dX2_distance_128 : decode cX2_distance 128 = .ok (.invokestatic 42, 3) := by decide +kernel
theorem dX2_distance_131 : decode cX2_distance 131 = .ok (.iconst 1, 1) := by decide +kernel
theorem dX2_distance_132 : decode cX2_distance 132 = .ok (.iadd, 1) := by decide +kernel
theorem dX2_distance_133 : decode cX2_distance 133 = .ok (.istore 9, 2) := by decide +kernel
theorem dX2_distance_135 : decode cX2_distance 135 = .ok (.aload_n 0, 1) := by decide +kernel
theorem dX2_distance_136 : decode cX2_distance 136 = .ok (.getfield 24, 3) := by decide +kernel
theorem dX2_distance_139 : decode cX2_distance 139 = .ok (.iload 7, 2) := by decide +kernel
theorem dX2_distance_141 : decode cX2_distance 141 = .ok (.iload 8, 2) := by decide +kernel
theorem dX2_distance_143 : decode cX2_distance 143 = .ok (.iload 9, 2) := by decide +kernel
theorem dX2_distance_145 : decode cX2_distance 145 = .ok (.invokestatic 42, 3) := by decide +kernel
theorem dX2_distance_148 : decode cX2_distance 148 = .ok (.iastore, 1) := by decide +kernel
theorem dX2_distance_149 : decode cX2_distance 149 = .ok (.iinc 7 1, 3) := by decide +kernel
theorem dX2_distance_152 : decode cX2_distance 152 = .ok (.goto (-79), 3) := by decide +kernel
theorem dX2_distance_155 : decode cX2_distance 155 = .ok (.iinc 4 1, 3) := by decide +kernel
theorem dX2_distance_158 : decode cX2_distance 158 = .ok (.goto (-126), 3) := by decide +kernel
theorem dX2_distance_161 : decode cX2_distance 161 = .ok (.aload_n 0, 1) := by decide +kernel
theorem dX2_distance_162 : decode cX2_distance 162 = .ok (.getfield 24, 3) := by decide +kernel
theorem dX2_distance_165 : decode cX2_distance 165 = .ok (.iload_n 3, 1) := by decide +kernel
theorem dX2_distance_166 : decode cX2_distance 166 = .ok (.iaload, 1) := by decide +kernel
theorem dX2_distance_167 : decode cX2_distance 167 = .ok (.ireturn, 1) := by decide +kernel
theorem dX2_letterAt_0 : decode cX2_letterAt 0 = .ok (.aload_n 0, 1) := by decide +kernel
theorem dX2_letterAt_1 : decode cX2_letterAt 1 = .ok (.getfield 11, 3) := by decide +kernel
theorem dX2_letterAt_4 : decode cX2_letterAt 4 = .ok (.iload_n 1, 1) := by decide +kernel
theorem dX2_letterAt_5 : decode cX2_letterAt 5 = .ok (.bipush 12, 2) := by decide +kernel
theorem dX2_letterAt_7 : decode cX2_letterAt 7 = .ok (.imul, 1) := by decide +kernel
theorem dX2_letterAt_8 : decode cX2_letterAt 8 = .ok (.iload_n 2, 1) := by decide +kernel
theorem dX2_letterAt_9 : decode cX2_letterAt 9 = .ok (.iadd, 1) := by decide +kernel
theorem dX2_letterAt_10 : decode cX2_letterAt 10 = .ok (.caload, 1) := by decide +kernel
theorem dX2_letterAt_11 : decode cX2_letterAt 11 = .ok (.ireturn, 1) := by decide +kernel
theorem dX3_init_0 : decode cX3_init 0 = .ok (.aload_n 0, 1) := by decide +kernel
theorem dX3_init_1 : decode cX3_init 1 = .ok (.invokespecial 3, 3) := by decide +kernel
theorem dX3_init_4 : decode cX3_init 4 = .ok (.aload_n 0, 1) := by decide +kernel
theorem dX3_init_5 : decode cX3_init 5 = .ok (.iconst 0, 1) := by decide +kernel
theorem dX3_init_6 : decode cX3_init 6 = .ok (.putfield 9, 3) := by decide +kernel
theorem dX3_init_9 : decode cX3_init 9 = .ok (.aload_n 0, 1) := by decide +kernel
theorem dX3_init_10 : decode cX3_init 10 = .ok (.bipush 61, 2) := by decide +kernel
theorem dX3_init_12 : decode cX3_init 12 = .ok (.newarray .int, 2) := by decide +kernel
theorem dX3_init_14 : decode cX3_init 14 = .ok (.putfield 15, 3) := by decide +kernel
theorem dX3_init_17 : decode cX3_init 17 = .ok (.aload_n 0, 1) := by decide +kernel
theorem dX3_init_18 : decode cX3_init 18 = .ok (.bipush 61, 2) := by decide +kernel
theorem dX3_init_20 : decode cX3_init 20 = .ok (.newarray .int, 2) := by decide +kernel
theorem dX3_init_22 : decode cX3_init 22 = .ok (.putfield 19, 3) := by decide +kernel
theorem dX3_init_25 : decode cX3_init 25 = .ok (.aload_n 0, 1) := by decide +kernel
theorem dX3_init_26 : decode cX3_init 26 = .ok (.bipush 61, 2) := by decide +kernel
theorem dX3_init_28 : decode cX3_init 28 = .ok (.newarray .int, 2) := by decide +kernel
theorem dX3_init_30 : decode cX3_init 30 = .ok (.putfield 22, 3) := by decide +kernel
theorem dX3_init_33 : decode cX3_init 33 = .ok (.aload_n 0, 1) := by decide +kernel
theorem dX3_init_34 : decode cX3_init 34 = .ok (.bipush 61, 2) := by decide +kernel
theorem dX3_init_36 : decode cX3_init 36 = .ok (.newarray .boolean, 2) := by decide +kernel
theorem dX3_init_38 : decode cX3_init 38 = .ok (.putfield 25, 3) := by decide +kernel
theorem dX3_init_41 : decode cX3_init 41 = .ok (.aload_n 0, 1) := by decide +kernel
theorem dX3_init_42 : decode cX3_init 42 = .ok (.sipush 366, 3) := by decide +kernel
theorem dX3_init_45 : decode cX3_init 45 = .ok (.newarray .long, 2) := by decide +kernel
theorem dX3_init_47 : decode cX3_init 47 = .ok (.putfield 29, 3) := by decide +kernel
theorem dX3_init_50 : decode cX3_init 50 = .ok (.iconst 0, 1) := by decide +kernel
theorem dX3_init_51 : decode cX3_init 51 = .ok (.istore_n 1, 1) := by decide +kernel
theorem dX3_init_52 : decode cX3_init 52 = .ok (.iload_n 1, 1) := by decide +kernel
theorem dX3_init_53 : decode cX3_init 53 = .ok (.aload_n 0, 1) := by decide +kernel
theorem dX3_init_54 : decode cX3_init 54 = .ok (.getfield 29, 3) := by decide +kernel
theorem dX3_init_57 : decode cX3_init 57 = .ok (.arraylength, 1) := by decide +kernel
theorem dX3_init_58 : decode cX3_init 58 = .ok (.if_icmp .ge 18, 3) := by decide +kernel
theorem dX3_init_61 : decode cX3_init 61 = .ok (.aload_n 0, 1) := by decide +kernel
theorem dX3_init_62 : decode cX3_init 62 = .ok (.getfield 29, 3) := by decide +kernel
theorem dX3_init_65 : decode cX3_init 65 = .ok (.iload_n 1, 1) := by decide +kernel
theorem dX3_init_66 : decode cX3_init 66 = .ok (.ldc2_w 33, 3) := by decide +kernel
theorem dX3_init_69 : decode cX3_init 69 = .ok (.lastore, 1) := by decide +kernel
theorem dX3_init_70 : decode cX3_init 70 = .ok (.iinc 1 1, 3) := by decide +kernel
theorem dX3_init_73 : decode cX3_init 73 = .ok (.goto (-21), 3) := by decide +kernel
theorem dX3_init_76 : decode cX3_init 76 = .ok (.return_, 1) := by decide +kernel
theorem dX3_count_0 : decode cX3_count 0 = .ok (.aload_n 0, 1) := by decide +kernel
theorem dX3_count_1 : decode cX3_count 1 = .ok (.getfield 9, 3) := by decide +kernel
theorem dX3_count_4 : decode cX3_count 4 = .ok (.ireturn, 1) := by decide +kernel
theorem dX3_add_0 : decode cX3_add 0 = .ok (.aload_n 0, 1) := by decide +kernel
theorem dX3_add_1 : decode cX3_add 1 = .ok (.getfield 9, 3) := by decide +kernel
theorem dX3_add_4 : decode cX3_add 4 = .ok (.bipush 60, 2) := by decide +kernel
theorem dX3_add_6 : decode cX3_add 6 = .ok (.if_icmp .lt 5, 3) := by decide +kernel
theorem dX3_add_9 : decode cX3_add 9 = .ok (.iconst 0, 1) := by decide +kernel
theorem dX3_add_10 : decode cX3_add 10 = .ok (.ireturn, 1) := by decide +kernel
theorem dX3_add_11 : decode cX3_add 11 = .ok (.aload_n 0, 1) := by decide +kernel
theorem dX3_add_12 : decode cX3_add 12 = .ok (.dup, 1) := by decide +kernel
theorem dX3_add_13 : decode cX3_add 13 = .ok (.getfield 9, 3) := by decide +kernel
theorem dX3_add_16 : decode cX3_add 16 = .ok (.iconst 1, 1) := by decide +kernel
theorem dX3_add_17 : decode cX3_add 17 = .ok (.iadd, 1) := by decide +kernel
theorem dX3_add_18 : decode cX3_add 18 = .ok (.putfield 9, 3) := by decide +kernel
theorem dX3_add_21 : decode cX3_add 21 = .ok (.aload_n 0, 1) := by decide +kernel
theorem dX3_add_22 : decode cX3_add 22 = .ok (.getfield 15, 3) := by decide +kernel
theorem dX3_add_25 : decode cX3_add 25 = .ok (.aload_n 0, 1) := by decide +kernel
theorem dX3_add_26 : decode cX3_add 26 = .ok (.getfield 9, 3) := by decide +kernel
theorem dX3_add_29 : decode cX3_add 29 = .ok (.aload_n 0, 1) := by decide +kernel
theorem dX3_add_30 : decode cX3_add 30 = .ok (.getfield 9, 3) := by decide +kernel
theorem dX3_add_33 : decode cX3_add 33 = .ok (.iastore, 1) := by decide +kernel
theorem dX3_add_34 : decode cX3_add 34 = .ok (.aload_n 0, 1) := by decide +kernel
theorem dX3_add_35 : decode cX3_add 35 = .ok (.getfield 19, 3) := by decide +kernel
theorem dX3_add_38 : decode cX3_add 38 = .ok (.aload_n 0, 1) := by decide +kernel
theorem dX3_add_39 : decode cX3_add 39 = .ok (.getfield 9, 3) := by decide +kernel
theorem dX3_add_42 : decode cX3_add 42 = .ok (.iload_n 1, 1) := by decide +kernel
theorem dX3_add_43 : decode cX3_add 43 = .ok (.iastore, 1) := by decide +kernel
theorem dX3_add_44 : decode cX3_add 44 = .ok (.aload_n 0, 1) := by decide +kernel
theorem dX3_add_45 : decode cX3_add 45 = .ok (.getfield 22, 3) := by decide +kernel
theorem dX3_add_48 : decode cX3_add 48 = .ok (.aload_n 0, 1) := by decide +kernel
theorem dX3_add_49 : decode cX3_add 49 = .ok (.getfield 9, 3) := by decide +kernel
theorem dX3_add_52 : decode cX3_add 52 = .ok (.iload_n 2, 1) := by decide +kernel
theorem dX3_add_53 : decode cX3_add 53 = .ok (.iastore, 1) := by decide +kernel
theorem dX3_add_54 : decode cX3_add 54 = .ok (.aload_n 0, 1) := by decide +kernel
theorem dX3_add_55 : decode cX3_add 55 = .ok (.getfield 9, 3) := by decide +kernel
theorem dX3_add_58 : decode cX3_add 58 = .ok (.ireturn, 1) := by decide +kernel
theorem dX3_find_0 : decode cX3_find 0 = .ok (.iload_n 1, 1) := by decide +kernel
theorem dX3_find_1 : decode cX3_find 1 = .ok (.iconst 1, 1) := by decide +kernel
theorem dX3_find_2 : decode cX3_find 2 = .ok (.if_icmp .lt 20, 3) := by decide +kernel
theorem dX3_find_5 : decode cX3_find 5 = .ok (.iload_n 1, 1) := by decide +kernel
theorem dX3_find_6 : decode cX3_find 6 = .ok (.aload_n 0, 1) := by decide +kernel
theorem dX3_find_7 : decode cX3_find 7 = .ok (.getfield 9, 3) := by decide +kernel
theorem dX3_find_10 : decode cX3_find 10 = .ok (.if_icmp .gt 12, 3) := by decide +kernel
theorem dX3_find_13 : decode cX3_find 13 = .ok (.aload_n 0, 1) := by decide +kernel
theorem dX3_find_14 : decode cX3_find 14 = .ok (.getfield 15, 3) := by decide +kernel
theorem dX3_find_17 : decode cX3_find 17 = .ok (.iload_n 1, 1) := by decide +kernel
theorem dX3_find_18 : decode cX3_find 18 = .ok (.iaload, 1) := by decide +kernel
theorem dX3_find_19 : decode cX3_find 19 = .ok (.goto 4, 3) := by decide +kernel
theorem dX3_find_22 : decode cX3_find 22 = .ok (.iconst 0, 1) := by decide +kernel
theorem dX3_find_23 : decode cX3_find 23 = .ok (.ireturn, 1) := by decide +kernel
theorem dX3_isJoined_0 : decode cX3_isJoined 0 = .ok (.aload_n 0, 1) := by decide +kernel
theorem dX3_isJoined_1 : decode cX3_isJoined 1 = .ok (.getfield 15, 3) := by decide +kernel
theorem dX3_isJoined_4 : decode cX3_isJoined 4 = .ok (.iload_n 1, 1) := by decide +kernel
theorem dX3_isJoined_5 : decode cX3_isJoined 5 = .ok (.iaload, 1) := by decide +kernel
theorem dX3_isJoined_6 : decode cX3_isJoined 6 = .ok (.iload_n 1, 1) := by decide +kernel
theorem dX3_isJoined_7 : decode cX3_isJoined 7 = .ok (.if_icmp .eq 7, 3) := by decide +kernel
theorem dX3_isJoined_10 : decode cX3_isJoined 10 = .ok (.iconst 1, 1) := by decide +kernel
theorem dX3_isJoined_11 : decode cX3_isJoined 11 = .ok (.goto 4, 3) := by decide +kernel
theorem dX3_isJoined_14 : decode cX3_isJoined 14 = .ok (.iconst 0, 1) := by decide +kernel
theorem dX3_isJoined_15 : decode cX3_isJoined 15 = .ok (.ireturn, 1) := by decide +kernel
theorem dX3_kindOf_0 : decode cX3_kindOf 0 = .ok (.aload_n 0, 1) := by decide +kernel
theorem dX3_kindOf_1 : decode cX3_kindOf 1 = .ok (.getfield 19, 3) := by decide +kernel
theorem dX3_kindOf_4 : decode cX3_kindOf 4 = .ok (.iload_n 1, 1) := by decide +kernel
theorem dX3_kindOf_5 : decode cX3_kindOf 5 = .ok (.iaload, 1) := by decide +kernel
theorem dX3_kindOf_6 : decode cX3_kindOf 6 = .ok (.ireturn, 1) := by decide +kernel
theorem dX3_guardianOf_0 : decode cX3_guardianOf 0 = .ok (.aload_n 0, 1) := by decide +kernel
theorem dX3_guardianOf_1 : decode cX3_guardianOf 1 = .ok (.getfield 22, 3) := by decide +kernel
theorem dX3_guardianOf_4 : decode cX3_guardianOf 4 = .ok (.iload_n 1, 1) := by decide +kernel
theorem dX3_guardianOf_5 : decode cX3_guardianOf 5 = .ok (.iaload, 1) := by decide +kernel
theorem dX3_guardianOf_6 : decode cX3_guardianOf 6 = .ok (.ireturn, 1) := by decide +kernel
theorem dX3_hasConsent_0 : decode cX3_hasConsent 0 = .ok (.aload_n 0, 1) := by decide +kernel
theorem dX3_hasConsent_1 : decode cX3_hasConsent 1 = .ok (.getfield 25, 3) := by decide +kernel
theorem dX3_hasConsent_4 : decode cX3_hasConsent 4 = .ok (.iload_n 1, 1) := by decide +kernel
theorem dX3_hasConsent_5 : decode cX3_hasConsent 5 = .ok (.baload, 1) := by decide +kernel
theorem dX3_hasConsent_6 : decode cX3_hasConsent 6 = .ok (.ireturn, 1) := by decide +kernel
theorem dX3_setConsent_0 : decode cX3_setConsent 0 = .ok (.aload_n 0, 1) := by decide +kernel
theorem dX3_setConsent_1 : decode cX3_setConsent 1 = .ok (.getfield 25, 3) := by decide +kernel
theorem dX3_setConsent_4 : decode cX3_setConsent 4 = .ok (.iload_n 1, 1) := by decide +kernel
theorem dX3_setConsent_5 : decode cX3_setConsent 5 = .ok (.iload_n 2, 1) := by decide +kernel
theorem dX3_setConsent_6 : decode cX3_setConsent 6 = .ok (.bastore, 1) := by decide +kernel
theorem dX3_setConsent_7 : decode cX3_setConsent 7 = .ok (.return_, 1) := by decide +kernel
theorem dX3_setBlock_0 : decode cX3_setBlock 0 = .ok (.aload_n 0, 1) := by decide +kernel
theorem dX3_setBlock_1 : decode cX3_setBlock 1 = .ok (.getfield 29, 3) := by decide +kernel
theorem dX3_setBlock_4 : decode cX3_setBlock 4 = .ok (.iload_n 1, 1) := by decide +kernel
theorem dX3_setBlock_5 : decode cX3_setBlock 5 = .ok (.bipush 6, 2) := by decide +kernel
theorem dX3_setBlock_7 : decode cX3_setBlock 7 = .ok (.imul, 1) := by decide +kernel
theorem dX3_setBlock_8 : decode cX3_setBlock 8 = .ok (.iload_n 2, 1) := by decide +kernel
theorem dX3_setBlock_9 : decode cX3_setBlock 9 = .ok (.iadd, 1) := by decide +kernel
theorem dX3_setBlock_10 : decode cX3_setBlock 10 = .ok (.lload_n 3, 1) := by decide +kernel
theorem dX3_setBlock_11 : decode cX3_setBlock 11 = .ok (.lastore, 1) := by decide +kernel
theorem dX3_setBlock_12 : decode cX3_setBlock 12 = .ok (.return_, 1) := by decide +kernel
theorem dX3_hasBlock_0 : decode cX3_hasBlock 0 = .ok (.aload_n 0, 1) := by decide +kernel
theorem dX3_hasBlock_1 : decode cX3_hasBlock 1 = .ok (.getfield 29, 3) := by decide +kernel
theorem dX3_hasBlock_4 : decode cX3_hasBlock 4 = .ok (.iload_n 1, 1) := by decide +kernel
theorem dX3_hasBlock_5 : decode cX3_hasBlock 5 = .ok (.bipush 6, 2) := by decide +kernel
theorem dX3_hasBlock_7 : decode cX3_hasBlock 7 = .ok (.imul, 1) := by decide +kernel
theorem dX3_hasBlock_8 : decode cX3_hasBlock 8 = .ok (.iload_n 2, 1) := by decide +kernel
theorem dX3_hasBlock_9 : decode cX3_hasBlock 9 = .ok (.iadd, 1) := by decide +kernel
theorem dX3_hasBlock_10 : decode cX3_hasBlock 10 = .ok (.laload, 1) := by decide +kernel
theorem dX3_hasBlock_11 : decode cX3_hasBlock 11 = .ok (.lstore 5, 2) := by decide +kernel
theorem dX3_hasBlock_13 : decode cX3_hasBlock 13 = .ok (.lload 5, 2) := by decide +kernel
theorem dX3_hasBlock_15 : decode cX3_hasBlock 15 = .ok (.ldc2_w 33, 3) := by decide +kernel
theorem dX3_hasBlock_18 : decode cX3_hasBlock 18 = .ok (.lcmp, 1) := by decide +kernel
theorem dX3_hasBlock_19 : decode cX3_hasBlock 19 = .ok (.ifCond .eq 14, 3) := by decide +kernel
theorem dX3_hasBlock_22 : decode cX3_hasBlock 22 = .ok (.lload_n 3, 1) := by decide +kernel
theorem dX3_hasBlock_23 : decode cX3_hasBlock 23 = .ok (.lload 5, 2) := by decide +kernel
theorem dX3_hasBlock_25 : decode cX3_hasBlock 25 = .ok (.lcmp, 1) := by decide +kernel
theorem dX3_hasBlock_26 : decode cX3_hasBlock 26 = .ok (.ifCond .gt 7, 3) := by decide +kernel
theorem dX3_hasBlock_29 : decode cX3_hasBlock 29 = .ok (.iconst 1, 1) := by decide +kernel
theorem dX3_hasBlock_30 : decode cX3_hasBlock 30 = .ok (.goto 4, 3) := by decide +kernel
theorem dX3_hasBlock_33 : decode cX3_hasBlock 33 = .ok (.iconst 0, 1) := by decide +kernel
theorem dX3_hasBlock_34 : decode cX3_hasBlock 34 = .ok (.ireturn, 1) := by decide +kernel
theorem dX3_wardOf_0 : decode cX3_wardOf 0 = .ok (.iconst 0, 1) := by decide +kernel
theorem dX3_wardOf_1 : decode cX3_wardOf 1 = .ok (.istore_n 3, 1) := by decide +kernel
theorem dX3_wardOf_2 : decode cX3_wardOf 2 = .ok (.iconst 1, 1) := by decide +kernel
theorem dX3_wardOf_3 : decode cX3_wardOf 3 = .ok (.istore 4, 2) := by decide +kernel
theorem dX3_wardOf_5 : decode cX3_wardOf 5 = .ok (.iload 4, 2) := by decide +kernel
theorem dX3_wardOf_7 : decode cX3_wardOf 7 = .ok (.aload_n 0, 1) := by decide +kernel
theorem dX3_wardOf_8 : decode cX3_wardOf 8 = .ok (.getfield 9, 3) := by decide +kernel
theorem dX3_wardOf_11 : decode cX3_wardOf 11 = .ok (.if_icmp .gt 31, 3) := by decide +kernel
theorem dX3_wardOf_14 : decode cX3_wardOf 14 = .ok (.aload_n 0, 1) := by decide +kernel
theorem dX3_wardOf_15 : decode cX3_wardOf 15 = .ok (.getfield 22, 3) := by decide +kernel
theorem dX3_wardOf_18 : decode cX3_wardOf 18 = .ok (.iload 4, 2) := by decide +kernel
theorem dX3_wardOf_20 : decode cX3_wardOf 20 = .ok (.iaload, 1) := by decide +kernel
theorem dX3_wardOf_21 : decode cX3_wardOf 21 = .ok (.iload_n 1, 1) := by decide +kernel
theorem dX3_wardOf_22 : decode cX3_wardOf 22 = .ok (.if_icmp .ne 14, 3) := by decide +kernel
theorem dX3_wardOf_25 : decode cX3_wardOf 25 = .ok (.iinc 3 1, 3) := by decide +kernel
theorem dX3_wardOf_28 : decode cX3_wardOf 28 = .ok (.iload_n 3, 1) := by decide +kernel
theorem dX3_wardOf_29 : decode cX3_wardOf 29 = .ok (.iload_n 2, 1) := by decide +kernel
theorem dX3_wardOf_30 : decode cX3_wardOf 30 = .ok (.if_icmp .ne 6, 3) := by decide +kernel
theorem dX3_wardOf_33 : decode cX3_wardOf 33 = .ok (.iload 4, 2) := by decide +kernel
theorem dX3_wardOf_35 : decode cX3_wardOf 35 = .ok (.ireturn, 1) := by decide +kernel
theorem dX3_wardOf_36 : decode cX3_wardOf 36 = .ok (.iinc 4 1, 3) := by decide +kernel
theorem dX3_wardOf_39 : decode cX3_wardOf 39 = .ok (.goto (-34), 3) := by decide +kernel
theorem dX3_wardOf_42 : decode cX3_wardOf 42 = .ok (.iconst 0, 1) := by decide +kernel
theorem dX3_wardOf_43 : decode cX3_wardOf 43 = .ok (.ireturn, 1) := by decide +kernel
theorem dX3_merge_0 : decode cX3_merge 0 = .ok (.aload_n 0, 1) := by decide +kernel
theorem dX3_merge_1 : decode cX3_merge 1 = .ok (.getfield 22, 3) := by decide +kernel
theorem dX3_merge_4 : decode cX3_merge 4 = .ok (.iload_n 1, 1) := by decide +kernel
theorem dX3_merge_5 : decode cX3_merge 5 = .ok (.iconst 0, 1) := by decide +kernel
theorem dX3_merge_6 : decode cX3_merge 6 = .ok (.iastore, 1) := by decide +kernel
theorem dX3_merge_7 : decode cX3_merge 7 = .ok (.iconst 1, 1) := by decide +kernel
theorem dX3_merge_8 : decode cX3_merge 8 = .ok (.istore_n 3, 1) := by decide +kernel
theorem dX3_merge_9 : decode cX3_merge 9 = .ok (.iload_n 3, 1) := by decide +kernel
theorem dX3_merge_10 : decode cX3_merge 10 = .ok (.aload_n 0, 1) := by decide +kernel
theorem dX3_merge_11 : decode cX3_merge 11 = .ok (.getfield 9, 3) := by decide +kernel
theorem dX3_merge_14 : decode cX3_merge 14 = .ok (.if_icmp .gt 43, 3) := by decide +kernel
theorem dX3_merge_17 : decode cX3_merge 17 = .ok (.aload_n 0, 1) := by decide +kernel
theorem dX3_merge_18 : decode cX3_merge 18 = .ok (.getfield 15, 3) := by decide +kernel
theorem dX3_merge_21 : decode cX3_merge 21 = .ok (.iload_n 3, 1) := by decide +kernel
theorem dX3_merge_22 : decode cX3_merge 22 = .ok (.iaload, 1) := by decide +kernel
theorem dX3_merge_23 : decode cX3_merge 23 = .ok (.iload_n 1, 1) := by decide +kernel
theorem dX3_merge_24 : decode cX3_merge 24 = .ok (.if_icmp .ne 10, 3) := by decide +kernel
theorem dX3_merge_27 : decode cX3_merge 27 = .ok (.aload_n 0, 1) := by decide +kernel
theorem dX3_merge_28 : decode cX3_merge 28 = .ok (.getfield 15, 3) := by decide +kernel
theorem dX3_merge_31 : decode cX3_merge 31 = .ok (.iload_n 3, 1) := by decide +kernel
theorem dX3_merge_32 : decode cX3_merge 32 = .ok (.iload_n 2, 1) := by decide +kernel
theorem dX3_merge_33 : decode cX3_merge 33 = .ok (.iastore, 1) := by decide +kernel
theorem dX3_merge_34 : decode cX3_merge 34 = .ok (.aload_n 0, 1) := by decide +kernel
theorem dX3_merge_35 : decode cX3_merge 35 = .ok (.getfield 22, 3) := by decide +kernel
theorem dX3_merge_38 : decode cX3_merge 38 = .ok (.iload_n 3, 1) := by decide +kernel
theorem dX3_merge_39 : decode cX3_merge 39 = .ok (.iaload, 1) := by decide +kernel
theorem dX3_merge_40 : decode cX3_merge 40 = .ok (.iload_n 1, 1) := by decide +kernel
theorem dX3_merge_41 : decode cX3_merge 41 = .ok (.if_icmp .ne 10, 3) := by decide +kernel
theorem dX3_merge_44 : decode cX3_merge 44 = .ok (.aload_n 0, 1) := by decide +kernel
theorem dX3_merge_45 : decode cX3_merge 45 = .ok (.getfield 22, 3) := by decide +kernel
theorem dX3_merge_48 : decode cX3_merge 48 = .ok (.iload_n 3, 1) := by decide +kernel
theorem dX3_merge_49 : decode cX3_merge 49 = .ok (.iload_n 2, 1) := by decide +kernel
theorem dX3_merge_50 : decode cX3_merge 50 = .ok (.iastore, 1) := by decide +kernel
theorem dX3_merge_51 : decode cX3_merge 51 = .ok (.iinc 3 1, 3) := by decide +kernel
theorem dX3_merge_54 : decode cX3_merge 54 = .ok (.goto (-45), 3) := by decide +kernel
theorem dX3_merge_57 : decode cX3_merge 57 = .ok (.iconst 0, 1) := by decide +kernel
theorem dX3_merge_58 : decode cX3_merge 58 = .ok (.istore_n 3, 1) := by decide +kernel
theorem dX3_merge_59 : decode cX3_merge 59 = .ok (.iload_n 3, 1) := by decide +kernel
theorem dX3_merge_60 : decode cX3_merge 60 = .ok (.bipush 6, 2) := by decide +kernel
theorem dX3_merge_62 : decode cX3_merge 62 = .ok (.if_icmp .ge 49, 3) := by decide +kernel
theorem dX3_merge_65 : decode cX3_merge 65 = .ok (.aload_n 0, 1) := by decide +kernel
theorem dX3_merge_66 : decode cX3_merge 66 = .ok (.getfield 29, 3) := by decide +kernel
theorem dX3_merge_69 : decode cX3_merge 69 = .ok (.iload_n 1, 1) := by decide +kernel
theorem dX3_merge_70 : decode cX3_merge 70 = .ok (.bipush 6, 2) := by decide +kernel
theorem dX3_merge_72 : decode cX3_merge 72 = .ok (.imul, 1) := by decide +kernel
theorem dX3_merge_73 : decode cX3_merge 73 = .ok (.iload_n 3, 1) := by decide +kernel
theorem dX3_merge_74 : decode cX3_merge 74 = .ok (.iadd, 1) := by decide +kernel
theorem dX3_merge_75 : decode cX3_merge 75 = .ok (.laload, 1) := by decide +kernel
theorem dX3_merge_76 : decode cX3_merge 76 = .ok (.lstore 4, 2) := by decide +kernel
theorem dX3_merge_78 : decode cX3_merge 78 = .ok (.iload_n 2, 1) := by decide +kernel
theorem dX3_merge_79 : decode cX3_merge 79 = .ok (.bipush 6, 2) := by decide +kernel
theorem dX3_merge_81 : decode cX3_merge 81 = .ok (.imul, 1) := by decide +kernel
theorem dX3_merge_82 : decode cX3_merge 82 = .ok (.iload_n 3, 1) := by decide +kernel
theorem dX3_merge_83 : decode cX3_merge 83 = .ok (.iadd, 1) := by decide +kernel
theorem dX3_merge_84 : decode cX3_merge 84 = .ok (.istore 6, 2) := by decide +kernel
theorem dX3_merge_86 : decode cX3_merge 86 = .ok (.aload_n 0, 1) := by decide +kernel
theorem dX3_merge_87 : decode cX3_merge 87 = .ok (.getfield 29, 3) := by decide +kernel
theorem dX3_merge_90 : decode cX3_merge 90 = .ok (.iload 6, 2) := by decide +kernel
theorem dX3_merge_92 : decode cX3_merge 92 = .ok (.aload_n 0, 1) := by decide +kernel
theorem dX3_merge_93 : decode cX3_merge 93 = .ok (.getfield 29, 3) := by decide +kernel
theorem dX3_merge_96 : decode cX3_merge 96 = .ok (.iload 6, 2) := by decide +kernel
theorem dX3_merge_98 : decode cX3_merge 98 = .ok (.laload, 1) := by decide +kernel
theorem dX3_merge_99 : decode cX3_merge 99 = .ok (.lload 4, 2) := by decide +kernel
theorem dX3_merge_101 : decode cX3_merge 101 = .ok (.invokestatic 35, 3) := by decide +kernel
theorem dX3_merge_104 : decode cX3_merge 104 = .ok (.lastore, 1) := by decide +kernel
theorem dX3_merge_105 : decode cX3_merge 105 = .ok (.iinc 3 1, 3) := by decide +kernel
theorem dX3_merge_108 : decode cX3_merge 108 = .ok (.goto (-49), 3) := by decide +kernel
theorem dX3_merge_111 : decode cX3_merge 111 = .ok (.return_, 1) := by decide +kernel
theorem dX4_init_0 : decode cX4_init 0 = .ok (.aload_n 0, 1) := by decide +kernel
theorem dX4_init_1 : decode cX4_init 1 = .ok (.invokespecial 3, 3) := by decide +kernel
theorem dX4_init_4 : decode cX4_init 4 = .ok (.aload_n 0, 1) := by decide +kernel
theorem dX4_init_5 : decode cX4_init 5 = .ok (.iconst 0, 1) := by decide +kernel
theorem dX4_init_6 : decode cX4_init 6 = .ok (.putfield 9, 3) := by decide +kernel
theorem dX4_init_9 : decode cX4_init 9 = .ok (.aload_n 0, 1) := by decide +kernel
theorem dX4_init_10 : decode cX4_init 10 = .ok (.bipush 40, 2) := by decide +kernel
theorem dX4_init_12 : decode cX4_init 12 = .ok (.newarray .int, 2) := by decide +kernel
theorem dX4_init_14 : decode cX4_init 14 = .ok (.putfield 15, 3) := by decide +kernel
theorem dX4_init_17 : decode cX4_init 17 = .ok (.return_, 1) := by decide +kernel
theorem dX4_collect_0 : decode cX4_collect 0 = .ok (.aload_n 0, 1) := by decide +kernel
theorem dX4_collect_1 : decode cX4_collect 1 = .ok (.getfield 9, 3) := by decide +kernel
theorem dX4_collect_4 : decode cX4_collect 4 = .ok (.bipush 40, 2) := by decide +kernel
theorem dX4_collect_6 : decode cX4_collect 6 = .ok (.if_icmp .ge 23, 3) := by decide +kernel
theorem dX4_collect_9 : decode cX4_collect 9 = .ok (.aload_n 0, 1) := by decide +kernel
theorem dX4_collect_10 : decode cX4_collect 10 = .ok (.getfield 15, 3) := by decide +kernel
theorem dX4_collect_13 : decode cX4_collect 13 = .ok (.aload_n 0, 1) := by decide +kernel
theorem dX4_collect_14 : decode cX4_collect 14 = .ok (.getfield 9, 3) := by decide +kernel
theorem dX4_collect_17 : decode cX4_collect 17 = .ok (.iload_n 1, 1) := by decide +kernel
theorem dX4_collect_18 : decode cX4_collect 18 = .ok (.iastore, 1) := by decide +kernel
theorem dX4_collect_19 : decode cX4_collect 19 = .ok (.aload_n 0, 1) := by decide +kernel
theorem dX4_collect_20 : decode cX4_collect 20 = .ok (.dup, 1) := by decide +kernel
theorem dX4_collect_21 : decode cX4_collect 21 = .ok (.getfield 9, 3) := by decide +kernel
theorem dX4_collect_24 : decode cX4_collect 24 = .ok (.iconst 1, 1) := by decide +kernel
theorem dX4_collect_25 : decode cX4_collect 25 = .ok (.iadd, 1) := by decide +kernel
theorem dX4_collect_26 : decode cX4_collect 26 = .ok (.putfield 9, 3) := by decide +kernel
theorem dX4_collect_29 : decode cX4_collect 29 = .ok (.return_, 1) := by decide +kernel
theorem dX4_clear_0 : decode cX4_clear 0 = .ok (.aload_n 0, 1) := by decide +kernel
theorem dX4_clear_1 : decode cX4_clear 1 = .ok (.iconst 0, 1) := by decide +kernel
theorem dX4_clear_2 : decode cX4_clear 2 = .ok (.putfield 9, 3) := by decide +kernel
theorem dX4_clear_5 : decode cX4_clear 5 = .ok (.return_, 1) := by decide +kernel
theorem dX4_signAt_0 : decode cX4_signAt 0 = .ok (.iload_n 1, 1) := by decide +kernel
theorem dX4_signAt_1 : decode cX4_signAt 1 = .ok (.ifCond .lt 20, 3) := by decide +kernel
theorem dX4_signAt_4 : decode cX4_signAt 4 = .ok (.iload_n 1, 1) := by decide +kernel
theorem dX4_signAt_5 : decode cX4_signAt 5 = .ok (.aload_n 0, 1) := by decide +kernel
theorem dX4_signAt_6 : decode cX4_signAt 6 = .ok (.getfield 9, 3) := by decide +kernel
theorem dX4_signAt_9 : decode cX4_signAt 9 = .ok (.if_icmp .ge 12, 3) := by decide +kernel
theorem dX4_signAt_12 : decode cX4_signAt 12 = .ok (.aload_n 0, 1) := by decide +kernel
theorem dX4_signAt_13 : decode cX4_signAt 13 = .ok (.getfield 15, 3) := by decide +kernel
theorem dX4_signAt_16 : decode cX4_signAt 16 = .ok (.iload_n 1, 1) := by decide +kernel
theorem dX4_signAt_17 : decode cX4_signAt 17 = .ok (.iaload, 1) := by decide +kernel
theorem dX4_signAt_18 : decode cX4_signAt 18 = .ok (.goto 4, 3) := by decide +kernel
theorem dX4_signAt_21 : decode cX4_signAt 21 = .ok (.iconst (-1), 1) := by decide +kernel
theorem dX4_signAt_22 : decode cX4_signAt 22 = .ok (.ireturn, 1) := by decide +kernel
theorem dX4_nameLength_0 : decode cX4_nameLength 0 = .ok (.aload_n 0, 1) := by decide +kernel
theorem dX4_nameLength_1 : decode cX4_nameLength 1 = .ok (.getfield 19, 3) := by decide +kernel
theorem dX4_nameLength_4 : decode cX4_nameLength 4 = .ok (.ireturn, 1) := by decide +kernel
theorem dX4_kind_0 : decode cX4_kind 0 = .ok (.aload_n 0, 1) := by decide +kernel
theorem dX4_kind_1 : decode cX4_kind 1 = .ok (.getfield 22, 3) := by decide +kernel
theorem dX4_kind_4 : decode cX4_kind 4 = .ok (.ireturn, 1) := by decide +kernel
theorem dX4_year_0 : decode cX4_year 0 = .ok (.aload_n 0, 1) := by decide +kernel
theorem dX4_year_1 : decode cX4_year 1 = .ok (.getfield 25, 3) := by decide +kernel
theorem dX4_year_4 : decode cX4_year 4 = .ok (.ireturn, 1) := by decide +kernel
theorem dX4_readNameAlone_0 : decode cX4_readNameAlone 0 = .ok (.aload_n 0, 1) := by decide +kernel
theorem dX4_readNameAlone_1 : decode cX4_readNameAlone 1 = .ok (.invokevirtual 28, 3) := by decide +kernel
theorem dX4_readNameAlone_4 : decode cX4_readNameAlone 4 = .ok (.aload_n 0, 1) := by decide +kernel
theorem dX4_readNameAlone_5 : decode cX4_readNameAlone 5 = .ok (.getfield 19, 3) := by decide +kernel
theorem dX4_readNameAlone_8 : decode cX4_readNameAlone 8 = .ok (.ifCond .le 18, 3) := by decide +kernel
theorem dX4_readNameAlone_11 : decode cX4_readNameAlone 11 = .ok (.aload_n 0, 1) := by decide +kernel
theorem dX4_readNameAlone_12 : decode cX4_readNameAlone 12 = .ok (.getfield 19, 3) := by decide +kernel
theorem dX4_readNameAlone_15 : decode cX4_readNameAlone 15 = .ok (.aload_n 0, 1) := by decide +kernel
theorem dX4_readNameAlone_16 : decode cX4_readNameAlone 16 = .ok (.getfield 9, 3) := by decide +kernel
theorem dX4_readNameAlone_19 : decode cX4_readNameAlone 19 = .ok (.if_icmp .ne 7, 3) := by decide +kernel
theorem dX4_readNameAlone_22 : decode cX4_readNameAlone 22 = .ok (.iconst 1, 1) := by decide +kernel
theorem dX4_readNameAlone_23 : decode cX4_readNameAlone 23 = .ok (.goto 4, 3) := by decide +kernel
theorem dX4_readNameAlone_26 : decode cX4_readNameAlone 26 = .ok (.iconst 0, 1) := by decide +kernel
theorem dX4_readNameAlone_27 : decode cX4_readNameAlone 27 = .ok (.ireturn, 1) := by decide +kernel
theorem dX4_readAll_0 : decode cX4_readAll 0 = .ok (.aload_n 0, 1) := by decide +kernel
theorem dX4_readAll_1 : decode cX4_readAll 1 = .ok (.invokevirtual 28, 3) := by decide +kernel
theorem dX4_readAll_4 : decode cX4_readAll 4 = .ok (.aload_n 0, 1) := by decide +kernel
theorem dX4_readAll_5 : decode cX4_readAll 5 = .ok (.getfield 19, 3) := by decide +kernel
theorem dX4_readAll_8 : decode cX4_readAll 8 = .ok (.istore_n 1, 1) := by decide +kernel
theorem dX4_readAll_9 : decode cX4_readAll 9 = .ok (.iload_n 1, 1) := by decide +kernel
theorem dX4_readAll_10 : decode cX4_readAll 10 = .ok (.ifCond .eq 13, 3) := by decide +kernel
theorem dX4_readAll_13 : decode cX4_readAll 13 = .ok (.aload_n 0, 1) := by decide +kernel
theorem dX4_readAll_14 : decode cX4_readAll 14 = .ok (.iload_n 1, 1) := by decide +kernel
theorem dX4_readAll_15 : decode cX4_readAll 15 = .ok (.invokevirtual 31, 3) := by decide +kernel
theorem dX4_readAll_18 : decode cX4_readAll 18 = .ok (.bipush 32, 2) := by decide +kernel
theorem dX4_readAll_20 : decode cX4_readAll 20 = .ok (.if_icmp .eq 5, 3) := by decide +kernel
theorem dX4_readAll_23 : decode cX4_readAll 23 = .ok (.iload_n 1, 1) := by decide +kernel
theorem dX4_readAll_24 : decode cX4_readAll 24 = .ok (.ireturn, 1) := by decide +kernel
theorem dX4_readAll_25 : decode cX4_readAll 25 = .ok (.iinc 1 1, 3) := by decide +kernel
theorem dX4_readAll_28 : decode cX4_readAll 28 = .ok (.aload_n 0, 1) := by decide +kernel
theorem dX4_readAll_29 : decode cX4_readAll 29 = .ok (.iload_n 1, 1) := by decide +kernel
theorem dX4_readAll_30 : decode cX4_readAll 30 = .ok (.bipush 48, 2) := by decide +kernel
theorem dX4_readAll_32 : decode cX4_readAll 32 = .ok (.bipush 52, 2) := by decide +kernel
theorem dX4_readAll_34 : decode cX4_readAll 34 = .ok (.invokevirtual 35, 3) := by decide +kernel
theorem dX4_readAll_37 : decode cX4_readAll 37 = .ok (.ifCond .ne 5, 3) := by decide +kernel
theorem dX4_readAll_40 : decode cX4_readAll 40 = .ok (.iload_n 1, 1) := by decide +kernel
theorem dX4_readAll_41 : decode cX4_readAll 41 = .ok (.ireturn, 1) := by decide +kernel
theorem dX4_readAll_42 : decode cX4_readAll 42 = .ok (.aload_n 0, 1) := by decide +kernel
theorem dX4_readAll_43 : decode cX4_readAll 43 = .ok (.aload_n 0, 1) := by decide +kernel
theorem dX4_readAll_44 : decode cX4_readAll 44 = .ok (.iload_n 1, 1) := by decide +kernel
theorem dX4_readAll_45 : decode cX4_readAll 45 = .ok (.invokevirtual 31, 3) := by decide +kernel
theorem dX4_readAll_48 : decode cX4_readAll 48 = .ok (.bipush 48, 2) := by decide +kernel
theorem dX4_readAll_50 : decode cX4_readAll 50 = .ok (.isub, 1) := by decide +kernel
theorem dX4_readAll_51 : decode cX4_readAll 51 = .ok (.putfield 22, 3) := by decide +kernel
theorem dX4_readAll_54 : decode cX4_readAll 54 = .ok (.iinc 1 1, 3) := by decide +kernel
theorem dX4_readAll_57 : decode cX4_readAll 57 = .ok (.aload_n 0, 1) := by decide +kernel
theorem dX4_readAll_58 : decode cX4_readAll 58 = .ok (.iload_n 1, 1) := by decide +kernel
theorem dX4_readAll_59 : decode cX4_readAll 59 = .ok (.invokevirtual 31, 3) := by decide +kernel
theorem dX4_readAll_62 : decode cX4_readAll 62 = .ok (.bipush 32, 2) := by decide +kernel
theorem dX4_readAll_64 : decode cX4_readAll 64 = .ok (.if_icmp .eq 5, 3) := by decide +kernel
theorem dX4_readAll_67 : decode cX4_readAll 67 = .ok (.iload_n 1, 1) := by decide +kernel
theorem dX4_readAll_68 : decode cX4_readAll 68 = .ok (.ireturn, 1) := by decide +kernel
theorem dX4_readAll_69 : decode cX4_readAll 69 = .ok (.aload_n 0, 1) := by decide +kernel
theorem dX4_readAll_70 : decode cX4_readAll 70 = .ok (.iload_n 1, 1) := by decide +kernel
theorem dX4_readAll_71 : decode cX4_readAll 71 = .ok (.iconst 1, 1) := by decide +kernel
theorem dX4_readAll_72 : decode cX4_readAll 72 = .ok (.iadd, 1) := by decide +kernel
theorem dX4_readAll_73 : decode cX4_readAll 73 = .ok (.invokevirtual 39, 3) := by decide +kernel
theorem dX4_readAll_76 : decode cX4_readAll 76 = .ok (.ireturn, 1) := by decide +kernel
theorem dX4_readName_0 : decode cX4_readName 0 = .ok (.iconst 0, 1) := by decide +kernel
theorem dX4_readName_1 : decode cX4_readName 1 = .ok (.istore_n 1, 1) := by decide +kernel
theorem dX4_readName_2 : decode cX4_readName 2 = .ok (.iload_n 1, 1) := by decide +kernel
theorem dX4_readName_3 : decode cX4_readName 3 = .ok (.bipush 12, 2) := by decide +kernel
theorem dX4_readName_5 : decode cX4_readName 5 = .ok (.if_icmp .ge 21, 3) := by decide +kernel
theorem dX4_readName_8 : decode cX4_readName 8 = .ok (.aload_n 0, 1) := by decide +kernel
theorem dX4_readName_9 : decode cX4_readName 9 = .ok (.iload_n 1, 1) := by decide +kernel
theorem dX4_readName_10 : decode cX4_readName 10 = .ok (.bipush 97, 2) := by decide +kernel
theorem dX4_readName_12 : decode cX4_readName 12 = .ok (.bipush 122, 2) := by decide +kernel
theorem dX4_readName_14 : decode cX4_readName 14 = .ok (.invokevirtual 35, 3) := by decide +kernel
theorem dX4_readName_17 : decode cX4_readName 17 = .ok (.ifCond .eq 9, 3) := by decide +kernel
theorem dX4_readName_20 : decode cX4_readName 20 = .ok (.iinc 1 1, 3) := by decide +kernel
theorem dX4_readName_23 : decode cX4_readName 23 = .ok (.goto (-21), 3) := by decide +kernel
theorem dX4_readName_26 : decode cX4_readName 26 = .ok (.aload_n 0, 1) := by decide +kernel
theorem dX4_readName_27 : decode cX4_readName 27 = .ok (.iload_n 1, 1) := by decide +kernel
theorem dX4_readName_28 : decode cX4_readName 28 = .ok (.putfield 19, 3) := by decide +kernel
theorem dX4_readName_31 : decode cX4_readName 31 = .ok (.return_, 1) := by decide +kernel
theorem dX4_readYear_0 : decode cX4_readYear 0 = .ok (.iload_n 1, 1) := by decide +kernel
theorem dX4_readYear_1 : decode cX4_readYear 1 = .ok (.istore_n 2, 1) := by decide +kernel
theorem dX4_readYear_2 : decode cX4_readYear 2 = .ok (.aload_n 0, 1) := by decide +kernel
theorem dX4_readYear_3 : decode cX4_readYear 3 = .ok (.iconst 0, 1) := by decide +kernel
theorem dX4_readYear_4 : decode cX4_readYear 4 = .ok (.putfield 25, 3) := by decide +kernel
theorem dX4_readYear_7 : decode cX4_readYear 7 = .ok (.iload_n 2, 1) := by decide +kernel
theorem dX4_readYear_8 : decode cX4_readYear 8 = .ok (.iload_n 1, 1) := by decide +kernel
theorem dX4_readYear_9 : decode cX4_readYear 9 = .ok (.iconst 5, 1) := by decide +kernel
theorem dX4_readYear_10 : decode cX4_readYear 10 = .ok (.iadd, 1) := by decide +kernel
theorem dX4_readYear_11 : decode cX4_readYear 11 = .ok (.if_icmp .ge 41, 3) := by decide +kernel
theorem dX4_readYear_14 : decode cX4_readYear 14 = .ok (.aload_n 0, 1) := by decide +kernel
theorem dX4_readYear_15 : decode cX4_readYear 15 = .ok (.iload_n 2, 1) := by decide +kernel
theorem dX4_readYear_16 : decode cX4_readYear 16 = .ok (.bipush 48, 2) := by decide +kernel
theorem dX4_readYear_18 : decode cX4_readYear 18 = .ok (.bipush 57, 2) := by decide +kernel
theorem dX4_readYear_20 : decode cX4_readYear 20 = .ok (.invokevirtual 35, 3) := by decide +kernel
theorem dX4_readYear_23 : decode cX4_readYear 23 = .ok (.ifCond .eq 29, 3) := by decide +kernel
theorem dX4_readYear_26 : decode cX4_readYear 26 = .ok (.aload_n 0, 1) := by decide +kernel
theorem dX4_readYear_27 : decode cX4_readYear 27 = .ok (.aload_n 0, 1) := by decide +kernel
theorem dX4_readYear_28 : decode cX4_readYear 28 = .ok (.getfield 25, 3) := by decide +kernel
theorem dX4_readYear_31 : decode cX4_readYear 31 = .ok (.bipush 10, 2) := by decide +kernel
theorem dX4_readYear_33 : decode cX4_readYear 33 = .ok (.imul, 1) := by decide +kernel
theorem dX4_readYear_34 : decode cX4_readYear 34 = .ok (.aload_n 0, 1) := by decide +kernel
theorem dX4_readYear_35 : decode cX4_readYear 35 = .ok (.iload_n 2, 1) := by decide +kernel
theorem dX4_readYear_36 : decode cX4_readYear 36 = .ok (.invokevirtual 31, 3) := by decide +kernel
theorem dX4_readYear_39 : decode cX4_readYear 39 = .ok (.iadd, 1) := by decide +kernel
theorem dX4_readYear_40 : decode cX4_readYear 40 = .ok (.bipush 48, 2) := by decide +kernel
theorem dX4_readYear_42 : decode cX4_readYear 42 = .ok (.isub, 1) := by decide +kernel
theorem dX4_readYear_43 : decode cX4_readYear 43 = .ok (.putfield 25, 3) := by decide +kernel
theorem dX4_readYear_46 : decode cX4_readYear 46 = .ok (.iinc 2 1, 3) := by decide +kernel
theorem dX4_readYear_49 : decode cX4_readYear 49 = .ok (.goto (-42), 3) := by decide +kernel
theorem dX4_readYear_52 : decode cX4_readYear 52 = .ok (.iload_n 2, 1) := by decide +kernel
theorem dX4_readYear_53 : decode cX4_readYear 53 = .ok (.iload_n 1, 1) := by decide +kernel
theorem dX4_readYear_54 : decode cX4_readYear 54 = .ok (.if_icmp .eq 11, 3) := by decide +kernel
theorem dX4_readYear_57 : decode cX4_readYear 57 = .ok (.iload_n 2, 1) := by decide +kernel
theorem dX4_readYear_58 : decode cX4_readYear 58 = .ok (.aload_n 0, 1) := by decide +kernel
theorem dX4_readYear_59 : decode cX4_readYear 59 = .ok (.getfield 9, 3) := by decide +kernel
theorem dX4_readYear_62 : decode cX4_readYear 62 = .ok (.if_icmp .ge 7, 3) := by decide +kernel
theorem dX4_readYear_65 : decode cX4_readYear 65 = .ok (.iload_n 2, 1) := by decide +kernel
theorem dX4_readYear_66 : decode cX4_readYear 66 = .ok (.goto 4, 3) := by decide +kernel
theorem dX4_readYear_69 : decode cX4_readYear 69 = .ok (.iconst (-1), 1) := by decide +kernel
theorem dX4_readYear_70 : decode cX4_readYear 70 = .ok (.ireturn, 1) := by decide +kernel
theorem dX4_isAmong_0 : decode cX4_isAmong 0 = .ok (.aload_n 0, 1) := by decide +kernel
theorem dX4_isAmong_1 : decode cX4_isAmong 1 = .ok (.iload_n 1, 1) := by decide +kernel
theorem dX4_isAmong_2 : decode cX4_isAmong 2 = .ok (.invokevirtual 31, 3) := by decide +kernel
theorem dX4_isAmong_5 : decode cX4_isAmong 5 = .ok (.istore 4, 2) := by decide +kernel
theorem dX4_isAmong_7 : decode cX4_isAmong 7 = .ok (.iload 4, 2) := by decide +kernel
theorem dX4_isAmong_9 : decode cX4_isAmong 9 = .ok (.iload_n 2, 1) := by decide +kernel
theorem dX4_isAmong_10 : decode cX4_isAmong 10 = .ok (.if_icmp .lt 13, 3) := by decide +kernel
theorem dX4_isAmong_13 : decode cX4_isAmong 13 = .ok (.iload 4, 2) := by decide +kernel
theorem dX4_isAmong_15 : decode cX4_isAmong 15 = .ok (.iload_n 3, 1) := by decide +kernel
theorem dX4_isAmong_16 : decode cX4_isAmong 16 = .ok (.if_icmp .gt 7, 3) := by decide +kernel
theorem dX4_isAmong_19 : decode cX4_isAmong 19 = .ok (.iconst 1, 1) := by decide +kernel
theorem dX4_isAmong_20 : decode cX4_isAmong 20 = .ok (.goto 4, 3) := by decide +kernel
theorem dX4_isAmong_23 : decode cX4_isAmong 23 = .ok (.iconst 0, 1) := by decide +kernel
theorem dX4_isAmong_24 : decode cX4_isAmong 24 = .ok (.ireturn, 1) := by decide +kernel
theorem dX5_init_0 : decode cX5_init 0 = .ok (.aload_n 0, 1) := by decide +kernel
theorem dX5_init_1 : decode cX5_init 1 = .ok (.invokespecial 1, 3) := by decide +kernel
theorem dX5_init_4 : decode cX5_init 4 = .ok (.aload_n 0, 1) := by decide +kernel
theorem dX5_init_5 : decode cX5_init 5 = .ok (.new 7, 3) := by decide +kernel
theorem dX5_init_8 : decode cX5_init 8 = .ok (.dup, 1) := by decide +kernel
theorem dX5_init_9 : decode cX5_init 9 = .ok (.invokespecial 9, 3) := by decide +kernel
theorem dX5_init_12 : decode cX5_init 12 = .ok (.putfield 10, 3) := by decide +kernel
theorem dX5_init_15 : decode cX5_init 15 = .ok (.aload_n 0, 1) := by decide +kernel
theorem dX5_init_16 : decode cX5_init 16 = .ok (.new 16, 3) := by decide +kernel
theorem dX5_init_19 : decode cX5_init 19 = .ok (.dup, 1) := by decide +kernel
theorem dX5_init_20 : decode cX5_init 20 = .ok (.invokespecial 18, 3) := by decide +kernel
theorem dX5_init_23 : decode cX5_init 23 = .ok (.putfield 19, 3) := by decide +kernel
theorem dX5_init_26 : decode cX5_init 26 = .ok (.aload_n 0, 1) := by decide +kernel
theorem dX5_init_27 : decode cX5_init 27 = .ok (.new 23, 3) := by decide +kernel
theorem dX5_init_30 : decode cX5_init 30 = .ok (.dup, 1) := by decide +kernel
theorem dX5_init_31 : decode cX5_init 31 = .ok (.invokespecial 25, 3) := by decide +kernel
theorem dX5_init_34 : decode cX5_init 34 = .ok (.putfield 26, 3) := by decide +kernel
theorem dX5_init_37 : decode cX5_init 37 = .ok (.aload_n 0, 1) := by decide +kernel
theorem dX5_init_38 : decode cX5_init 38 = .ok (.new 30, 3) := by decide +kernel
theorem dX5_init_41 : decode cX5_init 41 = .ok (.dup, 1) := by decide +kernel
theorem dX5_init_42 : decode cX5_init 42 = .ok (.invokespecial 32, 3) := by decide +kernel
theorem dX5_init_45 : decode cX5_init 45 = .ok (.putfield 33, 3) := by decide +kernel
theorem dX5_init_48 : decode cX5_init 48 = .ok (.aload_n 0, 1) := by decide +kernel
theorem dX5_init_49 : decode cX5_init 49 = .ok (.new 37, 3) := by decide +kernel
theorem dX5_init_52 : decode cX5_init 52 = .ok (.dup, 1) := by decide +kernel
theorem dX5_init_53 : decode cX5_init 53 = .ok (.invokespecial 39, 3) := by decide +kernel
theorem dX5_init_56 : decode cX5_init 56 = .ok (.putfield 40, 3) := by decide +kernel
theorem dX5_init_59 : decode cX5_init 59 = .ok (.aload_n 0, 1) := by decide +kernel
theorem dX5_init_60 : decode cX5_init 60 = .ok (.iconst 5, 1) := by decide +kernel
theorem dX5_init_61 : decode cX5_init 61 = .ok (.newarray .int, 2) := by decide +kernel
theorem dX5_init_63 : decode cX5_init 63 = .ok (.putfield 44, 3) := by decide +kernel
theorem dX5_init_66 : decode cX5_init 66 = .ok (.iconst 0, 1) := by decide +kernel
theorem dX5_init_67 : decode cX5_init 67 = .ok (.istore_n 1, 1) := by decide +kernel
theorem dX5_init_68 : decode cX5_init 68 = .ok (.iload_n 1, 1) := by decide +kernel
theorem dX5_init_69 : decode cX5_init 69 = .ok (.iconst 5, 1) := by decide +kernel
theorem dX5_init_70 : decode cX5_init 70 = .ok (.if_icmp .ge 17, 3) := by decide +kernel
theorem dX5_init_73 : decode cX5_init 73 = .ok (.aload_n 0, 1) := by decide +kernel
theorem dX5_init_74 : decode cX5_init 74 = .ok (.getfield 44, 3) := by decide +kernel
theorem dX5_init_77 : decode cX5_init 77 = .ok (.iload_n 1, 1) := by decide +kernel
theorem dX5_init_78 : decode cX5_init 78 = .ok (.bipush 30, 2) := by decide +kernel
theorem dX5_init_80 : decode cX5_init 80 = .ok (.iastore, 1) := by decide +kernel
theorem dX5_init_81 : decode cX5_init 81 = .ok (.iinc 1 1, 3) := by decide +kernel
theorem dX5_init_84 : decode cX5_init 84 = .ok (.goto (-16), 3) := by decide +kernel
theorem dX5_init_87 : decode cX5_init 87 = .ok (.return_, 1) := by decide +kernel
theorem dX5_reader_0 : decode cX5_reader 0 = .ok (.iload_n 1, 1) := by decide +kernel
theorem dX5_reader_1 : decode cX5_reader 1 = .ok (.invokestatic 48, 3) := by decide +kernel
theorem dX5_reader_4 : decode cX5_reader 4 = .ok (.ifCond .ne 5, 3) := by decide +kernel
theorem dX5_reader_7 : decode cX5_reader 7 = .ok (.iconst 0, 1) := by decide +kernel
theorem dX5_reader_8 : decode cX5_reader 8 = .ok (.ireturn, 1) := by decide +kernel
theorem dX5_reader_9 : decode cX5_reader 9 = .ok (.iload_n 2, 1) := by decide +kernel
theorem dX5_reader_10 : decode cX5_reader 10 = .ok (.ifCond .ne 13, 3) := by decide +kernel
theorem dX5_reader_13 : decode cX5_reader 13 = .ok (.aload_n 0, 1) := by decide +kernel
theorem dX5_reader_14 : decode cX5_reader 14 = .ok (.getfield 10, 3) := by decide +kernel
theorem dX5_reader_17 : decode cX5_reader 17 = .ok (.iload_n 1, 1) := by decide +kernel
theorem dX5_reader_18 : decode cX5_reader 18 = .ok (.iconst 0, 1) := by decide +kernel
theorem dX5_reader_19 : decode cX5_reader 19 = .ok (.invokevirtual 52, 3) := by decide +kernel
theorem dX5_reader_22 : decode cX5_reader 22 = .ok (.ireturn, 1) := by decide +kernel
theorem dX5_reader_23 : decode cX5_reader 23 = .ok (.aload_n 0, 1) := by decide +kernel
theorem dX5_reader_24 : decode cX5_reader 24 = .ok (.getfield 10, 3) := by decide +kernel
theorem dX5_reader_27 : decode cX5_reader 27 = .ok (.iload_n 2, 1) := by decide +kernel
theorem dX5_reader_28 : decode cX5_reader 28 = .ok (.invokevirtual 56, 3) := by decide +kernel
theorem dX5_reader_31 : decode cX5_reader 31 = .ok (.istore_n 3, 1) := by decide +kernel
theorem dX5_reader_32 : decode cX5_reader 32 = .ok (.iload_n 3, 1) := by decide +kernel
theorem dX5_reader_33 : decode cX5_reader 33 = .ok (.ifCond .eq 14, 3) := by decide +kernel
theorem dX5_reader_36 : decode cX5_reader 36 = .ok (.aload_n 0, 1) := by decide +kernel
theorem dX5_reader_37 : decode cX5_reader 37 = .ok (.getfield 10, 3) := by decide +kernel
theorem dX5_reader_40 : decode cX5_reader 40 = .ok (.iload_n 3, 1) := by decide +kernel
theorem dX5_reader_41 : decode cX5_reader 41 = .ok (.invokevirtual 60, 3) := by decide +kernel
theorem dX5_reader_44 : decode cX5_reader 44 = .ok (.ifCond .eq 5, 3) := by decide +kernel
theorem dX5_reader_47 : decode cX5_reader 47 = .ok (.iconst 0, 1) := by decide +kernel
theorem dX5_reader_48 : decode cX5_reader 48 = .ok (.ireturn, 1) := by decide +kernel
theorem dX5_reader_49 : decode cX5_reader 49 = .ok (.aload_n 0, 1) := by decide +kernel
theorem dX5_reader_50 : decode cX5_reader 50 = .ok (.getfield 10, 3) := by decide +kernel
theorem dX5_reader_53 : decode cX5_reader 53 = .ok (.iload_n 1, 1) := by decide +kernel
theorem dX5_reader_54 : decode cX5_reader 54 = .ok (.iload_n 3, 1) := by decide +kernel
theorem dX5_reader_55 : decode cX5_reader 55 = .ok (.invokevirtual 52, 3) := by decide +kernel
theorem dX5_reader_58 : decode cX5_reader 58 = .ok (.ireturn, 1) := by decide +kernel
theorem dX5_card_0 : decode cX5_card 0 = .ok (.aload_n 0, 1) := by decide +kernel
theorem dX5_card_1 : decode cX5_card 1 = .ok (.getfield 10, 3) := by decide +kernel
theorem dX5_card_4 : decode cX5_card 4 = .ok (.iload_n 1, 1) := by decide +kernel
theorem dX5_card_5 : decode cX5_card 5 = .ok (.invokevirtual 56, 3) := by decide +kernel
theorem dX5_card_8 : decode cX5_card 8 = .ok (.istore_n 3, 1) := by decide +kernel
theorem dX5_card_9 : decode cX5_card 9 = .ok (.iload_n 3, 1) := by decide +kernel
theorem dX5_card_10 : decode cX5_card 10 = .ok (.ifCond .eq 15, 3) := by decide +kernel
theorem dX5_card_13 : decode cX5_card 13 = .ok (.aload_n 0, 1) := by decide +kernel
theorem dX5_card_14 : decode cX5_card 14 = .ok (.getfield 26, 3) := by decide +kernel
theorem dX5_card_17 : decode cX5_card 17 = .ok (.iload_n 3, 1) := by decide +kernel
theorem dX5_card_18 : decode cX5_card 18 = .ok (.invokevirtual 63, 3) := by decide +kernel
theorem dX5_card_21 : decode cX5_card 21 = .ok (.iconst 5, 1) := by decide +kernel
theorem dX5_card_22 : decode cX5_card 22 = .ok (.if_icmp .lt 5, 3) := by decide +kernel
theorem dX5_card_25 : decode cX5_card 25 = .ok (.iconst 0, 1) := by decide +kernel
theorem dX5_card_26 : decode cX5_card 26 = .ok (.ireturn, 1) := by decide +kernel
theorem dX5_card_27 : decode cX5_card 27 = .ok (.aload_n 0, 1) := by decide +kernel
theorem dX5_card_28 : decode cX5_card 28 = .ok (.getfield 26, 3) := by decide +kernel
theorem dX5_card_31 : decode cX5_card 31 = .ok (.iload_n 2, 1) := by decide +kernel
theorem dX5_card_32 : decode cX5_card 32 = .ok (.invokevirtual 66, 3) := by decide +kernel
theorem dX5_card_35 : decode cX5_card 35 = .ok (.ifCond .eq 5, 3) := by decide +kernel
theorem dX5_card_38 : decode cX5_card 38 = .ok (.iconst (-1), 1) := by decide +kernel
theorem dX5_card_39 : decode cX5_card 39 = .ok (.ireturn, 1) := by decide +kernel
theorem dX5_card_40 : decode cX5_card 40 = .ok (.aload_n 0, 1) := by decide +kernel
theorem dX5_card_41 : decode cX5_card 41 = .ok (.getfield 26, 3) := by decide +kernel
theorem dX5_card_44 : decode cX5_card 44 = .ok (.iload_n 3, 1) := by decide +kernel
theorem dX5_card_45 : decode cX5_card 45 = .ok (.iload_n 2, 1) := by decide +kernel
theorem dX5_card_46 : decode cX5_card 46 = .ok (.invokevirtual 69, 3) := by decide +kernel
theorem dX5_card_49 : decode cX5_card 49 = .ok (.aload_n 0, 1) := by decide +kernel
theorem dX5_card_50 : decode cX5_card 50 = .ok (.getfield 26, 3) := by decide +kernel
theorem dX5_card_53 : decode cX5_card 53 = .ok (.iload_n 3, 1) := by decide +kernel
theorem dX5_card_54 : decode cX5_card 54 = .ok (.invokevirtual 63, 3) := by decide +kernel
theorem dX5_card_57 : decode cX5_card 57 = .ok (.ireturn, 1) := by decide +kernel
theorem dX5_whose_0 : decode cX5_whose 0 = .ok (.aload_n 0, 1) := by decide +kernel
theorem dX5_whose_1 : decode cX5_whose 1 = .ok (.getfield 26, 3) := by decide +kernel
theorem dX5_whose_4 : decode cX5_whose 4 = .ok (.iload_n 1, 1) := by decide +kernel
theorem dX5_whose_5 : decode cX5_whose 5 = .ok (.invokevirtual 72, 3) := by decide +kernel
theorem dX5_whose_8 : decode cX5_whose 8 = .ok (.ireturn, 1) := by decide +kernel
theorem dX5_lost_0 : decode cX5_lost 0 = .ok (.aload_n 0, 1) := by decide +kernel
theorem dX5_lost_1 : decode cX5_lost 1 = .ok (.getfield 26, 3) := by decide +kernel
theorem dX5_lost_4 : decode cX5_lost 4 = .ok (.iload_n 1, 1) := by decide +kernel
theorem dX5_lost_5 : decode cX5_lost 5 = .ok (.invokevirtual 72, 3) := by decide +kernel
theorem dX5_lost_8 : decode cX5_lost 8 = .ok (.istore_n 3, 1) := by decide +kernel
theorem dX5_lost_9 : decode cX5_lost 9 = .ok (.iload_n 3, 1) := by decide +kernel
theorem dX5_lost_10 : decode cX5_lost 10 = .ok (.ifCond .ne 5, 3) := by decide +kernel
theorem dX5_lost_13 : decode cX5_lost 13 = .ok (.iconst 0, 1) := by decide +kernel
theorem dX5_lost_14 : decode cX5_lost 14 = .ok (.ireturn, 1) := by decide +kernel
theorem dX5_lost_15 : decode cX5_lost 15 = .ok (.aload_n 0, 1) := by decide +kernel
theorem dX5_lost_16 : decode cX5_lost 16 = .ok (.getfield 26, 3) := by decide +kernel
theorem dX5_lost_19 : decode cX5_lost 19 = .ok (.iload_n 2, 1) := by decide +kernel
theorem dX5_lost_20 : decode cX5_lost 20 = .ok (.invokevirtual 66, 3) := by decide +kernel
theorem dX5_lost_23 : decode cX5_lost 23 = .ok (.ifCond .eq 5, 3) := by decide +kernel
theorem dX5_lost_26 : decode cX5_lost 26 = .ok (.iconst (-1), 1) := by decide +kernel
theorem dX5_lost_27 : decode cX5_lost 27 = .ok (.ireturn, 1) := by decide +kernel
theorem dX5_lost_28 : decode cX5_lost 28 = .ok (.aload_n 0, 1) := by decide +kernel
theorem dX5_lost_29 : decode cX5_lost 29 = .ok (.getfield 26, 3) := by decide +kernel
theorem dX5_lost_32 : decode cX5_lost 32 = .ok (.iload_n 3, 1) := by decide +kernel
theorem dX5_lost_33 : decode cX5_lost 33 = .ok (.invokevirtual 63, 3) := by decide +kernel
theorem dX5_lost_36 : decode cX5_lost 36 = .ok (.iconst 5, 1) := by decide +kernel
theorem dX5_lost_37 : decode cX5_lost 37 = .ok (.if_icmp .lt 6, 3) := by decide +kernel
theorem dX5_lost_40 : decode cX5_lost 40 = .ok (.bipush (-2), 2) := by decide +kernel
theorem dX5_lost_42 : decode cX5_lost 42 = .ok (.ireturn, 1) := by decide +kernel
theorem dX5_lost_43 : decode cX5_lost 43 = .ok (.aload_n 0, 1) := by decide +kernel
theorem dX5_lost_44 : decode cX5_lost 44 = .ok (.getfield 26, 3) := by decide +kernel
theorem dX5_lost_47 : decode cX5_lost 47 = .ok (.iload_n 1, 1) := by decide +kernel
theorem dX5_lost_48 : decode cX5_lost 48 = .ok (.invokevirtual 75, 3) := by decide +kernel
theorem dX5_lost_51 : decode cX5_lost 51 = .ok (.aload_n 0, 1) := by decide +kernel
theorem dX5_lost_52 : decode cX5_lost 52 = .ok (.getfield 26, 3) := by decide +kernel
theorem dX5_lost_55 : decode cX5_lost 55 = .ok (.iload_n 3, 1) := by decide +kernel
theorem dX5_lost_56 : decode cX5_lost 56 = .ok (.iload_n 2, 1) := by decide +kernel
theorem dX5_lost_57 : decode cX5_lost 57 = .ok (.invokevirtual 69, 3) := by decide +kernel
theorem dX5_lost_60 : decode cX5_lost 60 = .ok (.iload_n 3, 1) := by decide +kernel
theorem dX5_lost_61 : decode cX5_lost 61 = .ok (.ireturn, 1) := by decide +kernel
theorem dX5_block_0 : decode cX5_block 0 = .ok (.aload_n 0, 1) := by decide +kernel
theorem dX5_block_1 : decode cX5_block 1 = .ok (.getfield 10, 3) := by decide +kernel
theorem dX5_block_4 : decode cX5_block 4 = .ok (.iload_n 1, 1) := by decide +kernel
theorem dX5_block_5 : decode cX5_block 5 = .ok (.invokevirtual 56, 3) := by decide +kernel
theorem dX5_block_8 : decode cX5_block 8 = .ok (.istore 5, 2) := by decide +kernel
theorem dX5_block_10 : decode cX5_block 10 = .ok (.iload 5, 2) := by decide +kernel
theorem dX5_block_12 : decode cX5_block 12 = .ok (.ifCond .eq 20, 3) := by decide +kernel
theorem dX5_block_15 : decode cX5_block 15 = .ok (.iload_n 2, 1) := by decide +kernel
theorem dX5_block_16 : decode cX5_block 16 = .ok (.ifCond .lt 16, 3) := by decide +kernel
theorem dX5_block_19 : decode cX5_block 19 = .ok (.iload_n 2, 1) := by decide +kernel
theorem dX5_block_20 : decode cX5_block 20 = .ok (.bipush 6, 2) := by decide +kernel
theorem dX5_block_22 : decode cX5_block 22 = .ok (.if_icmp .ge 10, 3) := by decide +kernel
theorem dX5_block_25 : decode cX5_block 25 = .ok (.lload_n 3, 1) := by decide +kernel
theorem dX5_block_26 : decode cX5_block 26 = .ok (.invokestatic 79, 3) := by decide +kernel
theorem dX5_block_29 : decode cX5_block 29 = .ok (.ifCond .ne 5, 3) := by decide +kernel
theorem dX5_block_32 : decode cX5_block 32 = .ok (.iconst 0, 1) := by decide +kernel
theorem dX5_block_33 : decode cX5_block 33 = .ok (.ireturn, 1) := by decide +kernel
theorem dX5_block_34 : decode cX5_block 34 = .ok (.aload_n 0, 1) := by decide +kernel
theorem dX5_block_35 : decode cX5_block 35 = .ok (.getfield 10, 3) := by decide +kernel
theorem dX5_block_38 : decode cX5_block 38 = .ok (.iload 5, 2) := by decide +kernel
theorem dX5_block_40 : decode cX5_block 40 = .ok (.iload_n 2, 1) := by decide +kernel
theorem dX5_block_41 : decode cX5_block 41 = .ok (.lload_n 3, 1) := by decide +kernel
theorem dX5_block_42 : decode cX5_block 42 = .ok (.invokevirtual 83, 3) := by decide +kernel
theorem dX5_block_45 : decode cX5_block 45 = .ok (.iconst 1, 1) := by decide +kernel
theorem dX5_block_46 : decode cX5_block 46 = .ok (.ireturn, 1) := by decide +kernel
theorem dX5_blocked_0 : decode cX5_blocked 0 = .ok (.aload_n 0, 1) := by decide +kernel
theorem dX5_blocked_1 : decode cX5_blocked 1 = .ok (.getfield 10, 3) := by decide +kernel
theorem dX5_blocked_4 : decode cX5_blocked 4 = .ok (.iload_n 1, 1) := by decide +kernel
theorem dX5_blocked_5 : decode cX5_blocked 5 = .ok (.invokevirtual 56, 3) := by decide +kernel
theorem dX5_blocked_8 : decode cX5_blocked 8 = .ok (.istore 4, 2) := by decide +kernel
theorem dX5_blocked_10 : decode cX5_blocked 10 = .ok (.iload 4, 2) := by decide +kernel
theorem dX5_blocked_12 : decode cX5_blocked 12 = .ok (.ifCond .ne 5, 3) := by decide +kernel
theorem dX5_blocked_15 : decode cX5_blocked 15 = .ok (.iconst (-1), 1) := by decide +kernel
theorem dX5_blocked_16 : decode cX5_blocked 16 = .ok (.ireturn, 1) := by decide +kernel
theorem dX5_blocked_17 : decode cX5_blocked 17 = .ok (.aload_n 0, 1) := by decide +kernel
theorem dX5_blocked_18 : decode cX5_blocked 18 = .ok (.getfield 10, 3) := by decide +kernel
theorem dX5_blocked_21 : decode cX5_blocked 21 = .ok (.iload 4, 2) := by decide +kernel
theorem dX5_blocked_23 : decode cX5_blocked 23 = .ok (.invokevirtual 60, 3) := by decide +kernel
theorem dX5_blocked_26 : decode cX5_blocked 26 = .ok (.istore 5, 2) := by decide +kernel
theorem dX5_blocked_28 : decode cX5_blocked 28 = .ok (.iconst 0, 1) := by decide +kernel
theorem dX5_blocked_29 : decode cX5_blocked 29 = .ok (.istore 6, 2) := by decide +kernel
theorem dX5_blocked_31 : decode cX5_blocked 31 = .ok (.iload 6, 2) := by decide +kernel
theorem dX5_blocked_33 : decode cX5_blocked 33 = .ok (.bipush 6, 2) := by decide +kernel
theorem dX5_blocked_35 : decode cX5_blocked 35 = .ok (.if_icmp .ge 50, 3) := by decide +kernel
theorem dX5_blocked_38 : decode cX5_blocked 38 = .ok (.aload_n 0, 1) := by decide +kernel
theorem dX5_blocked_39 : decode cX5_blocked 39 = .ok (.getfield 10, 3) := by decide +kernel
theorem dX5_blocked_42 : decode cX5_blocked 42 = .ok (.iload 4, 2) := by decide +kernel
theorem dX5_blocked_44 : decode cX5_blocked 44 = .ok (.iload 6, 2) := by decide +kernel
theorem dX5_blocked_46 : decode cX5_blocked 46 = .ok (.lload_n 2, 1) := by decide +kernel
theorem dX5_blocked_47 : decode cX5_blocked 47 = .ok (.invokevirtual 87, 3) := by decide +kernel
theorem dX5_blocked_50 : decode cX5_blocked 50 = .ok (.ifCond .eq 6, 3) := by decide +kernel
theorem dX5_blocked_53 : decode cX5_blocked 53 = .ok (.iload 6, 2) := by decide +kernel
theorem dX5_blocked_55 : decode cX5_blocked 55 = .ok (.ireturn, 1) := by decide +kernel
theorem dX5_blocked_56 : decode cX5_blocked 56 = .ok (.iload 5, 2) := by decide +kernel
theorem dX5_blocked_58 : decode cX5_blocked 58 = .ok (.ifCond .eq 21, 3) := by decide +kernel
theorem dX5_blocked_61 : decode cX5_blocked 61 = .ok (.aload_n 0, 1) := by decide +kernel
theorem dX5_blocked_62 : decode cX5_blocked 62 = .ok (.getfield 10, 3) := by decide +kernel
theorem dX5_blocked_65 : decode cX5_blocked 65 = .ok (.iload 5, 2) := by decide +kernel
theorem dX5_blocked_67 : decode cX5_blocked 67 = .ok (.iload 6, 2) := by decide +kernel
theorem dX5_blocked_69 : decode cX5_blocked 69 = .ok (.lload_n 2, 1) := by decide +kernel
theorem dX5_blocked_70 : decode cX5_blocked 70 = .ok (.invokevirtual 87, 3) := by decide +kernel
theorem dX5_blocked_73 : decode cX5_blocked 73 = .ok (.ifCond .eq 6, 3) := by decide +kernel
theorem dX5_blocked_76 : decode cX5_blocked 76 = .ok (.iload 6, 2) := by decide +kernel
theorem dX5_blocked_78 : decode cX5_blocked 78 = .ok (.ireturn, 1) := by decide +kernel
theorem dX5_blocked_79 : decode cX5_blocked 79 = .ok (.iinc 6 1, 3) := by decide +kernel
theorem dX5_blocked_82 : decode cX5_blocked 82 = .ok (.goto (-51), 3) := by decide +kernel
theorem dX5_blocked_85 : decode cX5_blocked 85 = .ok (.iconst (-1), 1) := by decide +kernel
theorem dX5_blocked_86 : decode cX5_blocked 86 = .ok (.ireturn, 1) := by decide +kernel
theorem dX5_consent_0 : decode cX5_consent 0 = .ok (.aload_n 0, 1) := by decide +kernel
theorem dX5_consent_1 : decode cX5_consent 1 = .ok (.getfield 10, 3) := by decide +kernel
theorem dX5_consent_4 : decode cX5_consent 4 = .ok (.iload_n 1, 1) := by decide +kernel
theorem dX5_consent_5 : decode cX5_consent 5 = .ok (.invokevirtual 56, 3) := by decide +kernel
theorem dX5_consent_8 : decode cX5_consent 8 = .ok (.istore 5, 2) := by decide +kernel
theorem dX5_consent_10 : decode cX5_consent 10 = .ok (.iload 5, 2) := by decide +kernel
theorem dX5_consent_12 : decode cX5_consent 12 = .ok (.ifCond .eq 10, 3) := by decide +kernel
theorem dX5_consent_15 : decode cX5_consent 15 = .ok (.lload_n 3, 1) := by decide +kernel
theorem dX5_consent_16 : decode cX5_consent 16 = .ok (.invokestatic 79, 3) := by decide +kernel
theorem dX5_consent_19 : decode cX5_consent 19 = .ok (.ifCond .ne 5, 3) := by decide +kernel
theorem dX5_consent_22 : decode cX5_consent 22 = .ok (.iconst (-1), 1) := by decide +kernel
theorem dX5_consent_23 : decode cX5_consent 23 = .ok (.ireturn, 1) := by decide +kernel
theorem dX5_consent_24 : decode cX5_consent 24 = .ok (.aload_n 0, 1) := by decide +kernel
theorem dX5_consent_25 : decode cX5_consent 25 = .ok (.getfield 10, 3) := by decide +kernel
theorem dX5_consent_28 : decode cX5_consent 28 = .ok (.iload 5, 2) := by decide +kernel
theorem dX5_consent_30 : decode cX5_consent 30 = .ok (.invokevirtual 91, 3) := by decide +kernel
theorem dX5_consent_33 : decode cX5_consent 33 = .ok (.ifCond .eq 11, 3) := by decide +kernel
theorem dX5_consent_36 : decode cX5_consent 36 = .ok (.iload_n 2, 1) := by decide +kernel
theorem dX5_consent_37 : decode cX5_consent 37 = .ok (.ifCond .ne 7, 3) := by decide +kernel
theorem dX5_consent_40 : decode cX5_consent 40 = .ok (.iconst 1, 1) := by decide +kernel
theorem dX5_consent_41 : decode cX5_consent 41 = .ok (.goto 4, 3) := by decide +kernel
theorem dX5_consent_44 : decode cX5_consent 44 = .ok (.iconst 0, 1) := by decide +kernel
theorem dX5_consent_45 : decode cX5_consent 45 = .ok (.istore 6, 2) := by decide +kernel
theorem dX5_consent_47 : decode cX5_consent 47 = .ok (.aload_n 0, 1) := by decide +kernel
theorem dX5_consent_48 : decode cX5_consent 48 = .ok (.getfield 10, 3) := by decide +kernel
theorem dX5_consent_51 : decode cX5_consent 51 = .ok (.iload 5, 2) := by decide +kernel
theorem dX5_consent_53 : decode cX5_consent 53 = .ok (.iload_n 2, 1) := by decide +kernel
theorem dX5_consent_54 : decode cX5_consent 54 = .ok (.invokevirtual 94, 3) := by decide +kernel
theorem dX5_consent_57 : decode cX5_consent 57 = .ok (.iload 6, 2) := by decide +kernel
theorem dX5_consent_59 : decode cX5_consent 59 = .ok (.ifCond .eq 13, 3) := by decide +kernel
theorem dX5_consent_62 : decode cX5_consent 62 = .ok (.aload_n 0, 1) := by decide +kernel
theorem dX5_consent_63 : decode cX5_consent 63 = .ok (.iload 5, 2) := by decide +kernel
theorem dX5_consent_65 : decode cX5_consent 65 = .ok (.lload_n 3, 1) := by decide +kernel
theorem dX5_consent_66 : decode cX5_consent 66 = .ok (.invokevirtual 98, 3) := by decide +kernel
theorem dX5_consent_69 : decode cX5_consent 69 = .ok (.goto 4, 3) := by decide +kernel
theorem dX5_consent_72 : decode cX5_consent 72 = .ok (.iconst 0, 1) := by decide +kernel
theorem dX5_consent_73 : decode cX5_consent 73 = .ok (.ireturn, 1) := by decide +kernel
theorem dX5_keeps_0 : decode cX5_keeps 0 = .ok (.iload_n 1, 1) := by decide +kernel
theorem dX5_keeps_1 : decode cX5_keeps 1 = .ok (.invokestatic 48, 3) := by decide +kernel
theorem dX5_keeps_4 : decode cX5_keeps 4 = .ok (.ifCond .eq 13, 3) := by decide +kernel
theorem dX5_keeps_7 : decode cX5_keeps 7 = .ok (.iload_n 2, 1) := by decide +kernel
theorem dX5_keeps_8 : decode cX5_keeps 8 = .ok (.ifCond .lt 9, 3) := by decide +kernel
theorem dX5_keeps_11 : decode cX5_keeps 11 = .ok (.iload_n 2, 1) := by decide +kernel
theorem dX5_keeps_12 : decode cX5_keeps 12 = .ok (.ldc 102, 2) := by decide +kernel
theorem dX5_keeps_14 : decode cX5_keeps 14 = .ok (.if_icmp .le 5, 3) := by decide +kernel
theorem dX5_keeps_17 : decode cX5_keeps 17 = .ok (.iconst (-1), 1) := by decide +kernel
theorem dX5_keeps_18 : decode cX5_keeps 18 = .ok (.ireturn, 1) := by decide +kernel
theorem dX5_keeps_19 : decode cX5_keeps 19 = .ok (.aload_n 0, 1) := by decide +kernel
theorem dX5_keeps_20 : decode cX5_keeps 20 = .ok (.getfield 44, 3) := by decide +kernel
theorem dX5_keeps_23 : decode cX5_keeps 23 = .ok (.iload_n 1, 1) := by decide +kernel
theorem dX5_keeps_24 : decode cX5_keeps 24 = .ok (.iaload, 1) := by decide +kernel
theorem dX5_keeps_25 : decode cX5_keeps 25 = .ok (.istore_n 3, 1) := by decide +kernel
theorem dX5_keeps_26 : decode cX5_keeps 26 = .ok (.aload_n 0, 1) := by decide +kernel
theorem dX5_keeps_27 : decode cX5_keeps 27 = .ok (.getfield 44, 3) := by decide +kernel
theorem dX5_keeps_30 : decode cX5_keeps 30 = .ok (.iload_n 1, 1) := by decide +kernel
theorem dX5_keeps_31 : decode cX5_keeps 31 = .ok (.iload_n 2, 1) := by decide +kernel
theorem dX5_keeps_32 : decode cX5_keeps 32 = .ok (.iastore, 1) := by decide +kernel
theorem dX5_keeps_33 : decode cX5_keeps 33 = .ok (.iload_n 3, 1) := by decide +kernel
theorem dX5_keeps_34 : decode cX5_keeps 34 = .ok (.ireturn, 1) := by decide +kernel
theorem dX5_loan_0 : decode cX5_loan 0 = .ok (.aload_n 0, 1) := by decide +kernel
theorem dX5_loan_1 : decode cX5_loan 1 = .ok (.getfield 10, 3) := by decide +kernel
theorem dX5_loan_4 : decode cX5_loan 4 = .ok (.iload_n 1, 1) := by decide +kernel
theorem dX5_loan_5 : decode cX5_loan 5 = .ok (.invokevirtual 56, 3) := by decide +kernel
theorem dX5_loan_8 : decode cX5_loan 8 = .ok (.istore 7, 2) := by decide +kernel
theorem dX5_loan_10 : decode cX5_loan 10 = .ok (.iload 7, 2) := by decide +kernel
theorem dX5_loan_12 : decode cX5_loan 12 = .ok (.ifCond .eq 25, 3) := by decide +kernel
theorem dX5_loan_15 : decode cX5_loan 15 = .ok (.lload_n 3, 1) := by decide +kernel
theorem dX5_loan_16 : decode cX5_loan 16 = .ok (.invokestatic 79, 3) := by decide +kernel
theorem dX5_loan_19 : decode cX5_loan 19 = .ok (.ifCond .eq 18, 3) := by decide +kernel
theorem dX5_loan_22 : decode cX5_loan 22 = .ok (.lload 5, 2) := by decide +kernel
theorem dX5_loan_24 : decode cX5_loan 24 = .ok (.invokestatic 79, 3) := by decide +kernel
theorem dX5_loan_27 : decode cX5_loan 27 = .ok (.ifCond .eq 10, 3) := by decide +kernel
theorem dX5_loan_30 : decode cX5_loan 30 = .ok (.lload_n 3, 1) := by decide +kernel
theorem dX5_loan_31 : decode cX5_loan 31 = .ok (.lload 5, 2) := by decide +kernel
theorem dX5_loan_33 : decode cX5_loan 33 = .ok (.lcmp, 1) := by decide +kernel
theorem dX5_loan_34 : decode cX5_loan 34 = .ok (.ifCond .le 5, 3) := by decide +kernel
theorem dX5_loan_37 : decode cX5_loan 37 = .ok (.iconst 0, 1) := by decide +kernel
theorem dX5_loan_38 : decode cX5_loan 38 = .ok (.ireturn, 1) := by decide +kernel
theorem dX5_loan_39 : decode cX5_loan 39 = .ok (.aload_n 0, 1) := by decide +kernel
theorem dX5_loan_40 : decode cX5_loan 40 = .ok (.getfield 33, 3) := by decide +kernel
theorem dX5_loan_43 : decode cX5_loan 43 = .ok (.iload 7, 2) := by decide +kernel
theorem dX5_loan_45 : decode cX5_loan 45 = .ok (.aload_n 0, 1) := by decide +kernel
theorem dX5_loan_46 : decode cX5_loan 46 = .ok (.getfield 10, 3) := by decide +kernel
theorem dX5_loan_49 : decode cX5_loan 49 = .ok (.iload 7, 2) := by decide +kernel
theorem dX5_loan_51 : decode cX5_loan 51 = .ok (.invokevirtual 103, 3) := by decide +kernel
theorem dX5_loan_54 : decode cX5_loan 54 = .ok (.iload_n 2, 1) := by decide +kernel
theorem dX5_loan_55 : decode cX5_loan 55 = .ok (.lload_n 3, 1) := by decide +kernel
theorem dX5_loan_56 : decode cX5_loan 56 = .ok (.lload 5, 2) := by decide +kernel
theorem dX5_loan_58 : decode cX5_loan 58 = .ok (.invokevirtual 106, 3) := by decide +kernel
theorem dX5_loan_61 : decode cX5_loan 61 = .ok (.ireturn, 1) := by decide +kernel
theorem dX5_kept_0 : decode cX5_kept 0 = .ok (.aload_n 0, 1) := by decide +kernel
theorem dX5_kept_1 : decode cX5_kept 1 = .ok (.getfield 10, 3) := by decide +kernel
theorem dX5_kept_4 : decode cX5_kept 4 = .ok (.iload_n 1, 1) := by decide +kernel
theorem dX5_kept_5 : decode cX5_kept 5 = .ok (.invokevirtual 56, 3) := by decide +kernel
theorem dX5_kept_8 : decode cX5_kept 8 = .ok (.istore 5, 2) := by decide +kernel
theorem dX5_kept_10 : decode cX5_kept 10 = .ok (.iload 5, 2) := by decide +kernel
theorem dX5_kept_12 : decode cX5_kept 12 = .ok (.ifCond .ne 6, 3) := by decide +kernel
theorem dX5_kept_15 : decode cX5_kept 15 = .ok (.ldc 109, 2) := by decide +kernel
theorem dX5_kept_17 : decode cX5_kept 17 = .ok (.ireturn, 1) := by decide +kernel
theorem dX5_kept_18 : decode cX5_kept 18 = .ok (.iconst 0, 1) := by decide +kernel
theorem dX5_kept_19 : decode cX5_kept 19 = .ok (.istore 6, 2) := by decide +kernel
theorem dX5_kept_21 : decode cX5_kept 21 = .ok (.iconst 0, 1) := by decide +kernel
theorem dX5_kept_22 : decode cX5_kept 22 = .ok (.istore 7, 2) := by decide +kernel
theorem dX5_kept_24 : decode cX5_kept 24 = .ok (.iload 7, 2) := by decide +kernel
theorem dX5_kept_26 : decode cX5_kept 26 = .ok (.aload_n 0, 1) := by decide +kernel
theorem dX5_kept_27 : decode cX5_kept 27 = .ok (.getfield 33, 3) := by decide +kernel
theorem dX5_kept_30 : decode cX5_kept 30 = .ok (.invokevirtual 110, 3) := by decide +kernel
theorem dX5_kept_33 : decode cX5_kept 33 = .ok (.if_icmp .ge 63, 3) := by decide +kernel
theorem dX5_kept_36 : decode cX5_kept 36 = .ok (.aload_n 0, 1) := by decide +kernel
theorem dX5_kept_37 : decode cX5_kept 37 = .ok (.getfield 33, 3) := by decide +kernel
theorem dX5_kept_40 : decode cX5_kept 40 = .ok (.iload 7, 2) := by decide +kernel
theorem dX5_kept_42 : decode cX5_kept 42 = .ok (.invokevirtual 114, 3) := by decide +kernel
theorem dX5_kept_45 : decode cX5_kept 45 = .ok (.istore 8, 2) := by decide +kernel
theorem dX5_kept_47 : decode cX5_kept 47 = .ok (.aload_n 0, 1) := by decide +kernel
theorem dX5_kept_48 : decode cX5_kept 48 = .ok (.getfield 33, 3) := by decide +kernel
theorem dX5_kept_51 : decode cX5_kept 51 = .ok (.iload 8, 2) := by decide +kernel
theorem dX5_kept_53 : decode cX5_kept 53 = .ok (.invokevirtual 117, 3) := by decide +kernel
theorem dX5_kept_56 : decode cX5_kept 56 = .ok (.iload 5, 2) := by decide +kernel
theorem dX5_kept_58 : decode cX5_kept 58 = .ok (.if_icmp .ne 32, 3) := by decide +kernel
theorem dX5_kept_61 : decode cX5_kept 61 = .ok (.aload_n 0, 1) := by decide +kernel
theorem dX5_kept_62 : decode cX5_kept 62 = .ok (.iload 8, 2) := by decide +kernel
theorem dX5_kept_64 : decode cX5_kept 64 = .ok (.lload_n 3, 1) := by decide +kernel
theorem dX5_kept_65 : decode cX5_kept 65 = .ok (.invokevirtual 120, 3) := by decide +kernel
theorem dX5_kept_68 : decode cX5_kept 68 = .ok (.ifCond .eq 22, 3) := by decide +kernel
theorem dX5_kept_71 : decode cX5_kept 71 = .ok (.iload 6, 2) := by decide +kernel
theorem dX5_kept_73 : decode cX5_kept 73 = .ok (.iload_n 2, 1) := by decide +kernel
theorem dX5_kept_74 : decode cX5_kept 74 = .ok (.if_icmp .ne 13, 3) := by decide +kernel
theorem dX5_kept_77 : decode cX5_kept 77 = .ok (.aload_n 0, 1) := by decide +kernel
theorem dX5_kept_78 : decode cX5_kept 78 = .ok (.getfield 33, 3) := by decide +kernel
theorem dX5_kept_81 : decode cX5_kept 81 = .ok (.iload 8, 2) := by decide +kernel
theorem dX5_kept_83 : decode cX5_kept 83 = .ok (.invokevirtual 124, 3) := by decide +kernel
theorem dX5_kept_86 : decode cX5_kept 86 = .ok (.ireturn, 1) := by decide +kernel
theorem dX5_kept_87 : decode cX5_kept 87 = .ok (.iinc 6 1, 3) := by decide +kernel
theorem dX5_kept_90 : decode cX5_kept 90 = .ok (.iinc 7 1, 3) := by decide +kernel
theorem dX5_kept_93 : decode cX5_kept 93 = .ok (.goto (-69), 3) := by decide +kernel
theorem dX5_kept_96 : decode cX5_kept 96 = .ok (.ldc 109, 2) := by decide +kernel
theorem dX5_kept_98 : decode cX5_kept 98 = .ok (.ireturn, 1) := by decide +kernel
theorem dX5_anonymise_0 : decode cX5_anonymise 0 = .ok (.lload_n 1, 1) := by decide +kernel
theorem dX5_anonymise_1 : decode cX5_anonymise 1 = .ok (.invokestatic 79, 3) := by decide +kernel
theorem dX5_anonymise_4 : decode cX5_anonymise 4 = .ok (.ifCond .ne 5, 3) := by decide +kernel
theorem dX5_anonymise_7 : decode cX5_anonymise 7 = .ok (.iconst (-1), 1) := by decide +kernel
theorem dX5_anonymise_8 : decode cX5_anonymise 8 = .ok (.ireturn, 1) := by decide +kernel
theorem dX5_anonymise_9 : decode cX5_anonymise 9 = .ok (.iconst 0, 1) := by decide +kernel
theorem dX5_anonymise_10 : decode cX5_anonymise 10 = .ok (.istore_n 3, 1) := by decide +kernel
theorem dX5_anonymise_11 : decode cX5_anonymise 11 = .ok (.iconst 0, 1) := by decide +kernel
theorem dX5_anonymise_12 : decode cX5_anonymise 12 = .ok (.istore 4, 2) := by decide +kernel
theorem dX5_anonymise_14 : decode cX5_anonymise 14 = .ok (.iload 4, 2) := by decide +kernel
theorem dX5_anonymise_16 : decode cX5_anonymise 16 = .ok (.aload_n 0, 1) := by decide +kernel
theorem dX5_anonymise_17 : decode cX5_anonymise 17 = .ok (.getfield 33, 3) := by decide +kernel
theorem dX5_anonymise_20 : decode cX5_anonymise 20 = .ok (.invokevirtual 110, 3) := by decide +kernel
theorem dX5_anonymise_23 : decode cX5_anonymise 23 = .ok (.if_icmp .ge 22, 3) := by decide +kernel
theorem dX5_anonymise_26 : decode cX5_anonymise 26 = .ok (.aload_n 0, 1) := by decide +kernel
theorem dX5_anonymise_27 : decode cX5_anonymise 27 = .ok (.iload 4, 2) := by decide +kernel
theorem dX5_anonymise_29 : decode cX5_anonymise 29 = .ok (.lload_n 1, 1) := by decide +kernel
theorem dX5_anonymise_30 : decode cX5_anonymise 30 = .ok (.invokevirtual 127, 3) := by decide +kernel
theorem dX5_anonymise_33 : decode cX5_anonymise 33 = .ok (.ifCond .eq 6, 3) := by decide +kernel
theorem dX5_anonymise_36 : decode cX5_anonymise 36 = .ok (.iinc 3 1, 3) := by decide +kernel
theorem dX5_anonymise_39 : decode cX5_anonymise 39 = .ok (.iinc 4 1, 3) := by decide +kernel
theorem dX5_anonymise_42 : decode cX5_anonymise 42 = .ok (.goto (-28), 3) := by decide +kernel
theorem dX5_anonymise_45 : decode cX5_anonymise 45 = .ok (.iload_n 3, 1) := by decide +kernel
theorem dX5_anonymise_46 : decode cX5_anonymise 46 = .ok (.ireturn, 1) := by decide +kernel
theorem dX5_join_0 : decode cX5_join 0 = .ok (.aload_n 0, 1) := by decide +kernel
theorem dX5_join_1 : decode cX5_join 1 = .ok (.getfield 10, 3) := by decide +kernel
theorem dX5_join_4 : decode cX5_join 4 = .ok (.iload_n 1, 1) := by decide +kernel
theorem dX5_join_5 : decode cX5_join 5 = .ok (.invokevirtual 56, 3) := by decide +kernel
theorem dX5_join_8 : decode cX5_join 8 = .ok (.istore_n 3, 1) := by decide +kernel
theorem dX5_join_9 : decode cX5_join 9 = .ok (.aload_n 0, 1) := by decide +kernel
theorem dX5_join_10 : decode cX5_join 10 = .ok (.getfield 10, 3) := by decide +kernel
theorem dX5_join_13 : decode cX5_join 13 = .ok (.iload_n 2, 1) := by decide +kernel
theorem dX5_join_14 : decode cX5_join 14 = .ok (.invokevirtual 56, 3) := by decide +kernel
theorem dX5_join_17 : decode cX5_join 17 = .ok (.istore 4, 2) := by decide +kernel
theorem dX5_join_19 : decode cX5_join 19 = .ok (.iload_n 3, 1) := by decide +kernel
theorem dX5_join_20 : decode cX5_join 20 = .ok (.ifCond .eq 24, 3) := by decide +kernel
theorem dX5_join_23 : decode cX5_join 23 = .ok (.iload 4, 2) := by decide +kernel
theorem dX5_join_25 : decode cX5_join 25 = .ok (.ifCond .eq 19, 3) := by decide +kernel
theorem dX5_join_28 : decode cX5_join 28 = .ok (.iload_n 3, 1) := by decide +kernel
theorem dX5_join_29 : decode cX5_join 29 = .ok (.iload 4, 2) := by decide +kernel
theorem dX5_join_31 : decode cX5_join 31 = .ok (.if_icmp .eq 13, 3) := by decide +kernel
theorem dX5_join_34 : decode cX5_join 34 = .ok (.aload_n 0, 1) := by decide +kernel
theorem dX5_join_35 : decode cX5_join 35 = .ok (.iload_n 3, 1) := by decide +kernel
theorem dX5_join_36 : decode cX5_join 36 = .ok (.iload 4, 2) := by decide +kernel
theorem dX5_join_38 : decode cX5_join 38 = .ok (.invokevirtual 130, 3) := by decide +kernel
theorem dX5_join_41 : decode cX5_join 41 = .ok (.ifCond .ne 5, 3) := by decide +kernel
theorem dX5_join_44 : decode cX5_join 44 = .ok (.iconst 0, 1) := by decide +kernel
theorem dX5_join_45 : decode cX5_join 45 = .ok (.ireturn, 1) := by decide +kernel
theorem dX5_join_46 : decode cX5_join 46 = .ok (.aload_n 0, 1) := by decide +kernel
theorem dX5_join_47 : decode cX5_join 47 = .ok (.getfield 10, 3) := by decide +kernel
theorem dX5_join_50 : decode cX5_join 50 = .ok (.iload_n 3, 1) := by decide +kernel
theorem dX5_join_51 : decode cX5_join 51 = .ok (.iload 4, 2) := by decide +kernel
theorem dX5_join_53 : decode cX5_join 53 = .ok (.invokevirtual 134, 3) := by decide +kernel
theorem dX5_join_56 : decode cX5_join 56 = .ok (.aload_n 0, 1) := by decide +kernel
theorem dX5_join_57 : decode cX5_join 57 = .ok (.getfield 26, 3) := by decide +kernel
theorem dX5_join_60 : decode cX5_join 60 = .ok (.iload_n 3, 1) := by decide +kernel
theorem dX5_join_61 : decode cX5_join 61 = .ok (.iload 4, 2) := by decide +kernel
theorem dX5_join_63 : decode cX5_join 63 = .ok (.invokevirtual 137, 3) := by decide +kernel
theorem dX5_join_66 : decode cX5_join 66 = .ok (.aload_n 0, 1) := by decide +kernel
theorem dX5_join_67 : decode cX5_join 67 = .ok (.getfield 33, 3) := by decide +kernel
theorem dX5_join_70 : decode cX5_join 70 = .ok (.iload_n 3, 1) := by decide +kernel
theorem dX5_join_71 : decode cX5_join 71 = .ok (.iload 4, 2) := by decide +kernel
theorem dX5_join_73 : decode cX5_join 73 = .ok (.invokevirtual 140, 3) := by decide +kernel
theorem dX5_join_76 : decode cX5_join 76 = .ok (.iconst 1, 1) := by decide +kernel
theorem dX5_join_77 : decode cX5_join 77 = .ok (.ireturn, 1) := by decide +kernel
theorem dX5_family_0 : decode cX5_family 0 = .ok (.aload_n 0, 1) := by decide +kernel
theorem dX5_family_1 : decode cX5_family 1 = .ok (.getfield 10, 3) := by decide +kernel
theorem dX5_family_4 : decode cX5_family 4 = .ok (.iload_n 1, 1) := by decide +kernel
theorem dX5_family_5 : decode cX5_family 5 = .ok (.invokevirtual 56, 3) := by decide +kernel
theorem dX5_family_8 : decode cX5_family 8 = .ok (.istore_n 3, 1) := by decide +kernel
theorem dX5_family_9 : decode cX5_family 9 = .ok (.iload_n 3, 1) := by decide +kernel
theorem dX5_family_10 : decode cX5_family 10 = .ok (.ifCond .ne 5, 3) := by decide +kernel
theorem dX5_family_13 : decode cX5_family 13 = .ok (.iconst 0, 1) := by decide +kernel
theorem dX5_family_14 : decode cX5_family 14 = .ok (.ireturn, 1) := by decide +kernel
theorem dX5_family_15 : decode cX5_family 15 = .ok (.aload_n 0, 1) := by decide +kernel
theorem dX5_family_16 : decode cX5_family 16 = .ok (.getfield 10, 3) := by decide +kernel
theorem dX5_family_19 : decode cX5_family 19 = .ok (.iload_n 3, 1) := by decide +kernel
theorem dX5_family_20 : decode cX5_family 20 = .ok (.invokevirtual 60, 3) := by decide +kernel
theorem dX5_family_23 : decode cX5_family 23 = .ok (.istore 4, 2) := by decide +kernel
theorem dX5_family_25 : decode cX5_family 25 = .ok (.iload 4, 2) := by decide +kernel
theorem dX5_family_27 : decode cX5_family 27 = .ok (.ifCond .ne 7, 3) := by decide +kernel
theorem dX5_family_30 : decode cX5_family 30 = .ok (.iload_n 3, 1) := by decide +kernel
theorem dX5_family_31 : decode cX5_family 31 = .ok (.goto 5, 3) := by decide +kernel
theorem dX5_family_34 : decode cX5_family 34 = .ok (.iload 4, 2) := by decide +kernel
theorem dX5_family_36 : decode cX5_family 36 = .ok (.istore 5, 2) := by decide +kernel
theorem dX5_family_38 : decode cX5_family 38 = .ok (.iload_n 2, 1) := by decide +kernel
theorem dX5_family_39 : decode cX5_family 39 = .ok (.ifCond .ne 8, 3) := by decide +kernel
theorem dX5_family_42 : decode cX5_family 42 = .ok (.iload 5, 2) := by decide +kernel
theorem dX5_family_44 : decode cX5_family 44 = .ok (.goto 13, 3) := by decide +kernel
theorem dX5_family_47 : decode cX5_family 47 = .ok (.aload_n 0, 1) := by decide +kernel
theorem dX5_family_48 : decode cX5_family 48 = .ok (.getfield 10, 3) := by decide +kernel
theorem dX5_family_51 : decode cX5_family 51 = .ok (.iload 5, 2) := by decide +kernel
theorem dX5_family_53 : decode cX5_family 53 = .ok (.iload_n 2, 1) := by decide +kernel
theorem dX5_family_54 : decode cX5_family 54 = .ok (.invokevirtual 141, 3) := by decide +kernel
theorem dX5_family_57 : decode cX5_family 57 = .ok (.ireturn, 1) := by decide +kernel
theorem dX5_sign_0 : decode cX5_sign 0 = .ok (.aload_n 0, 1) := by decide +kernel
theorem dX5_sign_1 : decode cX5_sign 1 = .ok (.getfield 40, 3) := by decide +kernel
theorem dX5_sign_4 : decode cX5_sign 4 = .ok (.iload_n 1, 1) := by decide +kernel
theorem dX5_sign_5 : decode cX5_sign 5 = .ok (.sipush 255, 3) := by decide +kernel
theorem dX5_sign_8 : decode cX5_sign 8 = .ok (.iand, 1) := by decide +kernel
theorem dX5_sign_9 : decode cX5_sign 9 = .ok (.invokevirtual 144, 3) := by decide +kernel
theorem dX5_sign_12 : decode cX5_sign 12 = .ok (.return_, 1) := by decide +kernel
theorem dX5_import0_0 : decode cX5_import0 0 = .ok (.aload_n 0, 1) := by decide +kernel
theorem dX5_import0_1 : decode cX5_import0 1 = .ok (.getfield 40, 3) := by decide +kernel
theorem dX5_import0_4 : decode cX5_import0 4 = .ok (.invokevirtual 147, 3) := by decide +kernel
theorem dX5_import0_7 : decode cX5_import0 7 = .ok (.istore_n 1, 1) := by decide +kernel
theorem dX5_import0_8 : decode cX5_import0 8 = .ok (.iload_n 1, 1) := by decide +kernel
theorem dX5_import0_9 : decode cX5_import0 9 = .ok (.iconst (-1), 1) := by decide +kernel
theorem dX5_import0_10 : decode cX5_import0 10 = .ok (.if_icmp .ne 10, 3) := by decide +kernel
theorem dX5_import0_13 : decode cX5_import0 13 = .ok (.aload_n 0, 1) := by decide +kernel
theorem dX5_import0_14 : decode cX5_import0 14 = .ok (.invokevirtual 150, 3) := by decide +kernel
theorem dX5_import0_17 : decode cX5_import0 17 = .ok (.goto 7, 3) := by decide +kernel
theorem dX5_import0_20 : decode cX5_import0 20 = .ok (.bipush (-100), 2) := by decide +kernel
theorem dX5_import0_22 : decode cX5_import0 22 = .ok (.iload_n 1, 1) := by decide +kernel
theorem dX5_import0_23 : decode cX5_import0 23 = .ok (.isub, 1) := by decide +kernel
theorem dX5_import0_24 : decode cX5_import0 24 = .ok (.istore_n 2, 1) := by decide +kernel
theorem dX5_import0_25 : decode cX5_import0 25 = .ok (.aload_n 0, 1) := by decide +kernel
theorem dX5_import0_26 : decode cX5_import0 26 = .ok (.getfield 40, 3) := by decide +kernel
theorem dX5_import0_29 : decode cX5_import0 29 = .ok (.invokevirtual 153, 3) := by decide +kernel
theorem dX5_import0_32 : decode cX5_import0 32 = .ok (.iload_n 2, 1) := by decide +kernel
theorem dX5_import0_33 : decode cX5_import0 33 = .ok (.ireturn, 1) := by decide +kernel
theorem dX5_like_0 : decode cX5_like 0 = .ok (.aload_n 0, 1) := by decide +kernel
theorem dX5_like_1 : decode cX5_like 1 = .ok (.getfield 40, 3) := by decide +kernel
theorem dX5_like_4 : decode cX5_like 4 = .ok (.invokevirtual 156, 3) := by decide +kernel
theorem dX5_like_7 : decode cX5_like 7 = .ok (.ifCond .eq 10, 3) := by decide +kernel
theorem dX5_like_10 : decode cX5_like 10 = .ok (.aload_n 0, 1) := by decide +kernel
theorem dX5_like_11 : decode cX5_like 11 = .ok (.invokevirtual 160, 3) := by decide +kernel
theorem dX5_like_14 : decode cX5_like 14 = .ok (.goto 4, 3) := by decide +kernel
theorem dX5_like_17 : decode cX5_like 17 = .ok (.iconst 0, 1) := by decide +kernel
theorem dX5_like_18 : decode cX5_like 18 = .ok (.istore_n 1, 1) := by decide +kernel
theorem dX5_like_19 : decode cX5_like 19 = .ok (.aload_n 0, 1) := by decide +kernel
theorem dX5_like_20 : decode cX5_like 20 = .ok (.getfield 40, 3) := by decide +kernel
theorem dX5_like_23 : decode cX5_like 23 = .ok (.invokevirtual 153, 3) := by decide +kernel
theorem dX5_like_26 : decode cX5_like 26 = .ok (.iload_n 1, 1) := by decide +kernel
theorem dX5_like_27 : decode cX5_like 27 = .ok (.ireturn, 1) := by decide +kernel
theorem dX5_about_0 : decode cX5_about 0 = .ok (.aload_n 0, 1) := by decide +kernel
theorem dX5_about_1 : decode cX5_about 1 = .ok (.getfield 10, 3) := by decide +kernel
theorem dX5_about_4 : decode cX5_about 4 = .ok (.iload_n 1, 1) := by decide +kernel
theorem dX5_about_5 : decode cX5_about 5 = .ok (.invokevirtual 56, 3) := by decide +kernel
theorem dX5_about_8 : decode cX5_about 8 = .ok (.istore_n 3, 1) := by decide +kernel
theorem dX5_about_9 : decode cX5_about 9 = .ok (.iload_n 3, 1) := by decide +kernel
theorem dX5_about_10 : decode cX5_about 10 = .ok (.ifCond .ne 5, 3) := by decide +kernel
theorem dX5_about_13 : decode cX5_about 13 = .ok (.iconst (-1), 1) := by decide +kernel
theorem dX5_about_14 : decode cX5_about 14 = .ok (.ireturn, 1) := by decide +kernel
theorem dX5_about_15 : decode cX5_about 15 = .ok (.iload_n 2, 1) := by decide +kernel
theorem dX5_about_16 : decode cX5_about 16 = .ok (.tableswitch 89 0 4 #[36, 45, 54, 63, 80], 36) := by decide +kernel
theorem dX5_about_52 : decode cX5_about 52 = .ok (.aload_n 0, 1) := by decide +kernel
theorem dX5_about_53 : decode cX5_about 53 = .ok (.getfield 10, 3) := by decide +kernel
theorem dX5_about_56 : decode cX5_about 56 = .ok (.iload_n 3, 1) := by decide +kernel
theorem dX5_about_57 : decode cX5_about 57 = .ok (.invokevirtual 103, 3) := by decide +kernel
theorem dX5_about_60 : decode cX5_about 60 = .ok (.ireturn, 1) := by decide +kernel
theorem dX5_about_61 : decode cX5_about 61 = .ok (.aload_n 0, 1) := by decide +kernel
theorem dX5_about_62 : decode cX5_about 62 = .ok (.getfield 10, 3) := by decide +kernel
theorem dX5_about_65 : decode cX5_about 65 = .ok (.iload_n 3, 1) := by decide +kernel
theorem dX5_about_66 : decode cX5_about 66 = .ok (.invokevirtual 60, 3) := by decide +kernel
theorem dX5_about_69 : decode cX5_about 69 = .ok (.ireturn, 1) := by decide +kernel
theorem dX5_about_70 : decode cX5_about 70 = .ok (.aload_n 0, 1) := by decide +kernel
theorem dX5_about_71 : decode cX5_about 71 = .ok (.getfield 26, 3) := by decide +kernel
theorem dX5_about_74 : decode cX5_about 74 = .ok (.iload_n 3, 1) := by decide +kernel
theorem dX5_about_75 : decode cX5_about 75 = .ok (.invokevirtual 63, 3) := by decide +kernel
theorem dX5_about_78 : decode cX5_about 78 = .ok (.ireturn, 1) := by decide +kernel
theorem dX5_about_79 : decode cX5_about 79 = .ok (.aload_n 0, 1) := by decide +kernel
theorem dX5_about_80 : decode cX5_about 80 = .ok (.getfield 10, 3) := by decide +kernel
theorem dX5_about_83 : decode cX5_about 83 = .ok (.iload_n 3, 1) := by decide +kernel
theorem dX5_about_84 : decode cX5_about 84 = .ok (.invokevirtual 91, 3) := by decide +kernel
theorem dX5_about_87 : decode cX5_about 87 = .ok (.ifCond .eq 7, 3) := by decide +kernel
theorem dX5_about_90 : decode cX5_about 90 = .ok (.iconst 1, 1) := by decide +kernel
theorem dX5_about_91 : decode cX5_about 91 = .ok (.goto 4, 3) := by decide +kernel
theorem dX5_about_94 : decode cX5_about 94 = .ok (.iconst 0, 1) := by decide +kernel
theorem dX5_about_95 : decode cX5_about 95 = .ok (.ireturn, 1) := by decide +kernel
theorem dX5_about_96 : decode cX5_about 96 = .ok (.aload_n 0, 1) := by decide +kernel
theorem dX5_about_97 : decode cX5_about 97 = .ok (.getfield 33, 3) := by decide +kernel
theorem dX5_about_100 : decode cX5_about 100 = .ok (.iload_n 3, 1) := by decide +kernel
theorem dX5_about_101 : decode cX5_about 101 = .ok (.invokevirtual 163, 3) := by decide +kernel
theorem dX5_about_104 : decode cX5_about 104 = .ok (.ireturn, 1) := by decide +kernel
theorem dX5_about_105 : decode cX5_about 105 = .ok (.iconst (-1), 1) := by decide +kernel
theorem dX5_about_106 : decode cX5_about 106 = .ok (.ireturn, 1) := by decide +kernel
theorem dX5_statistics_0 : decode cX5_statistics 0 = .ok (.iload_n 1, 1) := by decide +kernel
theorem dX5_statistics_1 : decode cX5_statistics 1 = .ok (.invokestatic 48, 3) := by decide +kernel
theorem dX5_statistics_4 : decode cX5_statistics 4 = .ok (.ifCond .eq 17, 3) := by decide +kernel
theorem dX5_statistics_7 : decode cX5_statistics 7 = .ok (.aload_n 0, 1) := by decide +kernel
theorem dX5_statistics_8 : decode cX5_statistics 8 = .ok (.getfield 33, 3) := by decide +kernel
theorem dX5_statistics_11 : decode cX5_statistics 11 = .ok (.iload_n 1, 1) := by decide +kernel
theorem dX5_statistics_12 : decode cX5_statistics 12 = .ok (.lload_n 2, 1) := by decide +kernel
theorem dX5_statistics_13 : decode cX5_statistics 13 = .ok (.lload 4, 2) := by decide +kernel
theorem dX5_statistics_15 : decode cX5_statistics 15 = .ok (.invokevirtual 166, 3) := by decide +kernel
theorem dX5_statistics_18 : decode cX5_statistics 18 = .ok (.goto 4, 3) := by decide +kernel
theorem dX5_statistics_21 : decode cX5_statistics 21 = .ok (.iconst (-1), 1) := by decide +kernel
theorem dX5_statistics_22 : decode cX5_statistics 22 = .ok (.ireturn, 1) := by decide +kernel
theorem dX5_isKind_0 : decode cX5_isKind 0 = .ok (.iload_n 0, 1) := by decide +kernel
theorem dX5_isKind_1 : decode cX5_isKind 1 = .ok (.ifCond .lt 12, 3) := by decide +kernel
theorem dX5_isKind_4 : decode cX5_isKind 4 = .ok (.iload_n 0, 1) := by decide +kernel
theorem dX5_isKind_5 : decode cX5_isKind 5 = .ok (.iconst 5, 1) := by decide +kernel
theorem dX5_isKind_6 : decode cX5_isKind 6 = .ok (.if_icmp .ge 7, 3) := by decide +kernel
theorem dX5_isKind_9 : decode cX5_isKind 9 = .ok (.iconst 1, 1) := by decide +kernel
theorem dX5_isKind_10 : decode cX5_isKind 10 = .ok (.goto 4, 3) := by decide +kernel
theorem dX5_isKind_13 : decode cX5_isKind 13 = .ok (.iconst 0, 1) := by decide +kernel
theorem dX5_isKind_14 : decode cX5_isKind 14 = .ok (.ireturn, 1) := by decide +kernel
theorem dX5_isDay_0 : decode cX5_isDay 0 = .ok (.lload_n 0, 1) := by decide +kernel
theorem dX5_isDay_1 : decode cX5_isDay 1 = .ok (.lconst 0, 1) := by decide +kernel
theorem dX5_isDay_2 : decode cX5_isDay 2 = .ok (.lcmp, 1) := by decide +kernel
theorem dX5_isDay_3 : decode cX5_isDay 3 = .ok (.ifCond .lt 15, 3) := by decide +kernel
theorem dX5_isDay_6 : decode cX5_isDay 6 = .ok (.lload_n 0, 1) := by decide +kernel
theorem dX5_isDay_7 : decode cX5_isDay 7 = .ok (.ldc2_w 170, 3) := by decide +kernel
theorem dX5_isDay_10 : decode cX5_isDay 10 = .ok (.lcmp, 1) := by decide +kernel
theorem dX5_isDay_11 : decode cX5_isDay 11 = .ok (.ifCond .gt 7, 3) := by decide +kernel
theorem dX5_isDay_14 : decode cX5_isDay 14 = .ok (.iconst 1, 1) := by decide +kernel
theorem dX5_isDay_15 : decode cX5_isDay 15 = .ok (.goto 4, 3) := by decide +kernel
theorem dX5_isDay_18 : decode cX5_isDay 18 = .ok (.iconst 0, 1) := by decide +kernel
theorem dX5_isDay_19 : decode cX5_isDay 19 = .ok (.ireturn, 1) := by decide +kernel
theorem dX5_isKept_0 : decode cX5_isKept 0 = .ok (.aload_n 0, 1) := by decide +kernel
theorem dX5_isKept_1 : decode cX5_isKept 1 = .ok (.getfield 33, 3) := by decide +kernel
theorem dX5_isKept_4 : decode cX5_isKept 4 = .ok (.iload_n 1, 1) := by decide +kernel
theorem dX5_isKept_5 : decode cX5_isKept 5 = .ok (.invokevirtual 172, 3) := by decide +kernel
theorem dX5_isKept_8 : decode cX5_isKept 8 = .ok (.ifCond .eq 5, 3) := by decide +kernel
theorem dX5_isKept_11 : decode cX5_isKept 11 = .ok (.iconst 0, 1) := by decide +kernel
theorem dX5_isKept_12 : decode cX5_isKept 12 = .ok (.ireturn, 1) := by decide +kernel
theorem dX5_isKept_13 : decode cX5_isKept 13 = .ok (.aload_n 0, 1) := by decide +kernel
theorem dX5_isKept_14 : decode cX5_isKept 14 = .ok (.getfield 33, 3) := by decide +kernel
theorem dX5_isKept_17 : decode cX5_isKept 17 = .ok (.iload_n 1, 1) := by decide +kernel
theorem dX5_isKept_18 : decode cX5_isKept 18 = .ok (.invokevirtual 117, 3) := by decide +kernel
theorem dX5_isKept_21 : decode cX5_isKept 21 = .ok (.istore 4, 2) := by decide +kernel
theorem dX5_isKept_23 : decode cX5_isKept 23 = .ok (.aload_n 0, 1) := by decide +kernel
theorem dX5_isKept_24 : decode cX5_isKept 24 = .ok (.getfield 10, 3) := by decide +kernel
theorem dX5_isKept_27 : decode cX5_isKept 27 = .ok (.iload 4, 2) := by decide +kernel
theorem dX5_isKept_29 : decode cX5_isKept 29 = .ok (.invokevirtual 91, 3) := by decide +kernel
theorem dX5_isKept_32 : decode cX5_isKept 32 = .ok (.ifCond .ne 32, 3) := by decide +kernel
theorem dX5_isKept_35 : decode cX5_isKept 35 = .ok (.lload_n 2, 1) := by decide +kernel
theorem dX5_isKept_36 : decode cX5_isKept 36 = .ok (.aload_n 0, 1) := by decide +kernel
theorem dX5_isKept_37 : decode cX5_isKept 37 = .ok (.getfield 33, 3) := by decide +kernel
theorem dX5_isKept_40 : decode cX5_isKept 40 = .ok (.iload_n 1, 1) := by decide +kernel
theorem dX5_isKept_41 : decode cX5_isKept 41 = .ok (.invokevirtual 175, 3) := by decide +kernel
theorem dX5_isKept_44 : decode cX5_isKept 44 = .ok (.aload_n 0, 1) := by decide +kernel
theorem dX5_isKept_45 : decode cX5_isKept 45 = .ok (.getfield 44, 3) := by decide +kernel
theorem dX5_isKept_48 : decode cX5_isKept 48 = .ok (.aload_n 0, 1) := by decide +kernel
theorem dX5_isKept_49 : decode cX5_isKept 49 = .ok (.getfield 10, 3) := by decide +kernel
theorem dX5_isKept_52 : decode cX5_isKept 52 = .ok (.iload 4, 2) := by decide +kernel
theorem dX5_isKept_54 : decode cX5_isKept 54 = .ok (.invokevirtual 103, 3) := by decide +kernel
theorem dX5_isKept_57 : decode cX5_isKept 57 = .ok (.iaload, 1) := by decide +kernel
theorem dX5_isKept_58 : decode cX5_isKept 58 = .ok (.i2l, 1) := by decide +kernel
theorem dX5_isKept_59 : decode cX5_isKept 59 = .ok (.ladd, 1) := by decide +kernel
theorem dX5_isKept_60 : decode cX5_isKept 60 = .ok (.lcmp, 1) := by decide +kernel
theorem dX5_isKept_61 : decode cX5_isKept 61 = .ok (.ifCond .gt 7, 3) := by decide +kernel
theorem dX5_isKept_64 : decode cX5_isKept 64 = .ok (.iconst 1, 1) := by decide +kernel
theorem dX5_isKept_65 : decode cX5_isKept 65 = .ok (.goto 4, 3) := by decide +kernel
theorem dX5_isKept_68 : decode cX5_isKept 68 = .ok (.iconst 0, 1) := by decide +kernel
theorem dX5_isKept_69 : decode cX5_isKept 69 = .ok (.ireturn, 1) := by decide +kernel
theorem dX5_anonymiseUnlessKept_0 : decode cX5_anonymiseUnlessKept 0 = .ok (.aload_n 0, 1) := by decide +kernel
theorem dX5_anonymiseUnlessKept_1 : decode cX5_anonymiseUnlessKept 1 = .ok (.getfield 33, 3) := by decide +kernel
theorem dX5_anonymiseUnlessKept_4 : decode cX5_anonymiseUnlessKept 4 = .ok (.iload_n 1, 1) := by decide +kernel
theorem dX5_anonymiseUnlessKept_5 : decode cX5_anonymiseUnlessKept 5 = .ok (.invokevirtual 172, 3) := by decide +kernel
theorem dX5_anonymiseUnlessKept_8 : decode cX5_anonymiseUnlessKept 8 = .ok (.ifCond .ne 12, 3) := by decide +kernel
theorem dX5_anonymiseUnlessKept_11 : decode cX5_anonymiseUnlessKept 11 = .ok (.aload_n 0, 1) := by decide +kernel
theorem dX5_anonymiseUnlessKept_12 : decode cX5_anonymiseUnlessKept 12 = .ok (.iload_n 1, 1) := by decide +kernel
theorem dX5_anonymiseUnlessKept_13 : decode cX5_anonymiseUnlessKept 13 = .ok (.lload_n 2, 1) := by decide +kernel
theorem dX5_anonymiseUnlessKept_14 : decode cX5_anonymiseUnlessKept 14 = .ok (.invokevirtual 120, 3) := by decide +kernel
theorem dX5_anonymiseUnlessKept_17 : decode cX5_anonymiseUnlessKept 17 = .ok (.ifCond .eq 5, 3) := by decide +kernel
theorem dX5_anonymiseUnlessKept_20 : decode cX5_anonymiseUnlessKept 20 = .ok (.iconst 0, 1) := by decide +kernel
theorem dX5_anonymiseUnlessKept_21 : decode cX5_anonymiseUnlessKept 21 = .ok (.ireturn, 1) := by decide +kernel
theorem dX5_anonymiseUnlessKept_22 : decode cX5_anonymiseUnlessKept 22 = .ok (.aload_n 0, 1) := by decide +kernel
theorem dX5_anonymiseUnlessKept_23 : decode cX5_anonymiseUnlessKept 23 = .ok (.getfield 33, 3) := by decide +kernel
theorem dX5_anonymiseUnlessKept_26 : decode cX5_anonymiseUnlessKept 26 = .ok (.iload_n 1, 1) := by decide +kernel
theorem dX5_anonymiseUnlessKept_27 : decode cX5_anonymiseUnlessKept 27 = .ok (.invokevirtual 179, 3) := by decide +kernel
theorem dX5_anonymiseUnlessKept_30 : decode cX5_anonymiseUnlessKept 30 = .ok (.iconst 1, 1) := by decide +kernel
theorem dX5_anonymiseUnlessKept_31 : decode cX5_anonymiseUnlessKept 31 = .ok (.ireturn, 1) := by decide +kernel
theorem dX5_anonymiseLoansOf_0 : decode cX5_anonymiseLoansOf 0 = .ok (.iconst 0, 1) := by decide +kernel
theorem dX5_anonymiseLoansOf_1 : decode cX5_anonymiseLoansOf 1 = .ok (.istore 4, 2) := by decide +kernel
theorem dX5_anonymiseLoansOf_3 : decode cX5_anonymiseLoansOf 3 = .ok (.iconst 0, 1) := by decide +kernel
theorem dX5_anonymiseLoansOf_4 : decode cX5_anonymiseLoansOf 4 = .ok (.istore 5, 2) := by decide +kernel
theorem dX5_anonymiseLoansOf_6 : decode cX5_anonymiseLoansOf 6 = .ok (.iload 5, 2) := by decide +kernel
theorem dX5_anonymiseLoansOf_8 : decode cX5_anonymiseLoansOf 8 = .ok (.aload_n 0, 1) := by decide +kernel
theorem dX5_anonymiseLoansOf_9 : decode cX5_anonymiseLoansOf 9 = .ok (.getfield 33, 3) := by decide +kernel
theorem dX5_anonymiseLoansOf_12 : decode cX5_anonymiseLoansOf 12 = .ok (.invokevirtual 110, 3) := by decide +kernel
theorem dX5_anonymiseLoansOf_15 : decode cX5_anonymiseLoansOf 15 = .ok (.if_icmp .ge 35, 3) := by decide +kernel
theorem dX5_anonymiseLoansOf_18 : decode cX5_anonymiseLoansOf 18 = .ok (.aload_n 0, 1) := by decide +kernel
theorem dX5_anonymiseLoansOf_19 : decode cX5_anonymiseLoansOf 19 = .ok (.getfield 33, 3) := by decide +kernel
theorem dX5_anonymiseLoansOf_22 : decode cX5_anonymiseLoansOf 22 = .ok (.iload 5, 2) := by decide +kernel
theorem dX5_anonymiseLoansOf_24 : decode cX5_anonymiseLoansOf 24 = .ok (.invokevirtual 117, 3) := by decide +kernel
theorem dX5_anonymiseLoansOf_27 : decode cX5_anonymiseLoansOf 27 = .ok (.iload_n 1, 1) := by decide +kernel
theorem dX5_anonymiseLoansOf_28 : decode cX5_anonymiseLoansOf 28 = .ok (.if_icmp .ne 16, 3) := by decide +kernel
theorem dX5_anonymiseLoansOf_31 : decode cX5_anonymiseLoansOf 31 = .ok (.aload_n 0, 1) := by decide +kernel
theorem dX5_anonymiseLoansOf_32 : decode cX5_anonymiseLoansOf 32 = .ok (.iload 5, 2) := by decide +kernel
theorem dX5_anonymiseLoansOf_34 : decode cX5_anonymiseLoansOf 34 = .ok (.lload_n 2, 1) := by decide +kernel
theorem dX5_anonymiseLoansOf_35 : decode cX5_anonymiseLoansOf 35 = .ok (.invokevirtual 127, 3) := by decide +kernel
theorem dX5_anonymiseLoansOf_38 : decode cX5_anonymiseLoansOf 38 = .ok (.ifCond .eq 6, 3) := by decide +kernel
theorem dX5_anonymiseLoansOf_41 : decode cX5_anonymiseLoansOf 41 = .ok (.iinc 4 1, 3) := by decide +kernel
theorem dX5_anonymiseLoansOf_44 : decode cX5_anonymiseLoansOf 44 = .ok (.iinc 5 1, 3) := by decide +kernel
theorem dX5_anonymiseLoansOf_47 : decode cX5_anonymiseLoansOf 47 = .ok (.goto (-41), 3) := by decide +kernel
theorem dX5_anonymiseLoansOf_50 : decode cX5_anonymiseLoansOf 50 = .ok (.iload 4, 2) := by decide +kernel
theorem dX5_anonymiseLoansOf_52 : decode cX5_anonymiseLoansOf 52 = .ok (.ireturn, 1) := by decide +kernel
theorem dX5_mayJoin_0 : decode cX5_mayJoin 0 = .ok (.aload_n 0, 1) := by decide +kernel
theorem dX5_mayJoin_1 : decode cX5_mayJoin 1 = .ok (.getfield 10, 3) := by decide +kernel
theorem dX5_mayJoin_4 : decode cX5_mayJoin 4 = .ok (.iload_n 2, 1) := by decide +kernel
theorem dX5_mayJoin_5 : decode cX5_mayJoin 5 = .ok (.invokevirtual 60, 3) := by decide +kernel
theorem dX5_mayJoin_8 : decode cX5_mayJoin 8 = .ok (.istore_n 3, 1) := by decide +kernel
theorem dX5_mayJoin_9 : decode cX5_mayJoin 9 = .ok (.iload_n 3, 1) := by decide +kernel
theorem dX5_mayJoin_10 : decode cX5_mayJoin 10 = .ok (.ifCond .eq 20, 3) := by decide +kernel
theorem dX5_mayJoin_13 : decode cX5_mayJoin 13 = .ok (.iload_n 3, 1) := by decide +kernel
theorem dX5_mayJoin_14 : decode cX5_mayJoin 14 = .ok (.iload_n 1, 1) := by decide +kernel
theorem dX5_mayJoin_15 : decode cX5_mayJoin 15 = .ok (.if_icmp .eq 19, 3) := by decide +kernel
theorem dX5_mayJoin_18 : decode cX5_mayJoin 18 = .ok (.aload_n 0, 1) := by decide +kernel
theorem dX5_mayJoin_19 : decode cX5_mayJoin 19 = .ok (.getfield 10, 3) := by decide +kernel
theorem dX5_mayJoin_22 : decode cX5_mayJoin 22 = .ok (.iload_n 1, 1) := by decide +kernel
theorem dX5_mayJoin_23 : decode cX5_mayJoin 23 = .ok (.iconst 1, 1) := by decide +kernel
theorem dX5_mayJoin_24 : decode cX5_mayJoin 24 = .ok (.invokevirtual 141, 3) := by decide +kernel
theorem dX5_mayJoin_27 : decode cX5_mayJoin 27 = .ok (.ifCond .ne 7, 3) := by decide +kernel
theorem dX5_mayJoin_30 : decode cX5_mayJoin 30 = .ok (.iconst 1, 1) := by decide +kernel
theorem dX5_mayJoin_31 : decode cX5_mayJoin 31 = .ok (.goto 4, 3) := by decide +kernel
theorem dX5_mayJoin_34 : decode cX5_mayJoin 34 = .ok (.iconst 0, 1) := by decide +kernel
theorem dX5_mayJoin_35 : decode cX5_mayJoin 35 = .ok (.ireturn, 1) := by decide +kernel
theorem dX5_importFittingRow_0 : decode cX5_importFittingRow 0 = .ok (.aload_n 0, 1) := by decide +kernel
theorem dX5_importFittingRow_1 : decode cX5_importFittingRow 1 = .ok (.invokevirtual 182, 3) := by decide +kernel
theorem dX5_importFittingRow_4 : decode cX5_importFittingRow 4 = .ok (.istore_n 1, 1) := by decide +kernel
theorem dX5_importFittingRow_5 : decode cX5_importFittingRow 5 = .ok (.iload_n 1, 1) := by decide +kernel
theorem dX5_importFittingRow_6 : decode cX5_importFittingRow 6 = .ok (.ifCond .eq 6, 3) := by decide +kernel
theorem dX5_importFittingRow_9 : decode cX5_importFittingRow 9 = .ok (.iload_n 1, 1) := by decide +kernel
theorem dX5_importFittingRow_10 : decode cX5_importFittingRow 10 = .ok (.ineg, 1) := by decide +kernel
theorem dX5_importFittingRow_11 : decode cX5_importFittingRow 11 = .ok (.ireturn, 1) := by decide +kernel
theorem dX5_importFittingRow_12 : decode cX5_importFittingRow 12 = .ok (.aload_n 0, 1) := by decide +kernel
theorem dX5_importFittingRow_13 : decode cX5_importFittingRow 13 = .ok (.getfield 10, 3) := by decide +kernel
theorem dX5_importFittingRow_16 : decode cX5_importFittingRow 16 = .ok (.aload_n 0, 1) := by decide +kernel
theorem dX5_importFittingRow_17 : decode cX5_importFittingRow 17 = .ok (.getfield 40, 3) := by decide +kernel
theorem dX5_importFittingRow_20 : decode cX5_importFittingRow 20 = .ok (.invokevirtual 185, 3) := by decide +kernel
theorem dX5_importFittingRow_23 : decode cX5_importFittingRow 23 = .ok (.iconst 0, 1) := by decide +kernel
theorem dX5_importFittingRow_24 : decode cX5_importFittingRow 24 = .ok (.invokevirtual 52, 3) := by decide +kernel
theorem dX5_importFittingRow_27 : decode cX5_importFittingRow 27 = .ok (.istore_n 2, 1) := by decide +kernel
theorem dX5_importFittingRow_28 : decode cX5_importFittingRow 28 = .ok (.iload_n 2, 1) := by decide +kernel
theorem dX5_importFittingRow_29 : decode cX5_importFittingRow 29 = .ok (.ifCond .eq 15, 3) := by decide +kernel
theorem dX5_importFittingRow_32 : decode cX5_importFittingRow 32 = .ok (.aload_n 0, 1) := by decide +kernel
theorem dX5_importFittingRow_33 : decode cX5_importFittingRow 33 = .ok (.getfield 19, 3) := by decide +kernel
theorem dX5_importFittingRow_36 : decode cX5_importFittingRow 36 = .ok (.iload_n 2, 1) := by decide +kernel
theorem dX5_importFittingRow_37 : decode cX5_importFittingRow 37 = .ok (.aload_n 0, 1) := by decide +kernel
theorem dX5_importFittingRow_38 : decode cX5_importFittingRow 38 = .ok (.getfield 40, 3) := by decide +kernel
theorem dX5_importFittingRow_41 : decode cX5_importFittingRow 41 = .ok (.invokevirtual 188, 3) := by decide +kernel
theorem dX5_importFittingRow_44 : decode cX5_importFittingRow 44 = .ok (.iload_n 2, 1) := by decide +kernel
theorem dX5_importFittingRow_45 : decode cX5_importFittingRow 45 = .ok (.ireturn, 1) := by decide +kernel
theorem dX5_firstNamed_0 : decode cX5_firstNamed 0 = .ok (.iconst 1, 1) := by decide +kernel
theorem dX5_firstNamed_1 : decode cX5_firstNamed 1 = .ok (.istore_n 1, 1) := by decide +kernel
theorem dX5_firstNamed_2 : decode cX5_firstNamed 2 = .ok (.iload_n 1, 1) := by decide +kernel
theorem dX5_firstNamed_3 : decode cX5_firstNamed 3 = .ok (.aload_n 0, 1) := by decide +kernel
theorem dX5_firstNamed_4 : decode cX5_firstNamed 4 = .ok (.getfield 10, 3) := by decide +kernel
theorem dX5_firstNamed_7 : decode cX5_firstNamed 7 = .ok (.invokevirtual 192, 3) := by decide +kernel
theorem dX5_firstNamed_10 : decode cX5_firstNamed 10 = .ok (.if_icmp .gt 37, 3) := by decide +kernel
theorem dX5_firstNamed_13 : decode cX5_firstNamed 13 = .ok (.aload_n 0, 1) := by decide +kernel
theorem dX5_firstNamed_14 : decode cX5_firstNamed 14 = .ok (.getfield 10, 3) := by decide +kernel
theorem dX5_firstNamed_17 : decode cX5_firstNamed 17 = .ok (.iload_n 1, 1) := by decide +kernel
theorem dX5_firstNamed_18 : decode cX5_firstNamed 18 = .ok (.invokevirtual 193, 3) := by decide +kernel
theorem dX5_firstNamed_21 : decode cX5_firstNamed 21 = .ok (.ifCond .ne 20, 3) := by decide +kernel
theorem dX5_firstNamed_24 : decode cX5_firstNamed 24 = .ok (.aload_n 0, 1) := by decide +kernel
theorem dX5_firstNamed_25 : decode cX5_firstNamed 25 = .ok (.getfield 19, 3) := by decide +kernel
theorem dX5_firstNamed_28 : decode cX5_firstNamed 28 = .ok (.iload_n 1, 1) := by decide +kernel
theorem dX5_firstNamed_29 : decode cX5_firstNamed 29 = .ok (.aload_n 0, 1) := by decide +kernel
theorem dX5_firstNamed_30 : decode cX5_firstNamed 30 = .ok (.getfield 40, 3) := by decide +kernel
theorem dX5_firstNamed_33 : decode cX5_firstNamed 33 = .ok (.invokevirtual 196, 3) := by decide +kernel
theorem dX5_firstNamed_36 : decode cX5_firstNamed 36 = .ok (.ifCond .eq 5, 3) := by decide +kernel
theorem dX5_firstNamed_39 : decode cX5_firstNamed 39 = .ok (.iload_n 1, 1) := by decide +kernel
theorem dX5_firstNamed_40 : decode cX5_firstNamed 40 = .ok (.ireturn, 1) := by decide +kernel
theorem dX5_firstNamed_41 : decode cX5_firstNamed 41 = .ok (.iinc 1 1, 3) := by decide +kernel
theorem dX5_firstNamed_44 : decode cX5_firstNamed 44 = .ok (.goto (-42), 3) := by decide +kernel
theorem dX5_firstNamed_47 : decode cX5_firstNamed 47 = .ok (.iconst 0, 1) := by decide +kernel
theorem dX5_firstNamed_48 : decode cX5_firstNamed 48 = .ok (.ireturn, 1) := by decide +kernel
theorem dX5_nearestNamed_0 : decode cX5_nearestNamed 0 = .ok (.iconst 0, 1) := by decide +kernel
theorem dX5_nearestNamed_1 : decode cX5_nearestNamed 1 = .ok (.istore_n 1, 1) := by decide +kernel
theorem dX5_nearestNamed_2 : decode cX5_nearestNamed 2 = .ok (.iconst 4, 1) := by decide +kernel
theorem dX5_nearestNamed_3 : decode cX5_nearestNamed 3 = .ok (.istore_n 2, 1) := by decide +kernel
theorem dX5_nearestNamed_4 : decode cX5_nearestNamed 4 = .ok (.iconst 1, 1) := by decide +kernel
theorem dX5_nearestNamed_5 : decode cX5_nearestNamed 5 = .ok (.istore_n 3, 1) := by decide +kernel
theorem dX5_nearestNamed_6 : decode cX5_nearestNamed 6 = .ok (.iload_n 3, 1) := by decide +kernel
theorem dX5_nearestNamed_7 : decode cX5_nearestNamed 7 = .ok (.aload_n 0, 1) := by decide +kernel
theorem dX5_nearestNamed_8 : decode cX5_nearestNamed 8 = .ok (.getfield 10, 3) := by decide +kernel
theorem dX5_nearestNamed_11 : decode cX5_nearestNamed 11 = .ok (.invokevirtual 192, 3) := by decide +kernel
theorem dX5_nearestNamed_14 : decode cX5_nearestNamed 14 = .ok (.if_icmp .gt 56, 3) := by decide +kernel
theorem dX5_nearestNamed_17 : decode cX5_nearestNamed 17 = .ok (.aload_n 0, 1) := by decide +kernel
theorem dX5_nearestNamed_18 : decode cX5_nearestNamed 18 = .ok (.getfield 10, 3) := by decide +kernel
theorem dX5_nearestNamed_21 : decode cX5_nearestNamed 21 = .ok (.iload_n 3, 1) := by decide +kernel
theorem dX5_nearestNamed_22 : decode cX5_nearestNamed 22 = .ok (.invokevirtual 193, 3) := by decide +kernel
theorem dX5_nearestNamed_25 : decode cX5_nearestNamed 25 = .ok (.ifCond .ne 39, 3) := by decide +kernel
theorem dX5_nearestNamed_28 : decode cX5_nearestNamed 28 = .ok (.aload_n 0, 1) := by decide +kernel
theorem dX5_nearestNamed_29 : decode cX5_nearestNamed 29 = .ok (.getfield 19, 3) := by decide +kernel
theorem dX5_nearestNamed_32 : decode cX5_nearestNamed 32 = .ok (.iload_n 3, 1) := by decide +kernel
theorem dX5_nearestNamed_33 : decode cX5_nearestNamed 33 = .ok (.invokevirtual 200, 3) := by decide +kernel
theorem dX5_nearestNamed_36 : decode cX5_nearestNamed 36 = .ok (.ifCond .eq 28, 3) := by decide +kernel
theorem dX5_nearestNamed_39 : decode cX5_nearestNamed 39 = .ok (.aload_n 0, 1) := by decide +kernel
theorem dX5_nearestNamed_40 : decode cX5_nearestNamed 40 = .ok (.getfield 19, 3) := by decide +kernel
theorem dX5_nearestNamed_43 : decode cX5_nearestNamed 43 = .ok (.iload_n 3, 1) := by decide +kernel
theorem dX5_nearestNamed_44 : decode cX5_nearestNamed 44 = .ok (.aload_n 0, 1) := by decide +kernel
theorem dX5_nearestNamed_45 : decode cX5_nearestNamed 45 = .ok (.getfield 40, 3) := by decide +kernel
theorem dX5_nearestNamed_48 : decode cX5_nearestNamed 48 = .ok (.invokevirtual 203, 3) := by decide +kernel
theorem dX5_nearestNamed_51 : decode cX5_nearestNamed 51 = .ok (.istore 4, 2) := by decide +kernel
theorem dX5_nearestNamed_53 : decode cX5_nearestNamed 53 = .ok (.iload 4, 2) := by decide +kernel
theorem dX5_nearestNamed_55 : decode cX5_nearestNamed 55 = .ok (.iload_n 2, 1) := by decide +kernel
theorem dX5_nearestNamed_56 : decode cX5_nearestNamed 56 = .ok (.if_icmp .ge 8, 3) := by decide +kernel
theorem dX5_nearestNamed_59 : decode cX5_nearestNamed 59 = .ok (.iload 4, 2) := by decide +kernel
theorem dX5_nearestNamed_61 : decode cX5_nearestNamed 61 = .ok (.istore_n 2, 1) := by decide +kernel
theorem dX5_nearestNamed_62 : decode cX5_nearestNamed 62 = .ok (.iload_n 3, 1) := by decide +kernel
theorem dX5_nearestNamed_63 : decode cX5_nearestNamed 63 = .ok (.istore_n 1, 1) := by decide +kernel
theorem dX5_nearestNamed_64 : decode cX5_nearestNamed 64 = .ok (.iinc 3 1, 3) := by decide +kernel
theorem dX5_nearestNamed_67 : decode cX5_nearestNamed 67 = .ok (.goto (-61), 3) := by decide +kernel
theorem dX5_nearestNamed_70 : decode cX5_nearestNamed 70 = .ok (.iload_n 1, 1) := by decide +kernel
theorem dX5_nearestNamed_71 : decode cX5_nearestNamed 71 = .ok (.ireturn, 1) := by decide +kernel
end
section
/-- the class's cells -/
def clW (g : Nat → ClassId) (a : Nat → Nat) (S : St) : va_W := [(a 0, .inr (5, [.ref (a 1), .ref (a 2), .ref (a 3), .ref (a 4), .ref (a 5), .ref (a 6)])),
  (a 1, .inr (3, [.int (nI (nv S 0)), .ref (a 7), .ref (a 8), .ref (a 9), .ref (a 10), .ref (a 11)])),
  (a 2, .inr (2, [.ref (a 12), .ref (a 13), .ref (a 14), .ref (a 15)])),
  (a 3, .inr (0, [.int (nI (nv S 1)), .ref (a 16), .ref (a 17), .ref (a 18)])),
  (a 4, .inr (1, [.int (nI (nv S 2)), .ref (a 19), .ref (a 20), .ref (a 21), .ref (a 22), .ref (a 23), .ref (a 24), .ref (a 25)])),
  (a 5, .inr (4, [.int (nI (nv S 3)), .int (nI (nv S 4)), .int (nI (nv S 5)), .int (nI (nv S 6)), .ref (a 26)])),
  (a 6, .inl (g 6, 5, .inl (fun j => nI (av S 15 j)))),
  (a 7, .inl (g 7, 61, .inl (fun j => nI (av S 0 j)))),
  (a 8, .inl (g 8, 61, .inl (fun j => nI (av S 1 j)))),
  (a 9, .inl (g 9, 61, .inl (fun j => nI (av S 2 j)))),
  (a 10, .inl (g 10, 61, .inl (fun j => nI (av S 3 j)))),
  (a 11, .inl (g 11, 366, .inr (.inl (fun j => yv S 0 j)))),
  (a 12, .inl (g 12, 732, .inl (fun j => nI (av S 4 j)))),
  (a 13, .inl (g 13, 61, .inl (fun j => nI (av S 5 j)))),
  (a 14, .inl (g 14, 61, .inl (fun j => nI (av S 6 j)))),
  (a 15, .inl (g 15, 13, .inl (fun j => nI (av S 7 j)))),
  (a 16, .inl (g 16, 300, .inl (fun j => xv S 0 j))),
  (a 17, .inl (g 17, 300, .inl (fun j => nI (av S 8 j)))),
  (a 18, .inl (g 18, 300, .inl (fun j => nI (av S 9 j)))),
  (a 19, .inl (g 19, 200, .inl (fun j => nI (av S 10 j)))),
  (a 20, .inl (g 20, 200, .inl (fun j => nI (av S 11 j)))),
  (a 21, .inl (g 21, 200, .inl (fun j => xv S 1 j))),
  (a 22, .inl (g 22, 200, .inr (.inl (fun j => yv S 1 j)))),
  (a 23, .inl (g 23, 200, .inr (.inl (fun j => yv S 2 j)))),
  (a 24, .inl (g 24, 200, .inl (fun j => nI (av S 12 j)))),
  (a 25, .inl (g 25, 200, .inl (fun j => nI (av S 13 j)))),
  (a 26, .inl (g 26, 40, .inl (fun j => nI (av S 14 j))))]
def clT (g : Nat → ClassId) : List (ClassId × FieldType) := [(g 6, .int), (g 7, .int), (g 8, .int), (g 9, .int), (g 10, .boolean), (g 11, .long), (g 12, .char), (g 13, .int), (g 14, .int), (g 15, .int), (g 16, .int), (g 17, .int), (g 18, .boolean), (g 19, .int), (g 20, .int), (g 21, .int), (g 22, .long), (g 23, .long), (g 24, .boolean), (g 25, .int), (g 26, .int)]
def cA (a : Nat → Nat) : Nat → Prop := fun q => ∃ k, k < 27 ∧ q = a k
/-! the class's side: bounds, and what each of its methods answers and does -/
def cn : Nat → Nat := fun k => match k with
  | 0 => 60
  | 1 => 300
  | 2 => 200
  | 3 => 40
  | 4 => 12
  | 5 => 4
  | 6 => 99999
  | _ => 0
def cv : Nat → Nat := fun k => match k with
  | 0 => 60
  | 1 => 4
  | 2 => 60
  | 3 => 1
  | 4 => 255
  | 5 => 12
  | 6 => 99999
  | 7 => 24
  | 8 => 60
  | 9 => 1
  | 10 => 60
  | 11 => 4
  | 12 => 1
  | 13 => 199
  | 14 => 255
  | 15 => 100000
  | _ => 0
abbrev cbd (S : St) : Prop := bdG cn cv S
theorem r_ix {x : Int32} {n N : Nat} (h1 : ¬ x < nI 1) (h2 : ¬ nI n < x) (hn : n < N) (hN : N < 2 ^ 31) : vp_in x N := by
  rw [Int32.lt_iff_toInt_lt, nI_toInt (by decide)] at h1
  rw [Int32.lt_iff_toInt_lt, nI_toInt (by omega)] at h2
  exact vp_in_iff.mpr ⟨by omega, by omega⟩
theorem r_kind {x : Int32} {n : Nat} (hn : n < 2 ^ 31) (h1 : ¬ x < 0) (h2 : ¬ nI n ≤ x) : ∃ k, k < n ∧ x = nI k := by
  obtain ⟨j, hj, rfl⟩ := nI_of h1
  exact ⟨j, Nat.lt_of_not_le (fun q => h2 ((nI_leI hn hj).mpr q)), rfl⟩
/-- how many below n -/
def ct (P : Nat → Prop) [DecidablePred P] : Nat → Nat
  | 0 => 0
  | n + 1 => ct P n + (if P n then 1 else 0)
theorem ct_1 {P : Nat → Prop} [DecidablePred P] {n : Nat} (h : P n) : ct P (n + 1) = ct P n + 1 := by simp [ct, h]
theorem ct_0 {P : Nat → Prop} [DecidablePred P] {n : Nat} (h : ¬ P n) : ct P (n + 1) = ct P n := by simp [ct, h]
theorem ct_le (P : Nat → Prop) [DecidablePred P] (n : Nat) : ct P n ≤ n := by
  induction n with
  | zero => exact Nat.le_refl _
  | succ n ih => simp only [ct]; split <;> omega
-- Readers
def fd (S : St) (x : Int32) : Nat := if x < nI 1 then 0 else if nI (nv S 0) < x then 0 else av S 0 x.toNatClampNeg
theorem fd_le {S : St} (hB : cbd S) (x : Int32) : fd S x ≤ 60 := by
  unfold fd; split
  · omega
  · split
    · omega
    · exact hB.2 0 _
def raV (S : St) : Nat := if nv S 0 < 60 then nv S 0 + 1 else 0
def raS (S : St) (k g : Nat) : St := if nv S 0 < 60 then sa (sa (sa (sn S 0 (nv S 0 + 1)) 0 (nv S 0 + 1) (nv S 0 + 1)) 1 (nv S 0 + 1) k) 2 (nv S 0 + 1) g else S
theorem raV_le (S : St) : raV S ≤ 60 := by
  unfold raV; split <;> omega
theorem raS_nv (S : St) (k g : Nat) {i : Nat} (h : ¬ i = 0) : nv (raS S k g) i = nv S i := by
  unfold raS; split
  · show nv (sn S 0 (nv S 0 + 1)) i = nv S i
    rw [nv_sn, if_neg h]
  · rfl
abbrev hbk (S : St) (r so : Nat) (d : Int64) : Prop := ¬ yv S 0 (r * 6 + so) = -1 ∧ ¬ yv S 0 (r * 6 + so) < d
def wdF (S : St) (g : Nat) (i : Int32) : Nat → Nat → Nat → Nat
  | 0, _, _ => 0
  | f + 1, n, z => if nv S 0 < n then 0 else if av S 2 n = g then (if nI (z + 1) = i then n else wdF S g i f (n + 1) (z + 1)) else wdF S g i f (n + 1) z
def wd (S : St) (g : Nat) (i : Int32) : Nat := wdF S g i (nv S 0 + 1) 1 0
theorem wdF_le {S : St} (hB : cbd S) (g : Nat) (i : Int32) : ∀ f n z, wdF S g i f n z ≤ 60
  | 0, _, _ => by simp [wdF]
  | f + 1, n, z => by
    have := hB.1 0
    have h0 : nv S 0 ≤ 60 := this
    have i1 := wdF_le hB g i f (n + 1) (z + 1)
    have i2 := wdF_le hB g i f (n + 1) z
    simp only [wdF]
    repeat' split
    all_goals omega
theorem wd_le {S : St} (hB : cbd S) (g : Nat) (i : Int32) : wd S g i ≤ 60 := wdF_le hB g i _ _ _
def mgf (f t n : Nat) (S : St) : St := if av S 0 n = f then (if av S 2 n = f then sa (sa S 0 n t) 2 n t else sa S 0 n t) else (if av S 2 n = f then sa S 2 n t else S)
def mgF (f t : Nat) : Nat → Nat → St → St
  | 0, _, S => S
  | k + 1, n, S => if nv S 0 < n then S else mgF f t k (n + 1) (mgf f t n S)
def bmF (f t : Nat) : Nat → Nat → St → St
  | 0, _, S => S
  | k + 1, so, S => if 6 ≤ so then S else bmF f t k (so + 1) (sy S 0 (t * 6 + so) (if yv S 0 (f * 6 + so) < yv S 0 (t * 6 + so) then yv S 0 (t * 6 + so) else yv S 0 (f * 6 + so)))
def mgT (S : St) (f t : Nat) : St := mgF f t (nv S 0 + 1) 1 (sa S 2 f 0)
def mgS (S : St) (f t : Nat) : St := bmF f t 7 0 (mgT S f t)
-- Row
def sg (S : St) (k : Nat) : Int32 := if nv S 3 ≤ k then -1 else nI (av S 14 k)
theorem sg_in {S : St} {k : Nat} (h : k < nv S 3) : sg S k = nI (av S 14 k) := by unfold sg; rw [if_neg (by omega)]
abbrev am (S : St) (k lo hi : Nat) : Prop := ¬ sg S k < nI lo ∧ ¬ nI hi < sg S k
theorem am_in {S : St} {k lo hi : Nat} (hB : cbd S) (hl : lo < 256) (hh : hi < 256) (h : am S k lo hi) : k < nv S 3 ∧ lo ≤ av S 14 k ∧ av S 14 k ≤ hi := by
  have hv : av S 14 k ≤ 255 := hB.2 14 k
  obtain ⟨h1, h2⟩ := h
  by_cases q : nv S 3 ≤ k
  · unfold sg at h1
    rw [if_pos q, Int32.lt_iff_toInt_lt, nI_toInt (by omega)] at h1
    exact absurd (show (-1 : Int32).toInt < lo by have : (-1 : Int32).toInt = -1 := by decide
                                                  omega) h1
  · rw [sg_in (by omega)] at h1 h2
    rw [nI_ltI (by omega) (by omega)] at h1 h2
    omega
def rcS (S : St) (ch : Nat) : St := if 40 ≤ nv S 3 then S else sn (sa S 14 (nv S 3) ch) 3 (nv S 3 + 1)
def rnF (S : St) : Nat → Nat → Nat
  | 0, pl => pl
  | f + 1, pl => if 12 ≤ pl then pl else if am S pl 97 122 then rnF S f (pl + 1) else pl
def rn (S : St) : Nat := rnF S 13 0
theorem rnF_le (S : St) : ∀ f pl, pl ≤ 12 → rnF S f pl ≤ 12
  | 0, pl, h => by simpa [rnF] using h
  | f + 1, pl, h => by
    simp only [rnF]
    split
    · exact h
    · split
      · exact rnF_le S f (pl + 1) (by omega)
      · exact h
theorem rn_le (S : St) : rn S ≤ 12 := rnF_le S 13 0 (by omega)
theorem rnF_len {S : St} (hB : cbd S) : ∀ f pl, pl ≤ nv S 3 → rnF S f pl ≤ nv S 3
  | 0, pl, h => by simpa [rnF] using h
  | f + 1, pl, h => by
    simp only [rnF]
    split
    · exact h
    · split
      · rename_i q
        have := am_in hB (by decide) (by decide) q
        exact rnF_len hB f (pl + 1) (by omega)
      · exact h
theorem rn_len {S : St} (hB : cbd S) : rn S ≤ nv S 3 := rnF_len hB 13 0 (Nat.zero_le _)
def ryF (st : Nat) : Nat → Nat → St → Nat × St
  | 0, pl, S => (pl, S)
  | f + 1, pl, S => if st + 5 ≤ pl then (pl, S) else if am S pl 48 57 then ryF st f (pl + 1) (sn S 6 (nv S 6 * 10 + av S 14 pl - 48)) else (pl, S)
def ryP (S : St) (st : Nat) : Nat × St := ryF st 6 st (sn S 6 0)
def ryV (S : St) (st : Nat) : Int32 := if (ryP S st).1 = st then nI (ryP S st).1 else if nv (ryP S st).2 3 ≤ (ryP S st).1 then -1 else nI (ryP S st).1
def rdP (S : St) : Int32 × St :=
  if rn S = 0 then (nI (rn S), sn S 4 (rn S)) else if sg (sn S 4 (rn S)) (rn S) = nI 32 then
    (if am (sn S 4 (rn S)) (rn S + 1) 48 52 then
      (if sg (sn (sn S 4 (rn S)) 5 (av S 14 (rn S + 1) - 48)) (rn S + 1 + 1) = nI 32 then (ryV (sn (sn S 4 (rn S)) 5 (av S 14 (rn S + 1) - 48)) (rn S + 1 + 1 + 1), (ryP (sn (sn S 4 (rn S)) 5 (av S 14 (rn S + 1) - 48)) (rn S + 1 + 1 + 1)).2)
        else (nI (rn S + 1 + 1), sn (sn S 4 (rn S)) 5 (av S 14 (rn S + 1) - 48)))
      else (nI (rn S + 1), sn S 4 (rn S)))
    else (nI (rn S), sn S 4 (rn S))
theorem ryF_nv (st : Nat) : ∀ f pl S {i : Nat}, ¬ i = 6 → nv (ryF st f pl S).2 i = nv S i
  | 0, pl, S, i, h => rfl
  | f + 1, pl, S, i, h => by
    simp only [ryF]; split
    · rfl
    · split
      · rw [ryF_nv st f (pl + 1) _ h, nv_sn, if_neg h]
      · rfl
theorem ryP_nv (S : St) (st : Nat) {i : Nat} (h : ¬ i = 6) : nv (ryP S st).2 i = nv S i := by
  unfold ryP; rw [ryF_nv st _ _ _ h, nv_sn, if_neg h]
theorem rdP_nv3 (S : St) : nv (rdP S).2 3 = nv S 3 := by
  unfold rdP
  repeat' split
  all_goals first | rfl | (dsimp only; rw [ryP_nv _ _ (by decide)]; rfl)
theorem rdP_nv4 (S : St) : nv (rdP S).2 4 = rn S := by
  unfold rdP
  repeat' split
  all_goals first | rfl | (dsimp only; rw [ryP_nv _ _ (by decide)]; rfl)
theorem rdP_len {S : St} (hB : cbd S) : nv (rdP S).2 4 ≤ nv (rdP S).2 3 := by
  rw [rdP_nv3, rdP_nv4]; exact rn_len hB
-- Names
def ptF (r w : Nat) : Nat → Nat → St → St
  | 0, _, S => S
  | f + 1, pl, S => if w ≤ pl then S else ptF r w f (pl + 1) (sa S 4 (r * 12 + pl) (av S 14 pl))
theorem ptF_nv (r w : Nat) : ∀ f pl S i, nv (ptF r w f pl S) i = nv S i
  | 0, pl, S, i => rfl
  | f + 1, pl, S, i => by
    simp only [ptF]
    split
    · rfl
    · exact ptF_nv r w f (pl + 1) _ i
def ptT (S : St) (r : Nat) : St := ptF r (nv S 4) 13 0 S
def ptS (S : St) (r : Nat) : St := sa (sa (ptT S r) 5 r (nv S 4)) 6 r (nv S 6)
def smF (S : St) (r : Nat) : Nat → Nat → Nat
  | 0, _ => 1
  | f + 1, pl => if nv S 4 ≤ pl then 1 else if nI (av S 4 (r * 12 + pl)) = sg S pl then smF S r f (pl + 1) else 0
def sm (S : St) (r : Nat) : Nat := if av S 5 r = nv S 4 then (if av S 6 r = nv S 6 then smF S r 13 0 else 0) else 0
theorem smF_le (S : St) (r : Nat) : ∀ f pl, smF S r f pl ≤ 1
  | 0, pl => by simp [smF]
  | f + 1, pl => by
    simp only [smF]
    have := smF_le S r f (pl + 1)
    repeat' split
    all_goals omega
theorem sm_le (S : St) (r : Nat) : sm S r ≤ 1 := by
  have := smF_le S r 13 0
  unfold sm; repeat' split
  all_goals omega
def d0F (w : Nat) : Nat → Nat → St → St
  | 0, _, S => S
  | f + 1, cw, S => if w < cw then S else d0F w f (cw + 1) (sa S 7 cw cw)
def dif (lt : Nat) (S : St) (cw ak : Nat) : Nat := if nI lt = sg S (cw - 1) then ak else ak + 1
def diF (w lt : Nat) : Nat → Nat → Nat → St → St
  | 0, _, _, S => S
  | f + 1, cw, ak, S => if w < cw then S else diF w lt f (cw + 1) (av S 7 cw) (sa S 7 cw (min (dif lt S cw ak) (min (av S 7 cw) (av S 7 (cw - 1)) + 1)))
def diT (w lt ln : Nat) (S : St) : St := diF w lt 13 1 (av S 7 0) (sa S 7 0 ln)
def d0T (S : St) : St := d0F (nv S 4) 14 0 S
def doF (r w : Nat) : Nat → Nat → St → St
  | 0, _, S => S
  | f + 1, ln, S => if av S 5 r < ln then S else doF r w f (ln + 1) (diT w (av S 4 (r * 12 + (ln - 1))) ln S)
def dsS (S : St) (r : Nat) : St := doF r (nv S 4) 13 1 (d0T S)
theorem d0F_nv (w : Nat) : ∀ f c S i, nv (d0F w f c S) i = nv S i
  | 0, c, S, i => rfl
  | f + 1, c, S, i => by
    simp only [d0F]; split
    · rfl
    · exact d0F_nv w f (c + 1) _ i
theorem diF_nv (w lt : Nat) : ∀ f c k S i, nv (diF w lt f c k S) i = nv S i
  | 0, c, k, S, i => rfl
  | f + 1, c, k, S, i => by
    simp only [diF]; split
    · rfl
    · exact diF_nv w lt f (c + 1) _ _ i
theorem doF_nv (r w : Nat) : ∀ f n S i, nv (doF r w f n S) i = nv S i
  | 0, n, S, i => rfl
  | f + 1, n, S, i => by
    simp only [doF]; split
    · rfl
    · exact (doF_nv r w f (n + 1) _ i).trans (diF_nv _ _ _ _ _ _ i)
theorem dsS_nv (S : St) (r i : Nat) : nv (dsS S r) i = nv S i := (doF_nv _ _ _ _ _ i).trans (d0F_nv _ _ _ _ i)
def dsV (S : St) (r : Nat) : Nat := av (dsS S r) 7 (nv S 4)
-- Cards
def poF (S : St) (ch : Int32) : Nat → Nat → Nat
  | 0, _ => nv S 1
  | f + 1, pl => if nv S 1 ≤ pl then nv S 1 else if xv S 0 pl = ch then pl else poF S ch f (pl + 1)
def po (S : St) (ch : Int32) : Nat := poF S ch (nv S 1 + 1) 0
def poR (S : St) (ch : Int32) : Int32 := if po S ch < nv S 1 then nI (po S ch) else -1
theorem nI_m1 {n : Nat} (h : n < 2 ^ 31) : ¬ nI n = -1 := fun q => by
  have z := nI_toInt h
  rw [q] at z
  have : (-1 : Int32).toInt = -1 := by decide
  omega
theorem poR_in {S : St} {ch : Int32} (h : ¬ poR S ch = -1) : po S ch < nv S 1 ∧ poR S ch = nI (po S ch) := by
  unfold poR at h ⊢
  by_cases q : po S ch < nv S 1
  · exact ⟨q, if_pos q⟩
  · rw [if_neg q] at h; exact absurd rfl h
theorem poR_out {S : St} (hB : cbd S) {ch : Int32} (h : poR S ch = -1) : ¬ po S ch < nv S 1 := fun q => by
  have : nv S 1 ≤ 300 := hB.1 1
  unfold poR at h
  rw [if_pos q] at h
  exact nI_m1 (by omega) h
def hg (S : St) (ch : Int32) : Nat := if po S ch < nv S 1 then (if av S 9 (po S ch) = 0 then av S 8 (po S ch) else 0) else 0
theorem hg_le {S : St} (hB : cbd S) (ch : Int32) : hg S ch ≤ 60 := by
  have := hB.2 8 (po S ch)
  have h0 : av S 8 (po S ch) ≤ 60 := this
  unfold hg; repeat' split
  all_goals omega
def loS (S : St) (ch : Int32) : St := if po S ch < nv S 1 then sa S 9 (po S ch) 1 else S
def caS (S : St) (r : Nat) (ch : Int32) : St := if 300 ≤ nv S 1 then S else sn (sa (sx S 0 (nv S 1) ch) 8 (nv S 1) r) 1 (nv S 1 + 1)
def co (S : St) (r : Nat) : Nat := ct (fun j => av S 8 j = r) (nv S 1)
def mv8 (f t : Nat) (n : Nat) (S : St) : St := if av S 8 n = f then sa S 8 n t else S
def mcF (f t : Nat) : Nat → Nat → St → St
  | 0, _, S => S
  | k + 1, n, S => if nv S 1 ≤ n then S else mcF f t k (n + 1) (mv8 f t n S)
def mcS (S : St) (f t : Nat) : St := mcF f t (nv S 1 + 1) 0 S
-- Loans
def piF (ln : Nat) : Nat → Nat → St → St
  | 0, _, S => S
  | f + 1, pl, S => if pl ≤ 0 then sa S 13 pl ln else if yv S 2 (av S 13 (pl - 1)) ≤ yv S 2 ln then sa S 13 pl ln else piF ln f (pl - 1) (sa S 13 pl (av S 13 (pl - 1)))
def piS (S : St) (ln : Nat) : St := piF ln (ln + 1) ln S
def lS1 (S : St) (r k : Nat) (it : Int32) (fr to : Int64) : St := sy (sy (sx (sa (sa S 10 (nv S 2) r) 11 (nv S 2) k) 1 (nv S 2) it) 1 (nv S 2) fr) 2 (nv S 2) to
def laV (S : St) : Nat := if nv S 2 < 200 then nv S 2 + 1 else 0
def laS (S : St) (r k : Nat) (it : Int32) (fr to : Int64) : St := if nv S 2 < 200 then sn (piS (lS1 S r k it fr to) (nv S 2)) 2 (nv S 2 + 1) else S
theorem piF_nv (ln : Nat) : ∀ f pl S i, nv (piF ln f pl S) i = nv S i
  | 0, pl, S, i => rfl
  | f + 1, pl, S, i => by
    simp only [piF]
    repeat' split
    · rfl
    · rfl
    · exact piF_nv ln f (pl - 1) _ i
theorem piS_nv (S : St) (ln i : Nat) : nv (piS S ln) i = nv S i := piF_nv ln _ _ S i
def cnm (S : St) (r : Nat) : Nat := ct (fun j => av S 10 j = r ∧ av S 12 j = 0) (nv S 2)
def cbg (S : St) (k : Nat) (fr to : Int64) : Nat := ct (fun j => av S 11 j = k ∧ ¬ yv S 1 j < fr ∧ ¬ to < yv S 1 j) (nv S 2)
def mv10 (f t : Nat) (n : Nat) (S : St) : St := if av S 10 n = f then sa S 10 n t else S
def mlF (f t : Nat) : Nat → Nat → St → St
  | 0, _, S => S
  | k + 1, n, S => if nv S 2 ≤ n then S else mlF f t k (n + 1) (mv10 f t n S)
def mlS (S : St) (f t : Nat) : St := mlF f t (nv S 2 + 1) 0 S
-- the class
abbrev ikP (x : Int32) : Prop := ¬ x < 0 ∧ ¬ nI 5 ≤ x
abbrev idP (d : Int64) : Prop := ¬ d < 0 ∧ ¬ 1000000000 < d
def kp (S : St) (j : Nat) (d : Int64) : Nat := if av S 12 j = 0 then (if av S 3 (av S 10 j) = 0 then (if yv S 2 j + lN (av S 15 (av S 1 (av S 10 j))) < d then 0 else 1) else 1) else 0
theorem kp_le (S : St) (j : Nat) (d : Int64) : kp S j d ≤ 1 := by
  unfold kp; repeat' split
  all_goals omega
def auV (S : St) (j : Nat) (d : Int64) : Nat := if av S 12 j = 0 then (if kp S j d = 0 then 1 else 0) else 0
def auS (S : St) (j : Nat) (d : Int64) : St := if av S 12 j = 0 then (if kp S j d = 0 then sa S 12 j 1 else S) else S
theorem auV_le (S : St) (j : Nat) (d : Int64) : auV S j d ≤ 1 := by
  unfold auV; repeat' split
  all_goals omega
theorem auS_nv (S : St) (j : Nat) (d : Int64) (i : Nat) : nv (auS S j d) i = nv S i := by
  unfold auS; repeat' split
  all_goals rfl
def alF (r : Nat) (d : Int64) : Nat → Nat → Nat → St → Nat × St
  | 0, _, z, S => (z, S)
  | f + 1, j, z, S => if nv S 2 ≤ j then (z, S) else if av S 10 j = r then (if auV S j d = 0 then alF r d f (j + 1) z (auS S j d) else alF r d f (j + 1) (z + 1) (auS S j d)) else alF r d f (j + 1) z S
def alP (S : St) (r : Nat) (d : Int64) : Nat × St := alF r d (nv S 2 + 1) 0 0 S
def anF (d : Int64) : Nat → Nat → Nat → St → Nat × St
  | 0, _, z, S => (z, S)
  | f + 1, j, z, S => if nv S 2 ≤ j then (z, S) else if auV S j d = 0 then anF d f (j + 1) z (auS S j d) else anF d f (j + 1) (z + 1) (auS S j d)
def anT (S : St) (d : Int64) : Nat × St := anF d (nv S 2 + 1) 0 0 S
def anP (S : St) (d : Int64) : Int32 × St := if idP d then (nI (anT S d).1, (anT S d).2) else (-1, S)
abbrev mjP (S : St) (f t : Nat) : Prop := av S 2 t = 0 ∨ (¬ av S 2 t = f ∧ wd S f (nI 1) = 0)
def fnF (S : St) : Nat → Nat → Nat
  | 0, _ => 0
  | f + 1, n => if nv S 0 < n then 0 else if ¬ av S 0 n = n then fnF S f (n + 1) else if sm S n = 0 then fnF S f (n + 1) else n
def fnN (S : St) : Nat := fnF S (nv S 0 + 1) 1
theorem fnF_le {S : St} (hB : cbd S) : ∀ f n, fnF S f n ≤ 60
  | 0, n => by simp [fnF]
  | f + 1, n => by
    have h0 : nv S 0 ≤ 60 := hB.1 0
    have i1 := fnF_le hB f (n + 1)
    simp only [fnF]
    repeat' split
    all_goals omega
theorem fnN_le {S : St} (hB : cbd S) : fnN S ≤ 60 := fnF_le hB _ _
def ifV (S : St) : Int32 := if fnN S = 0 then nI (raV S) else -nI (fnN S)
def ifS (S : St) : St := if fnN S = 0 then (if raV S = 0 then raS S (nv S 5) 0 else ptS (raS S (nv S 5) 0) (raV S)) else S
def nnF : Nat → Nat → Nat → Nat → St → Nat × St
  | 0, _, be, _, S => (be, S)
  | f + 1, n, be, le, S => if nv S 0 < n then (be, S) else if ¬ av S 0 n = n then nnF f (n + 1) be le S else if 0 < av S 5 n then (if le ≤ dsV S n then nnF f (n + 1) be le (dsS S n) else nnF f (n + 1) n (dsV S n) (dsS S n)) else nnF f (n + 1) be le S
def nnP (S : St) : Nat × St := nnF (nv S 0 + 1) 1 0 4 S
-- the public methods
def rdrP (S : St) (k g : Int32) : Nat × St := if ikP k then (if g = 0 then (raV S, raS S k.toNatClampNeg 0) else if fd S g = 0 then (0, S) else if av S 2 (fd S g) = 0 then (raV S, raS S k.toNatClampNeg (fd S g)) else (0, S)) else (0, S)
def crdP (S : St) (r ch : Int32) : Int32 × St := if fd S r = 0 then (nI 0, S) else if co S (fd S r) < 5 then (if po S ch < nv S 1 then (-1, S) else (nI (co (caS S (fd S r) ch) (fd S r)), caS S (fd S r) ch)) else (nI 0, S)
def lstP (S : St) (ch ot : Int32) : Int32 × St := if hg S ch = 0 then (nI 0, S) else if po S ot < nv S 1 then (-1, S) else if co S (hg S ch) < 5 then (nI (hg S ch), caS (loS S ch) (hg S ch) ot) else (-2, S)
def blkP (S : St) (r so : Int32) (d : Int64) : Nat × St := if fd S r = 0 then (0, S) else if so < 0 then (0, S) else if nI 6 ≤ so then (0, S) else if idP d then (1, sy S 0 (fd S r * 6 + so.toNatClampNeg) d) else (0, S)
def bkF (S : St) (r g : Nat) (d : Int64) : Nat → Nat → Int32
  | 0, _ => -1
  | f + 1, so => if 6 ≤ so then -1 else if hbk S r so d then nI so else if g = 0 then bkF S r g d f (so + 1) else if hbk S g so d then nI so else bkF S r g d f (so + 1)
def bkV (S : St) (r : Int32) (d : Int64) : Int32 := if fd S r = 0 then -1 else bkF S (fd S r) (av S 2 (fd S r)) d 7 0
def cnsP (S : St) (r : Int32) (y : Nat) (d : Int64) : Int32 × St := if fd S r = 0 then (-1, S) else if idP d then (if av S 3 (fd S r) = 0 then (nI 0, sa S 3 (fd S r) y) else if y = 0 then (nI (alP (sa S 3 (fd S r) y) (fd S r) d).1, (alP (sa S 3 (fd S r) y) (fd S r) d).2) else (nI 0, sa S 3 (fd S r) y)) else (-1, S)
def kpsP (S : St) (k ds : Int32) : Int32 × St := if ikP k then (if ds < 0 then (-1, S) else if ds ≤ 100000 then (nI (av S 15 k.toNatClampNeg), sa S 15 k.toNatClampNeg ds.toNatClampNeg) else (-1, S)) else (-1, S)
def lonP (S : St) (r it : Int32) (fr to : Int64) : Nat × St := if fd S r = 0 then (0, S) else if idP fr then (if idP to then (if fr ≤ to then (laV S, laS S (fd S r) (av S 1 (fd S r)) it fr to) else (0, S)) else (0, S)) else (0, S)
def kepF (S : St) (r : Nat) (i : Int32) (d : Int64) : Nat → Nat → Nat → Int32
  | 0, _, _ => -1000000007
  | f + 1, pl, z => if nv S 2 ≤ pl then -1000000007 else if av S 10 (av S 13 pl) = r then (if kp S (av S 13 pl) d = 0 then kepF S r i d f (pl + 1) z else if nI z = i then xv S 1 (av S 13 pl) else kepF S r i d f (pl + 1) (z + 1)) else kepF S r i d f (pl + 1) z
def kepV (S : St) (r i : Int32) (d : Int64) : Int32 := if fd S r = 0 then -1000000007 else kepF S (fd S r) i d (nv S 2 + 1) 0 0
def jonP (S : St) (r ot : Int32) : Nat × St := if fd S r = 0 then (0, S) else if fd S ot = 0 then (0, S) else if fd S r = fd S ot then (0, S) else if mjP S (fd S r) (fd S ot) then (1, mlS (mcS (mgS S (fd S r) (fd S ot)) (fd S r) (fd S ot)) (fd S r) (fd S ot)) else (0, S)
def hdN (S : St) (r : Nat) : Nat := if av S 2 r = 0 then r else av S 2 r
def famV (S : St) (r i : Int32) : Nat := if fd S r = 0 then 0 else if i = 0 then hdN S (fd S r) else wd S (hdN S (fd S r)) i
def impP (S : St) : Int32 × St := if (rdP S).1 = -1 then (ifV (rdP S).2, sn (ifS (rdP S).2) 3 0) else (-100 - (rdP S).1, sn (rdP S).2 3 0)
def likP (S : St) : Nat × St := if ¬ rn S ≤ 0 ∧ rn S = nv S 3 then ((nnP (sn S 4 (rn S))).1, sn (nnP (sn S 4 (rn S))).2 3 0) else (0, sn (sn S 4 (rn S)) 3 0)
def abtV (S : St) (r w : Int32) : Int32 := if fd S r = 0 then -1 else if w = 0 then nI (av S 1 (fd S r)) else if w = 1 then nI (av S 2 (fd S r)) else if w = 2 then nI (co S (fd S r)) else if w = 3 then nI (if av S 3 (fd S r) = 0 then 0 else 1) else if w = 4 then nI (cnm S (fd S r)) else -1
def staV (S : St) (k : Int32) (fr to : Int64) : Int32 := if ikP k then nI (cbg S k.toNatClampNeg fr to) else -1
end
section
set_option maxRecDepth 100000 in
set_option maxHeartbeats 4000000 in
theorem c_rd_count (l : Launch) (D : va_G) (g : Nat → ClassId) (a : Nat → Nat)  (S : St) (hB : cbd S)  : Met l yX3_count wsX3_count ({ frames := 0, cells := 0, slots := 0, locals := 0 } : Room) (va_Pc [Value.ref (a 1)] (wPre D vwCl (clW g a S) (clT g))) (k2_QcV (Value.int (nI (nv S 0)))) 0 0 (fun _ => False) := by
  refine Met.ofW (cc := cX3_count) (maxL := 1) (ret := (some .int)) (by decide) rfl ?_
  intro p e s m args below meth c s₁ B hml hv
  obtain ⟨rfl, hP, hK⟩ := hv
  have hx := B.exec
  have hb := B.bytes
  have hr := B.returns
  have hts := atoms_spec (ws := wsX3_count) B.pre
  have ht := fun (w : Cond) (h : w ∈ lw_g) => hts w (List.mem_cons_of_mem _ h)
  have hown : s.vm.findClass "ReaderRows$Readers" = some m.cls := findClass_of_methodNamed B.named
  have hlocks := B.notSynchronized
  have hl := lv_entry ([Value.ref (a 1)]) (n := 1) (Nat.le_of_ble_eq_true rfl)
  rw [lg_entry_eq]
  generalize (lg_sl ([Value.ref (a 1)]) ++ List.replicate (1 - (lg_sl ([Value.ref (a 1)])).length) Slot.unset).toArray = ls at hl ⊢
  have hl : lv_has ls 1 [(0, Value.ref (a 1))] := hl
  refine lv_aload_n hx hb dX3_count_0 rfl (lv_at hl 0 rfl) ?_
  refine va_get (D := D) (ci := 3) (v := Value.int (nI (nv S 0))) (C := "ReaderRows$Readers") (T := TX3) (N := 6) hx hb ht inX3 hown hK hP 1 rfl rfl 0 (by decide) (ht _ m_24) (fun _ h9 => h9) rfl dX3_count_1 ?_
  have b_N0 : nv S 0 ≤ 60 := hB.1 0
  have hv9 : (nI (nv S 0)) = (nI (nv S 0)) := by first | (simp only [Nat.add_zero, Nat.add_zero]; done) | (with_reducible rfl) | (simp only [Nat.add_zero, Nat.add_zero]; rfl) | rfl | (simp [Nat.add_zero, Nat.add_zero]; done)
  exact W.iret (v := (nI (nv S 0))) hx hb hr (fun t ht hW => ⟨congrArg (fun z => Outcome.returned (some (Value.int z))) hv9, ht⟩) (fun _ h => by cases h) dX3_count_4

set_option maxRecDepth 100000 in
set_option maxHeartbeats 4000000 in
theorem c_rd_find (l : Launch) (D : va_G) (g : Nat → ClassId) (a : Nat → Nat)  (S : St) (hB : cbd S) (x : Int32) : Met l yX3_find wsX3_find ({ frames := 0, cells := 0, slots := 0, locals := 0 } : Room) (va_Pc [Value.ref (a 1), Value.int x] (wPre D vwCl (clW g a S) (clT g))) (k2_QcV (Value.int (nI (fd S x)))) 0 0 (fun _ => False) := by
  refine Met.ofW (cc := cX3_find) (maxL := 2) (ret := (some .int)) (by decide) rfl ?_
  intro p e s m args below meth c s₁ B hml hv
  obtain ⟨rfl, hP, hK⟩ := hv
  have hx := B.exec
  have hb := B.bytes
  have hr := B.returns
  have hts := atoms_spec (ws := wsX3_find) B.pre
  have ht := fun (w : Cond) (h : w ∈ lw_g) => hts w (List.mem_cons_of_mem _ h)
  have hown : s.vm.findClass "ReaderRows$Readers" = some m.cls := findClass_of_methodNamed B.named
  have hlocks := B.notSynchronized
  have hl := lv_entry ([Value.ref (a 1), Value.int x]) (n := 2) (Nat.le_of_ble_eq_true rfl)
  rw [lg_entry_eq]
  generalize (lg_sl ([Value.ref (a 1), Value.int x]) ++ List.replicate (2 - (lg_sl ([Value.ref (a 1), Value.int x])).length) Slot.unset).toArray = ls at hl ⊢
  have hl : lv_has ls 2 [(0, Value.ref (a 1)), (1, Value.int x)] := hl
  refine lv_iload_n hx hb dX3_find_0 rfl (lv_at hl 1 rfl) ?_
  refine lv_iconst (v := (nI 1)) hx hb dX3_find_1 (by decide) ?_
  refine lv_icmp_lt (tgt := 22) hx hb dX3_find_2 (by decide) (fun c2 => ?_) (fun c2 => ?_)
  · refine lv_iconst (v := (nI 0)) hx hb dX3_find_22 (by decide) ?_
    have hv9 : (nI 0) = (nI (fd S x)) := by first | (simp only [fd, if_pos c2]; done) | (with_reducible rfl) | (simp only [fd, if_pos c2]; rfl) | rfl | (simp [fd, c2]; done)
    exact W.iret (v := (nI 0)) hx hb hr (fun t ht hW => ⟨congrArg (fun z => Outcome.returned (some (Value.int z))) hv9, ht⟩) (fun _ h => by cases h) dX3_find_23
  · refine lv_iload_n hx hb dX3_find_5 rfl (lv_at hl 1 rfl) ?_
    refine lv_aload_n hx hb dX3_find_6 rfl (lv_at hl 0 rfl) ?_
    refine va_get (D := D) (ci := 3) (v := Value.int (nI (nv S 0))) (C := "ReaderRows$Readers") (T := TX3) (N := 6) hx hb ht inX3 hown hK hP 1 rfl rfl 0 (by decide) (ht _ m_24) (fun _ h9 => h9) rfl dX3_find_7 ?_
    have b_N0 : nv S 0 ≤ 60 := hB.1 0
    refine lv_icmp_gt (tgt := 22) hx hb dX3_find_10 (by decide) (fun c10 => ?_) (fun c10 => ?_)
    · refine lv_iconst (v := (nI 0)) hx hb dX3_find_22 (by decide) ?_
      have hv9 : (nI 0) = (nI (fd S x)) := by first | (simp only [fd, if_neg c2, if_pos c10]; done) | (with_reducible rfl) | (simp only [fd, if_neg c2, if_pos c10]; rfl) | rfl | (simp [fd, c2, c10]; done)
      exact W.iret (v := (nI 0)) hx hb hr (fun t ht hW => ⟨congrArg (fun z => Outcome.returned (some (Value.int z))) hv9, ht⟩) (fun _ h => by cases h) dX3_find_23
    · refine lv_aload_n hx hb dX3_find_13 rfl (lv_at hl 0 rfl) ?_
      refine va_get (D := D) (ci := 3) (v := Value.ref (a 7)) (C := "ReaderRows$Readers") (T := TX3) (N := 6) hx hb ht inX3 hown hK hP 1 rfl rfl 1 (by decide) (ht _ m_25) (fun _ h9 => h9) rfl dX3_find_14 ?_
      refine lv_iload_n hx hb dX3_find_17 rfl (lv_at hl 1 rfl) ?_
      refine va_iald hx hb hK hP 7 1 rfl rfl (i := x) (r_ix c2 c10 (show nv S 0 < 61 by omega) (by decide)) dX3_find_18 ?_
      have b_V0_18 : av S 0 x.toNatClampNeg ≤ 60 := hB.2 0 x.toNatClampNeg
      refine lv_goto (tgt := 23) hx hb dX3_find_19 (by decide) ?_
      have hv9 : (nI (av S 0 x.toNatClampNeg)) = (nI (fd S x)) := by first | (simp only [fd, if_neg c2, if_neg c10]; done) | (with_reducible rfl) | (simp only [fd, if_neg c2, if_neg c10]; rfl) | rfl | (simp [fd, c2, c10]; done)
      exact W.iret (v := (nI (av S 0 x.toNatClampNeg))) hx hb hr (fun t ht hW => ⟨congrArg (fun z => Outcome.returned (some (Value.int z))) hv9, ht⟩) (fun _ h => by cases h) dX3_find_23

set_option maxRecDepth 100000 in
set_option maxHeartbeats 4000000 in
theorem c_rd_add (l : Launch) (D : va_G) (g : Nat → ClassId) (a : Nat → Nat) (hD : ∀ S : St, va_D (cA a) (clW g a S))  (S : St) (hB : cbd S) (k g0 : Nat) (hk : k ≤ 4) (hg : g0 ≤ 60) : Met l yX3_add wsX3_add ({ frames := 0, cells := 0, slots := 0, locals := 0 } : Room) (va_Pc [Value.ref (a 1), Value.int (nI k), Value.int (nI g0)] (wPre D vwCl (clW g a S) (clT g))) (wQ (some (Value.int (nI (raV S)))) D vwCl (clW g a (raS S k g0)) (cA a) (cbd (raS S k g0))) 0 0 (cA a) := by
  refine Met.ofW (cc := cX3_add) (maxL := 3) (ret := (some .int)) (by decide) rfl ?_
  intro p e s m args below meth c s₁ B hml hv
  obtain ⟨rfl, hP, hK⟩ := hv
  have hx := B.exec
  have hb := B.bytes
  have hr := B.returns
  have hts := atoms_spec (ws := wsX3_add) B.pre
  have ht := fun (w : Cond) (h : w ∈ lw_g) => hts w (List.mem_cons_of_mem _ h)
  have hown : s.vm.findClass "ReaderRows$Readers" = some m.cls := findClass_of_methodNamed B.named
  have hlocks := B.notSynchronized
  have hS : va_S (cA a) s.heap s.heap [] := va_S.rf
  have hl := lv_entry ([Value.ref (a 1), Value.int (nI k), Value.int (nI g0)]) (n := 3) (Nat.le_of_ble_eq_true rfl)
  rw [lg_entry_eq]
  generalize (lg_sl ([Value.ref (a 1), Value.int (nI k), Value.int (nI g0)]) ++ List.replicate (3 - (lg_sl ([Value.ref (a 1), Value.int (nI k), Value.int (nI g0)])).length) Slot.unset).toArray = ls at hl ⊢
  have hl : lv_has ls 3 [(0, Value.ref (a 1)), (1, Value.int (nI k)), (2, Value.int (nI g0))] := hl
  refine lv_aload_n hx hb dX3_add_0 rfl (lv_at hl 0 rfl) ?_
  refine va_get (D := D) (ci := 3) (v := Value.int (nI (nv S 0))) (C := "ReaderRows$Readers") (T := TX3) (N := 6) hx hb ht inX3 hown hK hP 1 rfl rfl 0 (by decide) (ht _ m_24) (fun _ h9 => h9) rfl dX3_add_1 ?_
  have b_N0 : nv S 0 ≤ 60 := hB.1 0
  refine lv_bipush (v := (nI 60)) hx hb dX3_add_4 (by decide) ?_
  refine r_icmp_lt (tgt := 11) hx hb dX3_add_6 (by decide) (by omega) (by omega) (fun c6 => ?_) (fun c6 => ?_)
  · refine lv_aload_n hx hb dX3_add_11 rfl (lv_at hl 0 rfl) ?_
    refine lv_dup hx hb dX3_add_12 rfl ?_
    refine va_get (D := D) (ci := 3) (v := Value.int (nI (nv S 0))) (C := "ReaderRows$Readers") (T := TX3) (N := 6) hx hb ht inX3 hown hK hP 1 rfl rfl 0 (by decide) (ht _ m_24) (fun _ h9 => h9) rfl dX3_add_13 ?_
    have b_N0 : nv S 0 ≤ 60 := hB.1 0
    refine lv_iconst (v := (nI 1)) hx hb dX3_add_16 (by decide) ?_
    refine r_iadd hx hb dX3_add_17 ?_
    refine va_put (D := D) (ci := 3) (v := Value.int (nI ((nv S 0) + 1))) (ty := .int) (C := "ReaderRows$Readers") (T := TX3) (N := 6) hx hb ht inX3 tyX3 tyX3_ok nmX3 hown hK hP (hD _) hS 1 rfl rfl 0 (by decide) (ht _ m_24) (fun _ h9 => h9) rfl (by decide +kernel) rfl rfl (Nat.le_of_ble_eq_true rfl) dX3_add_18 (fun H locs hP hD1 hS => ?_)
    have hP : va_P D vwCl (clW g a (sn S 0 ((nv S 0) + 1))) H := hP
    clear hD1
    have hB : cbd (sn S 0 ((nv S 0) + 1)) := bd_sn hB (show (nv S 0) + 1 ≤ 60 by first | assumption | omega)
    refine lv_aload_n hx hb dX3_add_21 rfl (lv_at hl 0 rfl) ?_
    refine va_get (D := D) (ci := 3) (v := Value.ref (a 7)) (C := "ReaderRows$Readers") (T := TX3) (N := 6) hx hb ht inX3 hown hK hP 1 rfl rfl 1 (by decide) (ht _ m_25) (fun _ h9 => h9) rfl dX3_add_22 ?_
    refine lv_aload_n hx hb dX3_add_25 rfl (lv_at hl 0 rfl) ?_
    refine va_get (D := D) (ci := 3) (v := Value.int (nI ((nv S 0) + 1))) (C := "ReaderRows$Readers") (T := TX3) (N := 6) hx hb ht inX3 hown hK hP 1 rfl rfl 0 (by decide) (ht _ m_24) (fun _ h9 => h9) rfl dX3_add_26 ?_
    have b_N0 : (nv S 0) + 1 ≤ 60 := hB.1 0
    refine lv_aload_n hx hb dX3_add_29 rfl (lv_at hl 0 rfl) ?_
    refine va_get (D := D) (ci := 3) (v := Value.int (nI ((nv S 0) + 1))) (C := "ReaderRows$Readers") (T := TX3) (N := 6) hx hb ht inX3 hown hK hP 1 rfl rfl 0 (by decide) (ht _ m_24) (fun _ h9 => h9) rfl dX3_add_30 ?_
    have b_N0 : (nv S 0) + 1 ≤ 60 := hB.1 0
    refine r_iast_n (f := av S 0) hx hb hK hP (hD _) hS 7 1 rfl rfl (i := ((nv S 0) + 1)) (x := ((nv S 0) + 1)) (show _ < 61 by omega) (by decide) dX3_add_33 (fun H locs hP hD1 hS => ?_)
    have hP : va_P D vwCl (clW g a (sa (sn S 0 ((nv S 0) + 1)) 0 ((nv S 0) + 1) ((nv S 0) + 1))) H := hP
    clear hD1
    have hB : cbd (sa (sn S 0 ((nv S 0) + 1)) 0 ((nv S 0) + 1) ((nv S 0) + 1)) := bd_sa hB (show (nv S 0) + 1 ≤ 60 by first | assumption | omega)
    refine lv_aload_n hx hb dX3_add_34 rfl (lv_at hl 0 rfl) ?_
    refine va_get (D := D) (ci := 3) (v := Value.ref (a 8)) (C := "ReaderRows$Readers") (T := TX3) (N := 6) hx hb ht inX3 hown hK hP 1 rfl rfl 2 (by decide) (ht _ m_26) (fun _ h9 => h9) rfl dX3_add_35 ?_
    refine lv_aload_n hx hb dX3_add_38 rfl (lv_at hl 0 rfl) ?_
    refine va_get (D := D) (ci := 3) (v := Value.int (nI ((nv S 0) + 1))) (C := "ReaderRows$Readers") (T := TX3) (N := 6) hx hb ht inX3 hown hK hP 1 rfl rfl 0 (by decide) (ht _ m_24) (fun _ h9 => h9) rfl dX3_add_39 ?_
    have b_N0 : (nv S 0) + 1 ≤ 60 := hB.1 0
    refine lv_iload_n hx hb dX3_add_42 rfl (lv_at hl 1 rfl) ?_
    refine r_iast_n (f := av S 1) hx hb hK hP (hD _) hS 8 2 rfl rfl (i := ((nv S 0) + 1)) (x := k) (show _ < 61 by omega) (by decide) dX3_add_43 (fun H locs hP hD1 hS => ?_)
    have hP : va_P D vwCl (clW g a (sa (sa (sn S 0 ((nv S 0) + 1)) 0 ((nv S 0) + 1) ((nv S 0) + 1)) 1 ((nv S 0) + 1) k)) H := hP
    clear hD1
    have hB : cbd (sa (sa (sn S 0 ((nv S 0) + 1)) 0 ((nv S 0) + 1) ((nv S 0) + 1)) 1 ((nv S 0) + 1) k) := bd_sa hB (show k ≤ 4 by first | assumption | omega)
    refine lv_aload_n hx hb dX3_add_44 rfl (lv_at hl 0 rfl) ?_
    refine va_get (D := D) (ci := 3) (v := Value.ref (a 9)) (C := "ReaderRows$Readers") (T := TX3) (N := 6) hx hb ht inX3 hown hK hP 1 rfl rfl 3 (by decide) (ht _ m_27) (fun _ h9 => h9) rfl dX3_add_45 ?_
    refine lv_aload_n hx hb dX3_add_48 rfl (lv_at hl 0 rfl) ?_
    refine va_get (D := D) (ci := 3) (v := Value.int (nI ((nv S 0) + 1))) (C := "ReaderRows$Readers") (T := TX3) (N := 6) hx hb ht inX3 hown hK hP 1 rfl rfl 0 (by decide) (ht _ m_24) (fun _ h9 => h9) rfl dX3_add_49 ?_
    have b_N0 : (nv S 0) + 1 ≤ 60 := hB.1 0
    refine lv_iload_n hx hb dX3_add_52 rfl (lv_at hl 2 rfl) ?_
    refine r_iast_n (f := av S 2) hx hb hK hP (hD _) hS 9 3 rfl rfl (i := ((nv S 0) + 1)) (x := g0) (show _ < 61 by omega) (by decide) dX3_add_53 (fun H locs hP hD1 hS => ?_)
    have hP : va_P D vwCl (clW g a (sa (sa (sa (sn S 0 ((nv S 0) + 1)) 0 ((nv S 0) + 1) ((nv S 0) + 1)) 1 ((nv S 0) + 1) k) 2 ((nv S 0) + 1) g0)) H := hP
    clear hD1
    have hB : cbd (sa (sa (sa (sn S 0 ((nv S 0) + 1)) 0 ((nv S 0) + 1) ((nv S 0) + 1)) 1 ((nv S 0) + 1) k) 2 ((nv S 0) + 1) g0) := bd_sa hB (show g0 ≤ 60 by first | assumption | omega)
    refine lv_aload_n hx hb dX3_add_54 rfl (lv_at hl 0 rfl) ?_
    refine va_get (D := D) (ci := 3) (v := Value.int (nI ((nv S 0) + 1))) (C := "ReaderRows$Readers") (T := TX3) (N := 6) hx hb ht inX3 hown hK hP 1 rfl rfl 0 (by decide) (ht _ m_24) (fun _ h9 => h9) rfl dX3_add_55 ?_
    have b_N0 : (nv S 0) + 1 ≤ 60 := hB.1 0
    have hv9 : (nI ((nv S 0) + 1)) = (nI (raV S)) := by first | (simp only [raV, raS, if_pos c6]; done) | (with_reducible rfl) | (simp only [raV, raS, if_pos c6]; rfl) | rfl | (simp [raV, raS, c6]; done)
    have hs9 : (sa (sa (sa (sn S 0 ((nv S 0) + 1)) 0 ((nv S 0) + 1) ((nv S 0) + 1)) 1 ((nv S 0) + 1) k) 2 ((nv S 0) + 1) g0) = (raS S k g0) := by first | (simp only [raV, raS, if_pos c6]; done) | (with_reducible rfl) | (simp only [raV, raS, if_pos c6]; rfl) | rfl | (simp [raV, raS, c6]; done)
    exact W.iret (v := (nI ((nv S 0) + 1))) hx hb hr (fun t ht hW => ⟨congrArg (fun z => Outcome.returned (some (Value.int z))) hv9, by rw [ht, ← hs9]; exact hP, hS.F ht, by rw [← hs9]; exact hB⟩) hS.2.2 dX3_add_58
  · refine lv_iconst (v := (nI 0)) hx hb dX3_add_9 (by decide) ?_
    have hv9 : (nI 0) = (nI (raV S)) := by first | (simp only [raV, raS, if_neg c6]; done) | (with_reducible rfl) | (simp only [raV, raS, if_neg c6]; rfl) | rfl | (simp [raV, raS, c6]; done)
    have hs9 : S = (raS S k g0) := by first | (simp only [raV, raS, if_neg c6]; done) | (with_reducible rfl) | (simp only [raV, raS, if_neg c6]; rfl) | rfl | (simp [raV, raS, c6]; done)
    exact W.iret (v := (nI 0)) hx hb hr (fun t ht hW => ⟨congrArg (fun z => Outcome.returned (some (Value.int z))) hv9, by rw [ht, ← hs9]; exact hP, hS.F ht, by rw [← hs9]; exact hB⟩) hS.2.2 dX3_add_10

set_option maxRecDepth 100000 in
set_option maxHeartbeats 4000000 in
theorem c_rd_isJoined (l : Launch) (D : va_G) (g : Nat → ClassId) (a : Nat → Nat)  (S : St) (hB : cbd S) (n : Nat) (hn : n ≤ 60) : Met l yX3_isJoined wsX3_isJoined ({ frames := 0, cells := 0, slots := 0, locals := 0 } : Room) (va_Pc [Value.ref (a 1), Value.int (nI n)] (wPre D vwCl (clW g a S) (clT g))) (k2_QcV (Value.int (nI (bN (¬ av S 0 n = n))))) 0 0 (fun _ => False) := by
  refine Met.ofW (cc := cX3_isJoined) (maxL := 2) (ret := (some .boolean)) (by decide) rfl ?_
  intro p e s m args below meth c s₁ B hml hv
  obtain ⟨rfl, hP, hK⟩ := hv
  have hx := B.exec
  have hb := B.bytes
  have hr := B.returns
  have hts := atoms_spec (ws := wsX3_isJoined) B.pre
  have ht := fun (w : Cond) (h : w ∈ lw_g) => hts w (List.mem_cons_of_mem _ h)
  have hown : s.vm.findClass "ReaderRows$Readers" = some m.cls := findClass_of_methodNamed B.named
  have hlocks := B.notSynchronized
  have hl := lv_entry ([Value.ref (a 1), Value.int (nI n)]) (n := 2) (Nat.le_of_ble_eq_true rfl)
  rw [lg_entry_eq]
  generalize (lg_sl ([Value.ref (a 1), Value.int (nI n)]) ++ List.replicate (2 - (lg_sl ([Value.ref (a 1), Value.int (nI n)])).length) Slot.unset).toArray = ls at hl ⊢
  have hl : lv_has ls 2 [(0, Value.ref (a 1)), (1, Value.int (nI n))] := hl
  refine lv_aload_n hx hb dX3_isJoined_0 rfl (lv_at hl 0 rfl) ?_
  refine va_get (D := D) (ci := 3) (v := Value.ref (a 7)) (C := "ReaderRows$Readers") (T := TX3) (N := 6) hx hb ht inX3 hown hK hP 1 rfl rfl 1 (by decide) (ht _ m_25) (fun _ h9 => h9) rfl dX3_isJoined_1 ?_
  refine lv_iload_n hx hb dX3_isJoined_4 rfl (lv_at hl 1 rfl) ?_
  refine r_iald_n (f := av S 0) hx hb hK hP 7 1 rfl rfl (i := n) (show _ < 61 by first | omega | (simp only [Nat.lt_iff_add_one_le] at *; omega)) (by decide) dX3_isJoined_5 ?_
  have b_V0_5 : av S 0 n ≤ 60 := hB.2 0 n
  refine lv_iload_n hx hb dX3_isJoined_6 rfl (lv_at hl 1 rfl) ?_
  refine r_icmp_eq (tgt := 14) hx hb dX3_isJoined_7 (by decide) (by omega) (by omega) (fun c7 => ?_) (fun c7 => ?_)
  · refine lv_iconst (v := (nI 0)) hx hb dX3_isJoined_14 (by decide) ?_
    have hv9 : (nI 0) = (nI (bN (¬ av S 0 n = n))) := by first | exact r_one c7 | exact r_zero (fun q => q c7)
    have hn9 : narrow .boolean (Value.int (nI 0)) = Value.int (nI 0) := by exact r_nz (by omega)
    exact W.zret (v := (nI 0)) (ty := .boolean) hx hb hr hn9 (fun t ht hW => ⟨congrArg (fun z => Outcome.returned (some (Value.int z))) hv9, ht⟩) (fun _ h => by cases h) dX3_isJoined_15
  · refine lv_iconst (v := (nI 1)) hx hb dX3_isJoined_10 (by decide) ?_
    refine lv_goto (tgt := 15) hx hb dX3_isJoined_11 (by decide) ?_
    have hv9 : (nI 1) = (nI (bN (¬ av S 0 n = n))) := by first | exact r_one c7 | exact r_zero (fun q => q c7)
    have hn9 : narrow .boolean (Value.int (nI 1)) = Value.int (nI 1) := by exact r_nz (by omega)
    exact W.zret (v := (nI 1)) (ty := .boolean) hx hb hr hn9 (fun t ht hW => ⟨congrArg (fun z => Outcome.returned (some (Value.int z))) hv9, ht⟩) (fun _ h => by cases h) dX3_isJoined_15

set_option maxRecDepth 100000 in
set_option maxHeartbeats 4000000 in
theorem c_rd_kindOf (l : Launch) (D : va_G) (g : Nat → ClassId) (a : Nat → Nat)  (S : St) (hB : cbd S) (r : Nat) (hr0 : r ≤ 60) : Met l yX3_kindOf wsX3_kindOf ({ frames := 0, cells := 0, slots := 0, locals := 0 } : Room) (va_Pc [Value.ref (a 1), Value.int (nI r)] (wPre D vwCl (clW g a S) (clT g))) (k2_QcV (Value.int (nI (av S 1 r)))) 0 0 (fun _ => False) := by
  refine Met.ofW (cc := cX3_kindOf) (maxL := 2) (ret := (some .int)) (by decide) rfl ?_
  intro p e s m args below meth c s₁ B hml hv
  obtain ⟨rfl, hP, hK⟩ := hv
  have hx := B.exec
  have hb := B.bytes
  have hr := B.returns
  have hts := atoms_spec (ws := wsX3_kindOf) B.pre
  have ht := fun (w : Cond) (h : w ∈ lw_g) => hts w (List.mem_cons_of_mem _ h)
  have hown : s.vm.findClass "ReaderRows$Readers" = some m.cls := findClass_of_methodNamed B.named
  have hlocks := B.notSynchronized
  have hl := lv_entry ([Value.ref (a 1), Value.int (nI r)]) (n := 2) (Nat.le_of_ble_eq_true rfl)
  rw [lg_entry_eq]
  generalize (lg_sl ([Value.ref (a 1), Value.int (nI r)]) ++ List.replicate (2 - (lg_sl ([Value.ref (a 1), Value.int (nI r)])).length) Slot.unset).toArray = ls at hl ⊢
  have hl : lv_has ls 2 [(0, Value.ref (a 1)), (1, Value.int (nI r))] := hl
  refine lv_aload_n hx hb dX3_kindOf_0 rfl (lv_at hl 0 rfl) ?_
  refine va_get (D := D) (ci := 3) (v := Value.ref (a 8)) (C := "ReaderRows$Readers") (T := TX3) (N := 6) hx hb ht inX3 hown hK hP 1 rfl rfl 2 (by decide) (ht _ m_26) (fun _ h9 => h9) rfl dX3_kindOf_1 ?_
  refine lv_iload_n hx hb dX3_kindOf_4 rfl (lv_at hl 1 rfl) ?_
  refine r_iald_n (f := av S 1) hx hb hK hP 8 2 rfl rfl (i := r) (show _ < 61 by first | omega | (simp only [Nat.lt_iff_add_one_le] at *; omega)) (by decide) dX3_kindOf_5 ?_
  have b_V1_5 : av S 1 r ≤ 4 := hB.2 1 r
  have hv9 : (nI (av S 1 r)) = (nI (av S 1 r)) := by first | (simp only [Nat.add_zero, Nat.add_zero]; done) | (with_reducible rfl) | (simp only [Nat.add_zero, Nat.add_zero]; rfl) | rfl | (simp [Nat.add_zero, Nat.add_zero]; done)
  exact W.iret (v := (nI (av S 1 r))) hx hb hr (fun t ht hW => ⟨congrArg (fun z => Outcome.returned (some (Value.int z))) hv9, ht⟩) (fun _ h => by cases h) dX3_kindOf_6

set_option maxRecDepth 100000 in
set_option maxHeartbeats 4000000 in
theorem c_rd_guardianOf (l : Launch) (D : va_G) (g : Nat → ClassId) (a : Nat → Nat)  (S : St) (hB : cbd S) (r : Nat) (hr0 : r ≤ 60) : Met l yX3_guardianOf wsX3_guardianOf ({ frames := 0, cells := 0, slots := 0, locals := 0 } : Room) (va_Pc [Value.ref (a 1), Value.int (nI r)] (wPre D vwCl (clW g a S) (clT g))) (k2_QcV (Value.int (nI (av S 2 r)))) 0 0 (fun _ => False) := by
  refine Met.ofW (cc := cX3_guardianOf) (maxL := 2) (ret := (some .int)) (by decide) rfl ?_
  intro p e s m args below meth c s₁ B hml hv
  obtain ⟨rfl, hP, hK⟩ := hv
  have hx := B.exec
  have hb := B.bytes
  have hr := B.returns
  have hts := atoms_spec (ws := wsX3_guardianOf) B.pre
  have ht := fun (w : Cond) (h : w ∈ lw_g) => hts w (List.mem_cons_of_mem _ h)
  have hown : s.vm.findClass "ReaderRows$Readers" = some m.cls := findClass_of_methodNamed B.named
  have hlocks := B.notSynchronized
  have hl := lv_entry ([Value.ref (a 1), Value.int (nI r)]) (n := 2) (Nat.le_of_ble_eq_true rfl)
  rw [lg_entry_eq]
  generalize (lg_sl ([Value.ref (a 1), Value.int (nI r)]) ++ List.replicate (2 - (lg_sl ([Value.ref (a 1), Value.int (nI r)])).length) Slot.unset).toArray = ls at hl ⊢
  have hl : lv_has ls 2 [(0, Value.ref (a 1)), (1, Value.int (nI r))] := hl
  refine lv_aload_n hx hb dX3_guardianOf_0 rfl (lv_at hl 0 rfl) ?_
  refine va_get (D := D) (ci := 3) (v := Value.ref (a 9)) (C := "ReaderRows$Readers") (T := TX3) (N := 6) hx hb ht inX3 hown hK hP 1 rfl rfl 3 (by decide) (ht _ m_27) (fun _ h9 => h9) rfl dX3_guardianOf_1 ?_
  refine lv_iload_n hx hb dX3_guardianOf_4 rfl (lv_at hl 1 rfl) ?_
  refine r_iald_n (f := av S 2) hx hb hK hP 9 3 rfl rfl (i := r) (show _ < 61 by first | omega | (simp only [Nat.lt_iff_add_one_le] at *; omega)) (by decide) dX3_guardianOf_5 ?_
  have b_V2_5 : av S 2 r ≤ 60 := hB.2 2 r
  have hv9 : (nI (av S 2 r)) = (nI (av S 2 r)) := by first | (simp only [Nat.add_zero, Nat.add_zero]; done) | (with_reducible rfl) | (simp only [Nat.add_zero, Nat.add_zero]; rfl) | rfl | (simp [Nat.add_zero, Nat.add_zero]; done)
  exact W.iret (v := (nI (av S 2 r))) hx hb hr (fun t ht hW => ⟨congrArg (fun z => Outcome.returned (some (Value.int z))) hv9, ht⟩) (fun _ h => by cases h) dX3_guardianOf_6

set_option maxRecDepth 100000 in
set_option maxHeartbeats 4000000 in
theorem c_rd_hasConsent (l : Launch) (D : va_G) (g : Nat → ClassId) (a : Nat → Nat)  (S : St) (hB : cbd S) (r : Nat) (hr0 : r ≤ 60) : Met l yX3_hasConsent wsX3_hasConsent ({ frames := 0, cells := 0, slots := 0, locals := 0 } : Room) (va_Pc [Value.ref (a 1), Value.int (nI r)] (wPre D vwCl (clW g a S) (clT g))) (k2_QcV (Value.int (nI (av S 3 r)))) 0 0 (fun _ => False) := by
  refine Met.ofW (cc := cX3_hasConsent) (maxL := 2) (ret := (some .boolean)) (by decide) rfl ?_
  intro p e s m args below meth c s₁ B hml hv
  obtain ⟨rfl, hP, hK⟩ := hv
  have hx := B.exec
  have hb := B.bytes
  have hr := B.returns
  have hts := atoms_spec (ws := wsX3_hasConsent) B.pre
  have ht := fun (w : Cond) (h : w ∈ lw_g) => hts w (List.mem_cons_of_mem _ h)
  have hown : s.vm.findClass "ReaderRows$Readers" = some m.cls := findClass_of_methodNamed B.named
  have hlocks := B.notSynchronized
  have hl := lv_entry ([Value.ref (a 1), Value.int (nI r)]) (n := 2) (Nat.le_of_ble_eq_true rfl)
  rw [lg_entry_eq]
  generalize (lg_sl ([Value.ref (a 1), Value.int (nI r)]) ++ List.replicate (2 - (lg_sl ([Value.ref (a 1), Value.int (nI r)])).length) Slot.unset).toArray = ls at hl ⊢
  have hl : lv_has ls 2 [(0, Value.ref (a 1)), (1, Value.int (nI r))] := hl
  refine lv_aload_n hx hb dX3_hasConsent_0 rfl (lv_at hl 0 rfl) ?_
  refine va_get (D := D) (ci := 3) (v := Value.ref (a 10)) (C := "ReaderRows$Readers") (T := TX3) (N := 6) hx hb ht inX3 hown hK hP 1 rfl rfl 4 (by decide) (ht _ m_28) (fun _ h9 => h9) rfl dX3_hasConsent_1 ?_
  refine lv_iload_n hx hb dX3_hasConsent_4 rfl (lv_at hl 1 rfl) ?_
  refine r_zald_n (f := av S 3) hx hb hK hP 10 4 rfl rfl (i := r) (show _ < 61 by first | omega | (simp only [Nat.lt_iff_add_one_le] at *; omega)) (by decide) dX3_hasConsent_5 ?_
  have b_V3_5 : av S 3 r ≤ 1 := hB.2 3 r
  have hv9 : (nI (av S 3 r)) = (nI (av S 3 r)) := by first | (simp only [Nat.add_zero, Nat.add_zero]; done) | (with_reducible rfl) | (simp only [Nat.add_zero, Nat.add_zero]; rfl) | rfl | (simp [Nat.add_zero, Nat.add_zero]; done)
  have hn9 : narrow .boolean (Value.int (nI (av S 3 r))) = Value.int (nI (av S 3 r)) := by exact r_nz (by omega)
  exact W.zret (v := (nI (av S 3 r))) (ty := .boolean) hx hb hr hn9 (fun t ht hW => ⟨congrArg (fun z => Outcome.returned (some (Value.int z))) hv9, ht⟩) (fun _ h => by cases h) dX3_hasConsent_6

set_option maxRecDepth 100000 in
set_option maxHeartbeats 4000000 in
theorem c_rd_setConsent (l : Launch) (D : va_G) (g : Nat → ClassId) (a : Nat → Nat) (hD : ∀ S : St, va_D (cA a) (clW g a S))  (S : St) (hB : cbd S) (r y : Nat) (hr0 : r ≤ 60) (hy : y ≤ 1) : Met l yX3_setConsent wsX3_setConsent ({ frames := 0, cells := 0, slots := 0, locals := 0 } : Room) (va_Pc [Value.ref (a 1), Value.int (nI r), Value.int (nI y)] (wPre D vwCl (clW g a S) (clT g))) (wQ none D vwCl (clW g a (sa S 3 r y)) (cA a) (cbd (sa S 3 r y))) 0 0 (cA a) := by
  refine Met.ofW (cc := cX3_setConsent) (maxL := 3) (ret := none) (by decide) rfl ?_
  intro p e s m args below meth c s₁ B hml hv
  obtain ⟨rfl, hP, hK⟩ := hv
  have hx := B.exec
  have hb := B.bytes
  have hr := B.returns
  have hts := atoms_spec (ws := wsX3_setConsent) B.pre
  have ht := fun (w : Cond) (h : w ∈ lw_g) => hts w (List.mem_cons_of_mem _ h)
  have hown : s.vm.findClass "ReaderRows$Readers" = some m.cls := findClass_of_methodNamed B.named
  have hlocks := B.notSynchronized
  have hS : va_S (cA a) s.heap s.heap [] := va_S.rf
  have hl := lv_entry ([Value.ref (a 1), Value.int (nI r), Value.int (nI y)]) (n := 3) (Nat.le_of_ble_eq_true rfl)
  rw [lg_entry_eq]
  generalize (lg_sl ([Value.ref (a 1), Value.int (nI r), Value.int (nI y)]) ++ List.replicate (3 - (lg_sl ([Value.ref (a 1), Value.int (nI r), Value.int (nI y)])).length) Slot.unset).toArray = ls at hl ⊢
  have hl : lv_has ls 3 [(0, Value.ref (a 1)), (1, Value.int (nI r)), (2, Value.int (nI y))] := hl
  refine lv_aload_n hx hb dX3_setConsent_0 rfl (lv_at hl 0 rfl) ?_
  refine va_get (D := D) (ci := 3) (v := Value.ref (a 10)) (C := "ReaderRows$Readers") (T := TX3) (N := 6) hx hb ht inX3 hown hK hP 1 rfl rfl 4 (by decide) (ht _ m_28) (fun _ h9 => h9) rfl dX3_setConsent_1 ?_
  refine lv_iload_n hx hb dX3_setConsent_4 rfl (lv_at hl 1 rfl) ?_
  refine lv_iload_n hx hb dX3_setConsent_5 rfl (lv_at hl 2 rfl) ?_
  refine r_zast_n (f := av S 3) hx hb hK hP (hD _) hS 10 4 rfl rfl (i := r) (x := y) (show _ < 61 by omega) (by decide) (show _ ≤ 1 by omega) dX3_setConsent_6 (fun H locs hP hD1 hS => ?_)
  have hP : va_P D vwCl (clW g a (sa S 3 r y)) H := hP
  clear hD1
  have hB : cbd (sa S 3 r y) := bd_sa hB (show y ≤ 1 by first | assumption | omega)
  have hs9 : (sa S 3 r y) = (sa S 3 r y) := by first | (simp only [Nat.add_zero, Nat.add_zero]; done) | (with_reducible rfl) | (simp only [Nat.add_zero, Nat.add_zero]; rfl) | rfl | (simp [Nat.add_zero, Nat.add_zero]; done)
  exact W.vret hx hb hr (fun t ht hW => ⟨rfl, by rw [ht, ← hs9]; exact hP, hS.F ht, by rw [← hs9]; exact hB⟩) hS.2.2 dX3_setConsent_7

set_option maxRecDepth 100000 in
set_option maxHeartbeats 4000000 in
theorem c_rd_setBlock (l : Launch) (D : va_G) (g : Nat → ClassId) (a : Nat → Nat) (hD : ∀ S : St, va_D (cA a) (clW g a S))  (S : St) (hB : cbd S) (r so : Nat) (d : Int64) (hr0 : r ≤ 60) (hs : so ≤ 5) : Met l yX3_setBlock wsX3_setBlock ({ frames := 0, cells := 0, slots := 0, locals := 0 } : Room) (va_Pc [Value.ref (a 1), Value.int (nI r), Value.int (nI so), Value.long d] (wPre D vwCl (clW g a S) (clT g))) (wQ none D vwCl (clW g a (sy S 0 (r * 6 + so) d)) (cA a) (cbd (sy S 0 (r * 6 + so) d))) 0 0 (cA a) := by
  refine Met.ofW (cc := cX3_setBlock) (maxL := 5) (ret := none) (by decide) rfl ?_
  intro p e s m args below meth c s₁ B hml hv
  obtain ⟨rfl, hP, hK⟩ := hv
  have hx := B.exec
  have hb := B.bytes
  have hr := B.returns
  have hts := atoms_spec (ws := wsX3_setBlock) B.pre
  have ht := fun (w : Cond) (h : w ∈ lw_g) => hts w (List.mem_cons_of_mem _ h)
  have hown : s.vm.findClass "ReaderRows$Readers" = some m.cls := findClass_of_methodNamed B.named
  have hlocks := B.notSynchronized
  have hS : va_S (cA a) s.heap s.heap [] := va_S.rf
  have hl := lv_entry ([Value.ref (a 1), Value.int (nI r), Value.int (nI so), Value.long d]) (n := 5) (Nat.le_of_ble_eq_true rfl)
  rw [lg_entry_eq]
  generalize (lg_sl ([Value.ref (a 1), Value.int (nI r), Value.int (nI so), Value.long d]) ++ List.replicate (5 - (lg_sl ([Value.ref (a 1), Value.int (nI r), Value.int (nI so), Value.long d])).length) Slot.unset).toArray = ls at hl ⊢
  have hl : lv_has ls 5 [(0, Value.ref (a 1)), (1, Value.int (nI r)), (2, Value.int (nI so)), (3, Value.long d)] := hl
  refine lv_aload_n hx hb dX3_setBlock_0 rfl (lv_at hl 0 rfl) ?_
  refine va_get (D := D) (ci := 3) (v := Value.ref (a 11)) (C := "ReaderRows$Readers") (T := TX3) (N := 6) hx hb ht inX3 hown hK hP 1 rfl rfl 5 (by decide) (ht _ m_29) (fun _ h9 => h9) rfl dX3_setBlock_1 ?_
  refine lv_iload_n hx hb dX3_setBlock_4 rfl (lv_at hl 1 rfl) ?_
  refine lv_bipush (v := (nI 6)) hx hb dX3_setBlock_5 (by decide) ?_
  refine r_imul hx hb dX3_setBlock_7 ?_
  refine lv_iload_n hx hb dX3_setBlock_8 rfl (lv_at hl 2 rfl) ?_
  refine r_iadd hx hb dX3_setBlock_9 ?_
  refine lv_lload_n hx hb dX3_setBlock_10 rfl (lv_at hl 3 rfl) ?_
  refine r_last_y (f := yv S 0) hx hb hK hP (hD _) hS 11 5 rfl rfl (i := ((r * 6) + so)) (x := d) (show _ < 366 by omega) (by decide) dX3_setBlock_11 (fun H locs hP hD1 hS => ?_)
  have hP : va_P D vwCl (clW g a (sy S 0 ((r * 6) + so) d)) H := hP
  clear hD1
  have hB : cbd (sy S 0 ((r * 6) + so) d) := bd_sy hB
  have hs9 : (sy S 0 ((r * 6) + so) d) = (sy S 0 (r * 6 + so) d) := by first | (simp only [Nat.add_zero, Nat.add_zero]; done) | (with_reducible rfl) | (simp only [Nat.add_zero, Nat.add_zero]; rfl) | rfl | (simp [Nat.add_zero, Nat.add_zero]; done)
  exact W.vret hx hb hr (fun t ht hW => ⟨rfl, by rw [ht, ← hs9]; exact hP, hS.F ht, by rw [← hs9]; exact hB⟩) hS.2.2 dX3_setBlock_12

set_option maxRecDepth 100000 in
set_option maxHeartbeats 4000000 in
theorem c_rd_hasBlock (l : Launch) (D : va_G) (g : Nat → ClassId) (a : Nat → Nat)  (S : St) (hB : cbd S) (r so : Nat) (d : Int64) (hr0 : r ≤ 60) (hs : so ≤ 5) : Met l yX3_hasBlock wsX3_hasBlock ({ frames := 0, cells := 0, slots := 0, locals := 0 } : Room) (va_Pc [Value.ref (a 1), Value.int (nI r), Value.int (nI so), Value.long d] (wPre D vwCl (clW g a S) (clT g))) (k2_QcV (Value.int (nI (bN (hbk S r so d))))) 0 0 (fun _ => False) := by
  refine Met.ofW (cc := cX3_hasBlock) (maxL := 7) (ret := (some .boolean)) (by decide) rfl ?_
  intro p e s m args below meth c s₁ B hml hv
  obtain ⟨rfl, hP, hK⟩ := hv
  have hx := B.exec
  have hb := B.bytes
  have hr := B.returns
  have hts := atoms_spec (ws := wsX3_hasBlock) B.pre
  have ht := fun (w : Cond) (h : w ∈ lw_g) => hts w (List.mem_cons_of_mem _ h)
  have hown : s.vm.findClass "ReaderRows$Readers" = some m.cls := findClass_of_methodNamed B.named
  have hlocks := B.notSynchronized
  have hl := lv_entry ([Value.ref (a 1), Value.int (nI r), Value.int (nI so), Value.long d]) (n := 7) (Nat.le_of_ble_eq_true rfl)
  rw [lg_entry_eq]
  generalize (lg_sl ([Value.ref (a 1), Value.int (nI r), Value.int (nI so), Value.long d]) ++ List.replicate (7 - (lg_sl ([Value.ref (a 1), Value.int (nI r), Value.int (nI so), Value.long d])).length) Slot.unset).toArray = ls at hl ⊢
  have hl : lv_has ls 7 [(0, Value.ref (a 1)), (1, Value.int (nI r)), (2, Value.int (nI so)), (3, Value.long d)] := hl
  refine lv_aload_n hx hb dX3_hasBlock_0 rfl (lv_at hl 0 rfl) ?_
  refine va_get (D := D) (ci := 3) (v := Value.ref (a 11)) (C := "ReaderRows$Readers") (T := TX3) (N := 6) hx hb ht inX3 hown hK hP 1 rfl rfl 5 (by decide) (ht _ m_29) (fun _ h9 => h9) rfl dX3_hasBlock_1 ?_
  refine lv_iload_n hx hb dX3_hasBlock_4 rfl (lv_at hl 1 rfl) ?_
  refine lv_bipush (v := (nI 6)) hx hb dX3_hasBlock_5 (by decide) ?_
  refine r_imul hx hb dX3_hasBlock_7 ?_
  refine lv_iload_n hx hb dX3_hasBlock_8 rfl (lv_at hl 2 rfl) ?_
  refine r_iadd hx hb dX3_hasBlock_9 ?_
  refine r_lald_y (f := yv S 0) hx hb hK hP 11 5 rfl rfl (i := ((r * 6) + so)) (show _ < 366 by first | omega | (simp only [Nat.lt_iff_add_one_le] at *; omega)) (by decide) dX3_hasBlock_10 ?_
  refine lv_lstore (lv' := [(5, Value.long (yv S 0 ((r * 6) + so))), (0, Value.ref (a 1)), (1, Value.int (nI r)), (2, Value.int (nI so)), (3, Value.long d)]) hx hb dX3_hasBlock_11 hl (by decide) rfl (fun ls hl => ?_)
  refine lv_lload hx hb dX3_hasBlock_13 (lv_at hl 0 rfl) ?_
  refine lv_ldc2 (v := (-1)) hx hb hown (ht _ m_23) dX3_hasBlock_15 ?_
  refine W.lcmp hx hb dX3_hasBlock_18 ?_
  refine r_lc_eq (tgt := 33) hx hb dX3_hasBlock_19 (by decide) (fun c19 => ?_) (fun c19 => ?_)
  · refine lv_iconst (v := (nI 0)) hx hb dX3_hasBlock_33 (by decide) ?_
    have hv9 : (nI 0) = (nI (bN (hbk S r so d))) := by first | exact r_one ⟨c19, c26⟩ | exact r_zero (fun q => q.1 c19) | exact r_zero (fun q => q.2 c26)
    have hn9 : narrow .boolean (Value.int (nI 0)) = Value.int (nI 0) := by exact r_nz (by omega)
    exact W.zret (v := (nI 0)) (ty := .boolean) hx hb hr hn9 (fun t ht hW => ⟨congrArg (fun z => Outcome.returned (some (Value.int z))) hv9, ht⟩) (fun _ h => by cases h) dX3_hasBlock_34
  · refine lv_lload_n hx hb dX3_hasBlock_22 rfl (lv_at hl 4 rfl) ?_
    refine lv_lload hx hb dX3_hasBlock_23 (lv_at hl 0 rfl) ?_
    refine W.lcmp hx hb dX3_hasBlock_25 ?_
    refine r_lc_gt (tgt := 33) hx hb dX3_hasBlock_26 (by decide) (fun c26 => ?_) (fun c26 => ?_)
    · refine lv_iconst (v := (nI 0)) hx hb dX3_hasBlock_33 (by decide) ?_
      have hv9 : (nI 0) = (nI (bN (hbk S r so d))) := by first | exact r_one ⟨c19, c26⟩ | exact r_zero (fun q => q.1 c19) | exact r_zero (fun q => q.2 c26)
      have hn9 : narrow .boolean (Value.int (nI 0)) = Value.int (nI 0) := by exact r_nz (by omega)
      exact W.zret (v := (nI 0)) (ty := .boolean) hx hb hr hn9 (fun t ht hW => ⟨congrArg (fun z => Outcome.returned (some (Value.int z))) hv9, ht⟩) (fun _ h => by cases h) dX3_hasBlock_34
    · refine lv_iconst (v := (nI 1)) hx hb dX3_hasBlock_29 (by decide) ?_
      refine lv_goto (tgt := 34) hx hb dX3_hasBlock_30 (by decide) ?_
      have hv9 : (nI 1) = (nI (bN (hbk S r so d))) := by first | exact r_one ⟨c19, c26⟩ | exact r_zero (fun q => q.1 c19) | exact r_zero (fun q => q.2 c26)
      have hn9 : narrow .boolean (Value.int (nI 1)) = Value.int (nI 1) := by exact r_nz (by omega)
      exact W.zret (v := (nI 1)) (ty := .boolean) hx hb hr hn9 (fun t ht hW => ⟨congrArg (fun z => Outcome.returned (some (Value.int z))) hv9, ht⟩) (fun _ h => by cases h) dX3_hasBlock_34

set_option maxRecDepth 100000 in
set_option maxHeartbeats 4000000 in
theorem c_rd_wardOf (l : Launch) (D : va_G) (g : Nat → ClassId) (a : Nat → Nat)  (S : St) (hB : cbd S) (g0 : Nat) (hg : g0 ≤ 60) (i : Int32) : Met l yX3_wardOf wsX3_wardOf ({ frames := 0, cells := 0, slots := 0, locals := 0 } : Room) (va_Pc [Value.ref (a 1), Value.int (nI g0), Value.int i] (wPre D vwCl (clW g a S) (clT g))) (k2_QcV (Value.int (nI (wd S g0 i)))) 0 0 (fun _ => False) := by
  refine Met.ofW (cc := cX3_wardOf) (maxL := 5) (ret := (some .int)) (by decide) rfl ?_
  intro p e s m args below meth c s₁ B hml hv
  obtain ⟨rfl, hP, hK⟩ := hv
  have hx := B.exec
  have hb := B.bytes
  have hr := B.returns
  have hts := atoms_spec (ws := wsX3_wardOf) B.pre
  have ht := fun (w : Cond) (h : w ∈ lw_g) => hts w (List.mem_cons_of_mem _ h)
  have hown : s.vm.findClass "ReaderRows$Readers" = some m.cls := findClass_of_methodNamed B.named
  have hlocks := B.notSynchronized
  have hl := lv_entry ([Value.ref (a 1), Value.int (nI g0), Value.int i]) (n := 5) (Nat.le_of_ble_eq_true rfl)
  rw [lg_entry_eq]
  generalize (lg_sl ([Value.ref (a 1), Value.int (nI g0), Value.int i]) ++ List.replicate (5 - (lg_sl ([Value.ref (a 1), Value.int (nI g0), Value.int i])).length) Slot.unset).toArray = ls at hl ⊢
  have hl : lv_has ls 5 [(0, Value.ref (a 1)), (1, Value.int (nI g0)), (2, Value.int i)] := hl
  refine lv_iconst (v := (nI 0)) hx hb dX3_wardOf_0 (by decide) ?_
  refine lv_istore_n (lv' := [(3, Value.int (nI 0)), (0, Value.ref (a 1)), (1, Value.int (nI g0)), (2, Value.int i)]) hx hb dX3_wardOf_1 rfl hl (by decide) rfl (fun ls hl => ?_)
  refine lv_iconst (v := (nI 1)) hx hb dX3_wardOf_2 (by decide) ?_
  refine lv_istore (lv' := [(4, Value.int (nI 1)), (3, Value.int (nI 0)), (0, Value.ref (a 1)), (1, Value.int (nI g0)), (2, Value.int i)]) hx hb dX3_wardOf_3 hl (by decide) rfl (fun ls hl => ?_)
  have lp5 : ∀ (f5 : Nat) (n : Nat) (z : Nat), 1 ≤ n → n ≤ nv S 0 + 1 → wdF S g0 i f5 n z = wd S g0 i → nv S 0 + 2 ≤ n + f5 → ∀ (ls : Array Slot), lv_has ls 5 [(4, Value.int (nI n)), (3, Value.int (nI z)), (0, Value.ref (a 1)), (1, Value.int (nI g0)), (2, Value.int i)] → W p l e (headSpec wsX3_wardOf ({ frames := 0, cells := 0, slots := 0, locals := 0 } : Room)).room s m ([Value.ref (a 1), Value.int (nI g0), Value.int i] : List Value).toArray below meth c s.heap [] 0 0 (MQ below (k2_QcV (Value.int (nI (wd S g0 i)))) ([Value.ref (a 1), Value.int (nI g0), Value.int i] : List Value).toArray s 0 0 (fun _ => False)) (F0 m 5 ls []) := by
    intro f5
    induction f5 with
    | zero =>
      intro n z hn1 hn2 hv hfu
      exact absurd hfu (by omega)
    | succ f5 ih5 =>
      intro n z hn1 hn2 hv hfu ls hl
      have b_N0 : nv S 0 ≤ 60 := hB.1 0
      refine lv_iload hx hb dX3_wardOf_5 (lv_at hl 0 rfl) ?_
      refine lv_aload_n hx hb dX3_wardOf_7 rfl (lv_at hl 2 rfl) ?_
      refine va_get (D := D) (ci := 3) (v := Value.int (nI (nv S 0))) (C := "ReaderRows$Readers") (T := TX3) (N := 6) hx hb ht inX3 hown hK hP 1 rfl rfl 0 (by decide) (ht _ m_24) (fun _ h9 => h9) rfl dX3_wardOf_8 ?_
      have b_N0 : nv S 0 ≤ 60 := hB.1 0
      refine r_icmp_gt (tgt := 42) hx hb dX3_wardOf_11 (by decide) (by omega) (by omega) (fun c11 => ?_) (fun c11 => ?_)
      · refine lv_iconst (v := (nI 0)) hx hb dX3_wardOf_42 (by decide) ?_
        have hv9 : (nI 0) = (nI (wd S g0 i)) := by rw [← hv]; simp only [wdF, if_pos c11]
        exact W.iret (v := (nI 0)) hx hb hr (fun t ht hW => ⟨congrArg (fun z => Outcome.returned (some (Value.int z))) hv9, ht⟩) (fun _ h => by cases h) dX3_wardOf_43
      · refine lv_aload_n hx hb dX3_wardOf_14 rfl (lv_at hl 2 rfl) ?_
        refine va_get (D := D) (ci := 3) (v := Value.ref (a 9)) (C := "ReaderRows$Readers") (T := TX3) (N := 6) hx hb ht inX3 hown hK hP 1 rfl rfl 3 (by decide) (ht _ m_27) (fun _ h9 => h9) rfl dX3_wardOf_15 ?_
        refine lv_iload hx hb dX3_wardOf_18 (lv_at hl 0 rfl) ?_
        refine r_iald_n (f := av S 2) hx hb hK hP 9 3 rfl rfl (i := n) (show _ < 61 by first | omega | (simp only [Nat.lt_iff_add_one_le] at *; omega)) (by decide) dX3_wardOf_20 ?_
        have b_V2_20 : av S 2 n ≤ 60 := hB.2 2 n
        refine lv_iload_n hx hb dX3_wardOf_21 rfl (lv_at hl 3 rfl) ?_
        refine r_icmp_ne (tgt := 36) hx hb dX3_wardOf_22 (by decide) (by omega) (by omega) (fun c22 => ?_) (fun c22 => ?_)
        · refine lv_iinc (v := (nI (n + 1))) (lv' := [(4, Value.int (nI (n + 1))), (3, Value.int (nI z)), (0, Value.ref (a 1)), (1, Value.int (nI g0)), (2, Value.int i)]) hx hb dX3_wardOf_36 hl (k := 0) rfl (r_inc1 _) (by decide) rfl (fun ls hl => ?_)
          refine lv_goto (tgt := 5) hx hb dX3_wardOf_39 (by decide) ?_
          exact ih5 (n + 1) z (by omega) (by omega) (by (simp only [wdF, if_neg c11, if_neg c22] at hv; exact hv)) (by omega)  ls (lv_sub hl [0, 1, 2, 3, 4] rfl)
        · refine lv_iinc (v := (nI (z + 1))) (lv' := [(3, Value.int (nI (z + 1))), (4, Value.int (nI n)), (0, Value.ref (a 1)), (1, Value.int (nI g0)), (2, Value.int i)]) hx hb dX3_wardOf_25 hl (k := 1) rfl (r_inc1 _) (by decide) rfl (fun ls hl => ?_)
          refine lv_iload_n hx hb dX3_wardOf_28 rfl (lv_at hl 0 rfl) ?_
          refine lv_iload_n hx hb dX3_wardOf_29 rfl (lv_at hl 4 rfl) ?_
          refine lv_icmp_ne (tgt := 36) hx hb dX3_wardOf_30 (by decide) (fun c30 => ?_) (fun c30 => ?_)
          · refine lv_iinc (v := (nI (n + 1))) (lv' := [(4, Value.int (nI (n + 1))), (3, Value.int (nI (z + 1))), (0, Value.ref (a 1)), (1, Value.int (nI g0)), (2, Value.int i)]) hx hb dX3_wardOf_36 hl (k := 1) rfl (r_inc1 _) (by decide) rfl (fun ls hl => ?_)
            refine lv_goto (tgt := 5) hx hb dX3_wardOf_39 (by decide) ?_
            exact ih5 (n + 1) (z + 1) (by omega) (by omega) (by (simp only [wdF, if_neg c11, if_pos c22, if_neg c30] at hv; exact hv)) (by omega)  ls (lv_sub hl [0, 1, 2, 3, 4] rfl)
          · refine lv_iload hx hb dX3_wardOf_33 (lv_at hl 1 rfl) ?_
            have hv9 : (nI n) = (nI (wd S g0 i)) := by rw [← hv]; simp only [wdF, if_neg c11, if_pos c22, if_pos c30]
            exact W.iret (v := (nI n)) hx hb hr (fun t ht hW => ⟨congrArg (fun z => Outcome.returned (some (Value.int z))) hv9, ht⟩) (fun _ h => by cases h) dX3_wardOf_35
  exact lp5 (nv S 0 + 1) 1 0 (by omega) (by omega) (by rfl) (by omega)  ls (lv_sub hl [0, 1, 2, 3, 4] rfl)

set_option maxRecDepth 100000 in
set_option maxHeartbeats 4000000 in
theorem c_rd_merge (l : Launch) (D : va_G) (g : Nat → ClassId) (a : Nat → Nat) (hD : ∀ S : St, va_D (cA a) (clW g a S))  (S : St) (hB : cbd S) (u w : Nat) (hu : u ≤ 60) (hw : w ≤ 60) : Met l yX3_merge wsX3_merge ({ frames := 1, cells := 0, slots := 0, locals := 30 } : Room) (va_Pc [Value.ref (a 1), Value.int (nI u), Value.int (nI w)] (wPre D vwCl (clW g a S) (clT g))) (wQ none D vwCl (clW g a (mgS S u w)) (cA a) (cbd (mgS S u w))) 0 0 (cA a) := by
  refine Met.ofW (cc := cX3_merge) (maxL := 7) (ret := none) (by decide) rfl ?_
  intro p e s m args below meth c s₁ B hml hv
  obtain ⟨rfl, hP, hK⟩ := hv
  have hx := B.exec
  have hb := B.bytes
  have hr := B.returns
  have hts := atoms_spec (ws := wsX3_merge) B.pre
  have ht := fun (w : Cond) (h : w ∈ lw_g) => hts w (List.mem_cons_of_mem _ h)
  have hown : s.vm.findClass "ReaderRows$Readers" = some m.cls := findClass_of_methodNamed B.named
  have hlocks := B.notSynchronized
  have hS : va_S (cA a) s.heap s.heap [] := va_S.rf
  have hl := lv_entry ([Value.ref (a 1), Value.int (nI u), Value.int (nI w)]) (n := 7) (Nat.le_of_ble_eq_true rfl)
  rw [lg_entry_eq]
  generalize (lg_sl ([Value.ref (a 1), Value.int (nI u), Value.int (nI w)]) ++ List.replicate (7 - (lg_sl ([Value.ref (a 1), Value.int (nI u), Value.int (nI w)])).length) Slot.unset).toArray = ls at hl ⊢
  have hl : lv_has ls 7 [(0, Value.ref (a 1)), (1, Value.int (nI u)), (2, Value.int (nI w))] := hl
  refine lv_aload_n hx hb dX3_merge_0 rfl (lv_at hl 0 rfl) ?_
  refine va_get (D := D) (ci := 3) (v := Value.ref (a 9)) (C := "ReaderRows$Readers") (T := TX3) (N := 6) hx hb ht inX3 hown hK hP 1 rfl rfl 3 (by decide) (ht _ m_27) (fun _ h9 => h9) rfl dX3_merge_1 ?_
  refine lv_iload_n hx hb dX3_merge_4 rfl (lv_at hl 1 rfl) ?_
  refine lv_iconst (v := (nI 0)) hx hb dX3_merge_5 (by decide) ?_
  refine r_iast_n (f := av S 2) hx hb hK hP (hD _) hS 9 3 rfl rfl (i := u) (x := 0) (show _ < 61 by omega) (by decide) dX3_merge_6 (fun H locs hP hD1 hS => ?_)
  have hP : va_P D vwCl (clW g a (sa S 2 u 0)) H := hP
  clear hD1
  have hB : cbd (sa S 2 u 0) := bd_sa hB (show 0 ≤ 60 by first | assumption | omega)
  refine lv_iconst (v := (nI 1)) hx hb dX3_merge_7 (by decide) ?_
  refine lv_istore_n (lv' := [(3, Value.int (nI 1)), (0, Value.ref (a 1)), (1, Value.int (nI u)), (2, Value.int (nI w))]) hx hb dX3_merge_8 rfl hl (by decide) rfl (fun ls hl => ?_)
  have lp9 : ∀ (f9 : Nat) (S1 : St) (n : Nat), nv S1 0 = nv S 0 → 1 ≤ n → n ≤ nv S 0 + 1 → mgF u w f9 n S1 = mgT S u w → nv S 0 + 2 ≤ n + f9 → cbd S1 → ∀ (H : Heap) (locs : List Loc), va_P D vwCl (clW g a S1) H → va_S (cA a) s.heap H locs → ∀ (ls : Array Slot), lv_has ls 7 [(3, Value.int (nI n)), (0, Value.ref (a 1)), (1, Value.int (nI u)), (2, Value.int (nI w))] → W p l e (headSpec wsX3_merge ({ frames := 1, cells := 0, slots := 0, locals := 30 } : Room)).room s m ([Value.ref (a 1), Value.int (nI u), Value.int (nI w)] : List Value).toArray below meth c H locs 0 0 (MQ below (wQ none D vwCl (clW g a (mgS S u w)) (cA a) (cbd (mgS S u w))) ([Value.ref (a 1), Value.int (nI u), Value.int (nI w)] : List Value).toArray s 0 0 (cA a)) (F0 m 9 ls []) := by
    intro f9
    induction f9 with
    | zero =>
      intro S1 n hc hn1 hn2 hv hfu
      exact absurd hfu (by omega)
    | succ f9 ih9 =>
      intro S1 n hc hn1 hn2 hv hfu hB H locs hP hS ls hl
      refine lv_iload_n hx hb dX3_merge_9 rfl (lv_at hl 0 rfl) ?_
      refine lv_aload_n hx hb dX3_merge_10 rfl (lv_at hl 1 rfl) ?_
      refine va_get (D := D) (ci := 3) (v := Value.int (nI (nv S1 0))) (C := "ReaderRows$Readers") (T := TX3) (N := 6) hx hb ht inX3 hown hK hP 1 rfl rfl 0 (by decide) (ht _ m_24) (fun _ h9 => h9) rfl dX3_merge_11 ?_
      have b_N0 : nv S1 0 ≤ 60 := hB.1 0
      refine r_icmp_gt (tgt := 57) hx hb dX3_merge_14 (by decide) (by omega) (by omega) (fun c14 => ?_) (fun c14 => ?_)
      · refine lv_iconst (v := (nI 0)) hx hb dX3_merge_57 (by decide) ?_
        refine lv_istore_n (lv' := [(3, Value.int (nI 0)), (0, Value.ref (a 1)), (1, Value.int (nI u)), (2, Value.int (nI w))]) hx hb dX3_merge_58 rfl hl (by decide) rfl (fun ls hl => ?_)
        have lp59 : ∀ (f59 : Nat) (S2 : St) (so : Nat), so ≤ 6 → bmF u w f59 so S2 = mgS S u w → 7 ≤ so + f59 → cbd S2 → ∀ (H : Heap) (locs : List Loc), va_P D vwCl (clW g a S2) H → va_S (cA a) s.heap H locs → ∀ (ls : Array Slot), lv_has ls 7 [(3, Value.int (nI so)), (0, Value.ref (a 1)), (1, Value.int (nI u)), (2, Value.int (nI w))] → W p l e (headSpec wsX3_merge ({ frames := 1, cells := 0, slots := 0, locals := 30 } : Room)).room s m ([Value.ref (a 1), Value.int (nI u), Value.int (nI w)] : List Value).toArray below meth c H locs 0 0 (MQ below (wQ none D vwCl (clW g a (mgS S u w)) (cA a) (cbd (mgS S u w))) ([Value.ref (a 1), Value.int (nI u), Value.int (nI w)] : List Value).toArray s 0 0 (cA a)) (F0 m 59 ls []) := by
          intro f59
          induction f59 with
          | zero =>
            intro S2 so hso hv2 hfu
            exact absurd hfu (by omega)
          | succ f59 ih59 =>
            intro S2 so hso hv2 hfu hB H locs hP hS ls hl
            refine lv_iload_n hx hb dX3_merge_59 rfl (lv_at hl 0 rfl) ?_
            refine lv_bipush (v := (nI 6)) hx hb dX3_merge_60 (by decide) ?_
            refine r_icmp_ge (tgt := 111) hx hb dX3_merge_62 (by decide) (by omega) (by omega) (fun c62 => ?_) (fun c62 => ?_)
            · have hs9 : S2 = (mgS S u w) := by rw [← hv2]; simp only [mgF, mgf, bmF, if_pos c14, if_pos c62]
              exact W.vret hx hb hr (fun t ht hW => ⟨rfl, by rw [ht, ← hs9]; exact hP, hS.F ht, by rw [← hs9]; exact hB⟩) hS.2.2 dX3_merge_111
            · refine lv_aload_n hx hb dX3_merge_65 rfl (lv_at hl 1 rfl) ?_
              refine va_get (D := D) (ci := 3) (v := Value.ref (a 11)) (C := "ReaderRows$Readers") (T := TX3) (N := 6) hx hb ht inX3 hown hK hP 1 rfl rfl 5 (by decide) (ht _ m_29) (fun _ h9 => h9) rfl dX3_merge_66 ?_
              refine lv_iload_n hx hb dX3_merge_69 rfl (lv_at hl 2 rfl) ?_
              refine lv_bipush (v := (nI 6)) hx hb dX3_merge_70 (by decide) ?_
              refine r_imul hx hb dX3_merge_72 ?_
              refine lv_iload_n hx hb dX3_merge_73 rfl (lv_at hl 0 rfl) ?_
              refine r_iadd hx hb dX3_merge_74 ?_
              refine r_lald_y (f := yv S2 0) hx hb hK hP 11 5 rfl rfl (i := ((u * 6) + so)) (show _ < 366 by first | omega | (simp only [Nat.lt_iff_add_one_le] at *; omega)) (by decide) dX3_merge_75 ?_
              refine lv_lstore (lv' := [(4, Value.long (yv S2 0 ((u * 6) + so))), (3, Value.int (nI so)), (0, Value.ref (a 1)), (1, Value.int (nI u)), (2, Value.int (nI w))]) hx hb dX3_merge_76 hl (by decide) rfl (fun ls hl => ?_)
              refine lv_iload_n hx hb dX3_merge_78 rfl (lv_at hl 4 rfl) ?_
              refine lv_bipush (v := (nI 6)) hx hb dX3_merge_79 (by decide) ?_
              refine r_imul hx hb dX3_merge_81 ?_
              refine lv_iload_n hx hb dX3_merge_82 rfl (lv_at hl 1 rfl) ?_
              refine r_iadd hx hb dX3_merge_83 ?_
              refine lv_istore (lv' := [(6, Value.int (nI ((w * 6) + so))), (4, Value.long (yv S2 0 ((u * 6) + so))), (3, Value.int (nI so)), (0, Value.ref (a 1)), (1, Value.int (nI u)), (2, Value.int (nI w))]) hx hb dX3_merge_84 hl (by decide) rfl (fun ls hl => ?_)
              refine lv_aload_n hx hb dX3_merge_86 rfl (lv_at hl 3 rfl) ?_
              refine va_get (D := D) (ci := 3) (v := Value.ref (a 11)) (C := "ReaderRows$Readers") (T := TX3) (N := 6) hx hb ht inX3 hown hK hP 1 rfl rfl 5 (by decide) (ht _ m_29) (fun _ h9 => h9) rfl dX3_merge_87 ?_
              refine lv_iload hx hb dX3_merge_90 (lv_at hl 0 rfl) ?_
              refine lv_aload_n hx hb dX3_merge_92 rfl (lv_at hl 3 rfl) ?_
              refine va_get (D := D) (ci := 3) (v := Value.ref (a 11)) (C := "ReaderRows$Readers") (T := TX3) (N := 6) hx hb ht inX3 hown hK hP 1 rfl rfl 5 (by decide) (ht _ m_29) (fun _ h9 => h9) rfl dX3_merge_93 ?_
              refine lv_iload hx hb dX3_merge_96 (lv_at hl 0 rfl) ?_
              refine r_lald_y (f := yv S2 0) hx hb hK hP 11 5 rfl rfl (i := ((w * 6) + so)) (show _ < 366 by first | omega | (simp only [Nat.lt_iff_add_one_le] at *; omega)) (by decide) dX3_merge_98 ?_
              refine lv_lload hx hb dX3_merge_99 (lv_at hl 1 rfl) ?_
              refine va_mmax_long hx hb (by rw [hml]; exact hl.1.symm) hown (ht _ m_330) (ht _ m_331) (ht _ m_8) (ht _ m_332) (Nat.le_of_ble_eq_true rfl) (Nat.le_of_ble_eq_true rfl) (Nat.zero_le _) (Nat.zero_le _) dX3_merge_101 ?_
              refine r_last_y (f := yv S2 0) hx hb hK hP (hD _) hS 11 5 rfl rfl (i := ((w * 6) + so)) (x := (if (yv S2 0 ((u * 6) + so)) < (yv S2 0 ((w * 6) + so)) then (yv S2 0 ((w * 6) + so)) else (yv S2 0 ((u * 6) + so)))) (show _ < 366 by omega) (by decide) dX3_merge_104 (fun H locs hP hD1 hS => ?_)
              have hP : va_P D vwCl (clW g a (sy S2 0 ((w * 6) + so) (if (yv S2 0 ((u * 6) + so)) < (yv S2 0 ((w * 6) + so)) then (yv S2 0 ((w * 6) + so)) else (yv S2 0 ((u * 6) + so))))) H := hP
              clear hD1
              have hB : cbd (sy S2 0 ((w * 6) + so) (if (yv S2 0 ((u * 6) + so)) < (yv S2 0 ((w * 6) + so)) then (yv S2 0 ((w * 6) + so)) else (yv S2 0 ((u * 6) + so)))) := bd_sy hB
              refine lv_iinc (v := (nI (so + 1))) (lv' := [(3, Value.int (nI (so + 1))), (6, Value.int (nI ((w * 6) + so))), (4, Value.long (yv S2 0 ((u * 6) + so))), (0, Value.ref (a 1)), (1, Value.int (nI u)), (2, Value.int (nI w))]) hx hb dX3_merge_105 hl (k := 2) rfl (r_inc1 _) (by decide) rfl (fun ls hl => ?_)
              refine lv_goto (tgt := 59) hx hb dX3_merge_108 (by decide) ?_
              exact ih59 (sy S2 0 ((w * 6) + so) (if (yv S2 0 ((u * 6) + so)) < (yv S2 0 ((w * 6) + so)) then (yv S2 0 ((w * 6) + so)) else (yv S2 0 ((u * 6) + so)))) (so + 1) (by omega) (by (simp only [mgF, mgf, bmF, if_pos c14, if_neg c62] at hv2; exact hv2)) (by omega) hB _ _ hP hS ls (lv_sub hl [0, 3, 4, 5] rfl)
        exact lp59 7 S1 0 (by omega) (by rw [mgS, ← hv]; simp only [mgF, if_pos c14]) (by omega) hB _ _ hP hS ls (lv_sub hl [0, 1, 2, 3] rfl)
      · refine lv_aload_n hx hb dX3_merge_17 rfl (lv_at hl 1 rfl) ?_
        refine va_get (D := D) (ci := 3) (v := Value.ref (a 7)) (C := "ReaderRows$Readers") (T := TX3) (N := 6) hx hb ht inX3 hown hK hP 1 rfl rfl 1 (by decide) (ht _ m_25) (fun _ h9 => h9) rfl dX3_merge_18 ?_
        refine lv_iload_n hx hb dX3_merge_21 rfl (lv_at hl 0 rfl) ?_
        refine r_iald_n (f := av S1 0) hx hb hK hP 7 1 rfl rfl (i := n) (show _ < 61 by first | omega | (simp only [Nat.lt_iff_add_one_le] at *; omega)) (by decide) dX3_merge_22 ?_
        have b_V0_22 : av S1 0 n ≤ 60 := hB.2 0 n
        refine lv_iload_n hx hb dX3_merge_23 rfl (lv_at hl 2 rfl) ?_
        refine r_icmp_ne (tgt := 34) hx hb dX3_merge_24 (by decide) (by omega) (by omega) (fun c24 => ?_) (fun c24 => ?_)
        · refine lv_aload_n hx hb dX3_merge_34 rfl (lv_at hl 1 rfl) ?_
          refine va_get (D := D) (ci := 3) (v := Value.ref (a 9)) (C := "ReaderRows$Readers") (T := TX3) (N := 6) hx hb ht inX3 hown hK hP 1 rfl rfl 3 (by decide) (ht _ m_27) (fun _ h9 => h9) rfl dX3_merge_35 ?_
          refine lv_iload_n hx hb dX3_merge_38 rfl (lv_at hl 0 rfl) ?_
          refine r_iald_n (f := av S1 2) hx hb hK hP 9 3 rfl rfl (i := n) (show _ < 61 by first | omega | (simp only [Nat.lt_iff_add_one_le] at *; omega)) (by decide) dX3_merge_39 ?_
          have b_V2_39 : av S1 2 n ≤ 60 := hB.2 2 n
          refine lv_iload_n hx hb dX3_merge_40 rfl (lv_at hl 2 rfl) ?_
          refine r_icmp_ne (tgt := 51) hx hb dX3_merge_41 (by decide) (by omega) (by omega) (fun c41 => ?_) (fun c41 => ?_)
          · refine lv_iinc (v := (nI (n + 1))) (lv' := [(3, Value.int (nI (n + 1))), (0, Value.ref (a 1)), (1, Value.int (nI u)), (2, Value.int (nI w))]) hx hb dX3_merge_51 hl (k := 0) rfl (r_inc1 _) (by decide) rfl (fun ls hl => ?_)
            refine lv_goto (tgt := 9) hx hb dX3_merge_54 (by decide) ?_
            exact ih9 S1 (n + 1) (by exact hc) (by omega) (by omega) (by (simp only [mgF, mgf, bmF, if_neg c14, if_neg c24, if_neg c41] at hv; exact hv)) (by omega) hB _ _ hP hS ls (lv_sub hl [0, 1, 2, 3] rfl)
          · refine lv_aload_n hx hb dX3_merge_44 rfl (lv_at hl 1 rfl) ?_
            refine va_get (D := D) (ci := 3) (v := Value.ref (a 9)) (C := "ReaderRows$Readers") (T := TX3) (N := 6) hx hb ht inX3 hown hK hP 1 rfl rfl 3 (by decide) (ht _ m_27) (fun _ h9 => h9) rfl dX3_merge_45 ?_
            refine lv_iload_n hx hb dX3_merge_48 rfl (lv_at hl 0 rfl) ?_
            refine lv_iload_n hx hb dX3_merge_49 rfl (lv_at hl 3 rfl) ?_
            refine r_iast_n (f := av S1 2) hx hb hK hP (hD _) hS 9 3 rfl rfl (i := n) (x := w) (show _ < 61 by omega) (by decide) dX3_merge_50 (fun H locs hP hD1 hS => ?_)
            have hP : va_P D vwCl (clW g a (sa S1 2 n w)) H := hP
            clear hD1
            have hB : cbd (sa S1 2 n w) := bd_sa hB (show w ≤ 60 by first | assumption | omega)
            refine lv_iinc (v := (nI (n + 1))) (lv' := [(3, Value.int (nI (n + 1))), (0, Value.ref (a 1)), (1, Value.int (nI u)), (2, Value.int (nI w))]) hx hb dX3_merge_51 hl (k := 0) rfl (r_inc1 _) (by decide) rfl (fun ls hl => ?_)
            refine lv_goto (tgt := 9) hx hb dX3_merge_54 (by decide) ?_
            exact ih9 (sa S1 2 n w) (n + 1) (by exact hc) (by omega) (by omega) (by (simp only [mgF, mgf, bmF, if_neg c14, if_neg c24, if_pos c41] at hv; exact hv)) (by omega) hB _ _ hP hS ls (lv_sub hl [0, 1, 2, 3] rfl)
        · refine lv_aload_n hx hb dX3_merge_27 rfl (lv_at hl 1 rfl) ?_
          refine va_get (D := D) (ci := 3) (v := Value.ref (a 7)) (C := "ReaderRows$Readers") (T := TX3) (N := 6) hx hb ht inX3 hown hK hP 1 rfl rfl 1 (by decide) (ht _ m_25) (fun _ h9 => h9) rfl dX3_merge_28 ?_
          refine lv_iload_n hx hb dX3_merge_31 rfl (lv_at hl 0 rfl) ?_
          refine lv_iload_n hx hb dX3_merge_32 rfl (lv_at hl 3 rfl) ?_
          refine r_iast_n (f := av S1 0) hx hb hK hP (hD _) hS 7 1 rfl rfl (i := n) (x := w) (show _ < 61 by omega) (by decide) dX3_merge_33 (fun H locs hP hD1 hS => ?_)
          have hP : va_P D vwCl (clW g a (sa S1 0 n w)) H := hP
          clear hD1
          have hB : cbd (sa S1 0 n w) := bd_sa hB (show w ≤ 60 by first | assumption | omega)
          refine lv_aload_n hx hb dX3_merge_34 rfl (lv_at hl 1 rfl) ?_
          refine va_get (D := D) (ci := 3) (v := Value.ref (a 9)) (C := "ReaderRows$Readers") (T := TX3) (N := 6) hx hb ht inX3 hown hK hP 1 rfl rfl 3 (by decide) (ht _ m_27) (fun _ h9 => h9) rfl dX3_merge_35 ?_
          refine lv_iload_n hx hb dX3_merge_38 rfl (lv_at hl 0 rfl) ?_
          refine r_iald_n (f := av S1 2) hx hb hK hP 9 3 rfl rfl (i := n) (show _ < 61 by first | omega | (simp only [Nat.lt_iff_add_one_le] at *; omega)) (by decide) dX3_merge_39 ?_
          have b_V2_39 : av S1 2 n ≤ 60 := hB.2 2 n
          refine lv_iload_n hx hb dX3_merge_40 rfl (lv_at hl 2 rfl) ?_
          refine r_icmp_ne (tgt := 51) hx hb dX3_merge_41 (by decide) (by omega) (by omega) (fun c41 => ?_) (fun c41 => ?_)
          · refine lv_iinc (v := (nI (n + 1))) (lv' := [(3, Value.int (nI (n + 1))), (0, Value.ref (a 1)), (1, Value.int (nI u)), (2, Value.int (nI w))]) hx hb dX3_merge_51 hl (k := 0) rfl (r_inc1 _) (by decide) rfl (fun ls hl => ?_)
            refine lv_goto (tgt := 9) hx hb dX3_merge_54 (by decide) ?_
            exact ih9 (sa S1 0 n w) (n + 1) (by exact hc) (by omega) (by omega) (by (simp only [mgF, mgf, bmF, if_neg c14, if_pos c24, if_neg c41] at hv; exact hv)) (by omega) hB _ _ hP hS ls (lv_sub hl [0, 1, 2, 3] rfl)
          · refine lv_aload_n hx hb dX3_merge_44 rfl (lv_at hl 1 rfl) ?_
            refine va_get (D := D) (ci := 3) (v := Value.ref (a 9)) (C := "ReaderRows$Readers") (T := TX3) (N := 6) hx hb ht inX3 hown hK hP 1 rfl rfl 3 (by decide) (ht _ m_27) (fun _ h9 => h9) rfl dX3_merge_45 ?_
            refine lv_iload_n hx hb dX3_merge_48 rfl (lv_at hl 0 rfl) ?_
            refine lv_iload_n hx hb dX3_merge_49 rfl (lv_at hl 3 rfl) ?_
            refine r_iast_n (f := av S1 2) hx hb hK hP (hD _) hS 9 3 rfl rfl (i := n) (x := w) (show _ < 61 by omega) (by decide) dX3_merge_50 (fun H locs hP hD1 hS => ?_)
            have hP : va_P D vwCl (clW g a (sa (sa S1 0 n w) 2 n w)) H := hP
            clear hD1
            have hB : cbd (sa (sa S1 0 n w) 2 n w) := bd_sa hB (show w ≤ 60 by first | assumption | omega)
            refine lv_iinc (v := (nI (n + 1))) (lv' := [(3, Value.int (nI (n + 1))), (0, Value.ref (a 1)), (1, Value.int (nI u)), (2, Value.int (nI w))]) hx hb dX3_merge_51 hl (k := 0) rfl (r_inc1 _) (by decide) rfl (fun ls hl => ?_)
            refine lv_goto (tgt := 9) hx hb dX3_merge_54 (by decide) ?_
            exact ih9 (sa (sa S1 0 n w) 2 n w) (n + 1) (by exact hc) (by omega) (by omega) (by (simp only [mgF, mgf, bmF, if_neg c14, if_pos c24, if_pos c41] at hv; exact hv)) (by omega) hB _ _ hP hS ls (lv_sub hl [0, 1, 2, 3] rfl)
  exact lp9 (nv S 0 + 1) (sa S 2 u 0) 1 (by rfl) (by omega) (by omega) (by rfl) (by omega) hB _ _ hP hS ls (lv_sub hl [0, 1, 2, 3] rfl)
end
section
set_option maxRecDepth 100000 in
set_option maxHeartbeats 4000000 in
theorem c_ro_collect (l : Launch) (D : va_G) (g : Nat → ClassId) (a : Nat → Nat) (hD : ∀ S : St, va_D (cA a) (clW g a S))  (S : St) (hB : cbd S) (ch : Nat) (hc : ch ≤ 255) : Met l yX4_collect wsX4_collect ({ frames := 0, cells := 0, slots := 0, locals := 0 } : Room) (va_Pc [Value.ref (a 5), Value.int (nI ch)] (wPre D vwCl (clW g a S) (clT g))) (wQ none D vwCl (clW g a (rcS S ch)) (cA a) (cbd (rcS S ch))) 0 0 (cA a) := by
  refine Met.ofW (cc := cX4_collect) (maxL := 2) (ret := none) (by decide) rfl ?_
  intro p e s m args below meth c s₁ B hml hv
  obtain ⟨rfl, hP, hK⟩ := hv
  have hx := B.exec
  have hb := B.bytes
  have hr := B.returns
  have hts := atoms_spec (ws := wsX4_collect) B.pre
  have ht := fun (w : Cond) (h : w ∈ lw_g) => hts w (List.mem_cons_of_mem _ h)
  have hown : s.vm.findClass "ReaderRows$Row" = some m.cls := findClass_of_methodNamed B.named
  have hlocks := B.notSynchronized
  have hS : va_S (cA a) s.heap s.heap [] := va_S.rf
  have hl := lv_entry ([Value.ref (a 5), Value.int (nI ch)]) (n := 2) (Nat.le_of_ble_eq_true rfl)
  rw [lg_entry_eq]
  generalize (lg_sl ([Value.ref (a 5), Value.int (nI ch)]) ++ List.replicate (2 - (lg_sl ([Value.ref (a 5), Value.int (nI ch)])).length) Slot.unset).toArray = ls at hl ⊢
  have hl : lv_has ls 2 [(0, Value.ref (a 5)), (1, Value.int (nI ch))] := hl
  refine lv_aload_n hx hb dX4_collect_0 rfl (lv_at hl 0 rfl) ?_
  refine va_get (D := D) (ci := 4) (v := Value.int (nI (nv S 3))) (C := "ReaderRows$Row") (T := TX4) (N := 5) hx hb ht inX4 hown hK hP 5 rfl rfl 0 (by decide) (ht _ m_122) (fun _ h9 => h9) rfl dX4_collect_1 ?_
  have b_N3 : nv S 3 ≤ 40 := hB.1 3
  refine lv_bipush (v := (nI 40)) hx hb dX4_collect_4 (by decide) ?_
  refine r_icmp_ge (tgt := 29) hx hb dX4_collect_6 (by decide) (by omega) (by omega) (fun c6 => ?_) (fun c6 => ?_)
  · have hs9 : S = (rcS S ch) := by first | (simp only [rcS, if_pos c6]; done) | (with_reducible rfl) | (simp only [rcS, if_pos c6]; rfl) | rfl | (simp [rcS, c6]; done)
    exact W.vret hx hb hr (fun t ht hW => ⟨rfl, by rw [ht, ← hs9]; exact hP, hS.F ht, by rw [← hs9]; exact hB⟩) hS.2.2 dX4_collect_29
  · refine lv_aload_n hx hb dX4_collect_9 rfl (lv_at hl 0 rfl) ?_
    refine va_get (D := D) (ci := 4) (v := Value.ref (a 26)) (C := "ReaderRows$Row") (T := TX4) (N := 5) hx hb ht inX4 hown hK hP 5 rfl rfl 4 (by decide) (ht _ m_126) (fun _ h9 => h9) rfl dX4_collect_10 ?_
    refine lv_aload_n hx hb dX4_collect_13 rfl (lv_at hl 0 rfl) ?_
    refine va_get (D := D) (ci := 4) (v := Value.int (nI (nv S 3))) (C := "ReaderRows$Row") (T := TX4) (N := 5) hx hb ht inX4 hown hK hP 5 rfl rfl 0 (by decide) (ht _ m_122) (fun _ h9 => h9) rfl dX4_collect_14 ?_
    have b_N3 : nv S 3 ≤ 40 := hB.1 3
    refine lv_iload_n hx hb dX4_collect_17 rfl (lv_at hl 1 rfl) ?_
    refine r_iast_n (f := av S 14) hx hb hK hP (hD _) hS 26 20 rfl rfl (i := (nv S 3)) (x := ch) (show _ < 40 by omega) (by decide) dX4_collect_18 (fun H locs hP hD1 hS => ?_)
    have hP : va_P D vwCl (clW g a (sa S 14 (nv S 3) ch)) H := hP
    clear hD1
    have hB : cbd (sa S 14 (nv S 3) ch) := bd_sa hB (show ch ≤ 255 by first | assumption | omega)
    refine lv_aload_n hx hb dX4_collect_19 rfl (lv_at hl 0 rfl) ?_
    refine lv_dup hx hb dX4_collect_20 rfl ?_
    refine va_get (D := D) (ci := 4) (v := Value.int (nI (nv S 3))) (C := "ReaderRows$Row") (T := TX4) (N := 5) hx hb ht inX4 hown hK hP 5 rfl rfl 0 (by decide) (ht _ m_122) (fun _ h9 => h9) rfl dX4_collect_21 ?_
    have b_N3 : nv S 3 ≤ 40 := hB.1 3
    refine lv_iconst (v := (nI 1)) hx hb dX4_collect_24 (by decide) ?_
    refine r_iadd hx hb dX4_collect_25 ?_
    refine va_put (D := D) (ci := 4) (v := Value.int (nI ((nv S 3) + 1))) (ty := .int) (C := "ReaderRows$Row") (T := TX4) (N := 5) hx hb ht inX4 tyX4 tyX4_ok nmX4 hown hK hP (hD _) hS 5 rfl rfl 0 (by decide) (ht _ m_122) (fun _ h9 => h9) rfl (by decide +kernel) rfl rfl (Nat.le_of_ble_eq_true rfl) dX4_collect_26 (fun H locs hP hD1 hS => ?_)
    have hP : va_P D vwCl (clW g a (sn (sa S 14 (nv S 3) ch) 3 ((nv S 3) + 1))) H := hP
    clear hD1
    have hB : cbd (sn (sa S 14 (nv S 3) ch) 3 ((nv S 3) + 1)) := bd_sn hB (show (nv S 3) + 1 ≤ 40 by first | assumption | omega)
    have hs9 : (sn (sa S 14 (nv S 3) ch) 3 ((nv S 3) + 1)) = (rcS S ch) := by first | (simp only [rcS, if_neg c6]; done) | (with_reducible rfl) | (simp only [rcS, if_neg c6]; rfl) | rfl | (simp [rcS, c6]; done)
    exact W.vret hx hb hr (fun t ht hW => ⟨rfl, by rw [ht, ← hs9]; exact hP, hS.F ht, by rw [← hs9]; exact hB⟩) hS.2.2 dX4_collect_29

set_option maxRecDepth 100000 in
set_option maxHeartbeats 4000000 in
theorem c_ro_clear (l : Launch) (D : va_G) (g : Nat → ClassId) (a : Nat → Nat) (hD : ∀ S : St, va_D (cA a) (clW g a S))  (S : St) (hB : cbd S)  : Met l yX4_clear wsX4_clear ({ frames := 0, cells := 0, slots := 0, locals := 0 } : Room) (va_Pc [Value.ref (a 5)] (wPre D vwCl (clW g a S) (clT g))) (wQ none D vwCl (clW g a (sn S 3 0)) (cA a) (cbd (sn S 3 0))) 0 0 (cA a) := by
  refine Met.ofW (cc := cX4_clear) (maxL := 1) (ret := none) (by decide) rfl ?_
  intro p e s m args below meth c s₁ B hml hv
  obtain ⟨rfl, hP, hK⟩ := hv
  have hx := B.exec
  have hb := B.bytes
  have hr := B.returns
  have hts := atoms_spec (ws := wsX4_clear) B.pre
  have ht := fun (w : Cond) (h : w ∈ lw_g) => hts w (List.mem_cons_of_mem _ h)
  have hown : s.vm.findClass "ReaderRows$Row" = some m.cls := findClass_of_methodNamed B.named
  have hlocks := B.notSynchronized
  have hS : va_S (cA a) s.heap s.heap [] := va_S.rf
  have hl := lv_entry ([Value.ref (a 5)]) (n := 1) (Nat.le_of_ble_eq_true rfl)
  rw [lg_entry_eq]
  generalize (lg_sl ([Value.ref (a 5)]) ++ List.replicate (1 - (lg_sl ([Value.ref (a 5)])).length) Slot.unset).toArray = ls at hl ⊢
  have hl : lv_has ls 1 [(0, Value.ref (a 5))] := hl
  refine lv_aload_n hx hb dX4_clear_0 rfl (lv_at hl 0 rfl) ?_
  refine lv_iconst (v := (nI 0)) hx hb dX4_clear_1 (by decide) ?_
  refine va_put (D := D) (ci := 4) (v := Value.int (nI 0)) (ty := .int) (C := "ReaderRows$Row") (T := TX4) (N := 5) hx hb ht inX4 tyX4 tyX4_ok nmX4 hown hK hP (hD _) hS 5 rfl rfl 0 (by decide) (ht _ m_122) (fun _ h9 => h9) rfl (by decide +kernel) rfl rfl (Nat.le_of_ble_eq_true rfl) dX4_clear_2 (fun H locs hP hD1 hS => ?_)
  have hP : va_P D vwCl (clW g a (sn S 3 0)) H := hP
  clear hD1
  have hB : cbd (sn S 3 0) := bd_sn hB (show 0 ≤ 40 by first | assumption | omega)
  have hs9 : (sn S 3 0) = (sn S 3 0) := by first | (simp only [Nat.add_zero, Nat.add_zero]; done) | (with_reducible rfl) | (simp only [Nat.add_zero, Nat.add_zero]; rfl) | rfl | (simp [Nat.add_zero, Nat.add_zero]; done)
  exact W.vret hx hb hr (fun t ht hW => ⟨rfl, by rw [ht, ← hs9]; exact hP, hS.F ht, by rw [← hs9]; exact hB⟩) hS.2.2 dX4_clear_5

set_option maxRecDepth 100000 in
set_option maxHeartbeats 4000000 in
theorem c_ro_signAt (l : Launch) (D : va_G) (g : Nat → ClassId) (a : Nat → Nat)  (S : St) (hB : cbd S) (k : Nat) (hk : k ≤ 100) : Met l yX4_signAt wsX4_signAt ({ frames := 0, cells := 0, slots := 0, locals := 0 } : Room) (va_Pc [Value.ref (a 5), Value.int (nI k)] (wPre D vwCl (clW g a S) (clT g))) (k2_QcV (Value.int (sg S k))) 0 0 (fun _ => False) := by
  refine Met.ofW (cc := cX4_signAt) (maxL := 2) (ret := (some .int)) (by decide) rfl ?_
  intro p e s m args below meth c s₁ B hml hv
  obtain ⟨rfl, hP, hK⟩ := hv
  have hx := B.exec
  have hb := B.bytes
  have hr := B.returns
  have hts := atoms_spec (ws := wsX4_signAt) B.pre
  have ht := fun (w : Cond) (h : w ∈ lw_g) => hts w (List.mem_cons_of_mem _ h)
  have hown : s.vm.findClass "ReaderRows$Row" = some m.cls := findClass_of_methodNamed B.named
  have hlocks := B.notSynchronized
  have hl := lv_entry ([Value.ref (a 5), Value.int (nI k)]) (n := 2) (Nat.le_of_ble_eq_true rfl)
  rw [lg_entry_eq]
  generalize (lg_sl ([Value.ref (a 5), Value.int (nI k)]) ++ List.replicate (2 - (lg_sl ([Value.ref (a 5), Value.int (nI k)])).length) Slot.unset).toArray = ls at hl ⊢
  have hl : lv_has ls 2 [(0, Value.ref (a 5)), (1, Value.int (nI k))] := hl
  refine lv_iload_n hx hb dX4_signAt_0 rfl (lv_at hl 1 rfl) ?_
  refine r_if_lt_n (tgt := 21) hx hb dX4_signAt_1 (by decide) (by omega) (fun c1 => ?_) (fun c1 => ?_)
  · exact absurd c1 (Nat.not_lt_zero _)
  · refine lv_iload_n hx hb dX4_signAt_4 rfl (lv_at hl 1 rfl) ?_
    refine lv_aload_n hx hb dX4_signAt_5 rfl (lv_at hl 0 rfl) ?_
    refine va_get (D := D) (ci := 4) (v := Value.int (nI (nv S 3))) (C := "ReaderRows$Row") (T := TX4) (N := 5) hx hb ht inX4 hown hK hP 5 rfl rfl 0 (by decide) (ht _ m_122) (fun _ h9 => h9) rfl dX4_signAt_6 ?_
    have b_N3 : nv S 3 ≤ 40 := hB.1 3
    refine r_icmp_ge (tgt := 21) hx hb dX4_signAt_9 (by decide) (by omega) (by omega) (fun c9 => ?_) (fun c9 => ?_)
    · refine lv_iconst (v := (-1)) hx hb dX4_signAt_21 (by decide) ?_
      have hv9 : (-1) = (sg S k) := by first | (simp only [sg, if_neg c1, if_pos c9]; done) | (with_reducible rfl) | (simp only [sg, if_neg c1, if_pos c9]; rfl) | rfl | (simp [sg, c1, c9]; done)
      exact W.iret (v := (-1)) hx hb hr (fun t ht hW => ⟨congrArg (fun z => Outcome.returned (some (Value.int z))) hv9, ht⟩) (fun _ h => by cases h) dX4_signAt_22
    · refine lv_aload_n hx hb dX4_signAt_12 rfl (lv_at hl 0 rfl) ?_
      refine va_get (D := D) (ci := 4) (v := Value.ref (a 26)) (C := "ReaderRows$Row") (T := TX4) (N := 5) hx hb ht inX4 hown hK hP 5 rfl rfl 4 (by decide) (ht _ m_126) (fun _ h9 => h9) rfl dX4_signAt_13 ?_
      refine lv_iload_n hx hb dX4_signAt_16 rfl (lv_at hl 1 rfl) ?_
      refine r_iald_n (f := av S 14) hx hb hK hP 26 20 rfl rfl (i := k) (show _ < 40 by first | omega | (simp only [Nat.lt_iff_add_one_le] at *; omega)) (by decide) dX4_signAt_17 ?_
      have b_V14_17 : av S 14 k ≤ 255 := hB.2 14 k
      refine lv_goto (tgt := 22) hx hb dX4_signAt_18 (by decide) ?_
      have hv9 : (nI (av S 14 k)) = (sg S k) := by first | (simp only [sg, if_neg c1, if_neg c9]; done) | (with_reducible rfl) | (simp only [sg, if_neg c1, if_neg c9]; rfl) | rfl | (simp [sg, c1, c9]; done)
      exact W.iret (v := (nI (av S 14 k))) hx hb hr (fun t ht hW => ⟨congrArg (fun z => Outcome.returned (some (Value.int z))) hv9, ht⟩) (fun _ h => by cases h) dX4_signAt_22

theorem c_ro_signAt_in (l : Launch) (D : va_G) (g : Nat → ClassId) (a : Nat → Nat) (S : St) (hB : cbd S) (k : Nat) (hk : k < nv S 3) : Met l yX4_signAt wsX4_signAt ({ frames := 0, cells := 0, slots := 0, locals := 0 } : Room) (va_Pc [Value.ref (a 5), Value.int (nI k)] (wPre D vwCl (clW g a S) (clT g))) (k2_QcV (Value.int (nI (av S 14 k)))) 0 0 (fun _ => False) := by
  have b3 : nv S 3 ≤ 40 := hB.1 3
  have h := c_ro_signAt l D g a S hB k (by omega)
  rw [sg_in hk] at h
  exact h

set_option maxRecDepth 100000 in
set_option maxHeartbeats 4000000 in
theorem c_ro_nameLength (l : Launch) (D : va_G) (g : Nat → ClassId) (a : Nat → Nat)  (S : St) (hB : cbd S)  : Met l yX4_nameLength wsX4_nameLength ({ frames := 0, cells := 0, slots := 0, locals := 0 } : Room) (va_Pc [Value.ref (a 5)] (wPre D vwCl (clW g a S) (clT g))) (k2_QcV (Value.int (nI (nv S 4)))) 0 0 (fun _ => False) := by
  refine Met.ofW (cc := cX4_nameLength) (maxL := 1) (ret := (some .int)) (by decide) rfl ?_
  intro p e s m args below meth c s₁ B hml hv
  obtain ⟨rfl, hP, hK⟩ := hv
  have hx := B.exec
  have hb := B.bytes
  have hr := B.returns
  have hts := atoms_spec (ws := wsX4_nameLength) B.pre
  have ht := fun (w : Cond) (h : w ∈ lw_g) => hts w (List.mem_cons_of_mem _ h)
  have hown : s.vm.findClass "ReaderRows$Row" = some m.cls := findClass_of_methodNamed B.named
  have hlocks := B.notSynchronized
  have hl := lv_entry ([Value.ref (a 5)]) (n := 1) (Nat.le_of_ble_eq_true rfl)
  rw [lg_entry_eq]
  generalize (lg_sl ([Value.ref (a 5)]) ++ List.replicate (1 - (lg_sl ([Value.ref (a 5)])).length) Slot.unset).toArray = ls at hl ⊢
  have hl : lv_has ls 1 [(0, Value.ref (a 5))] := hl
  refine lv_aload_n hx hb dX4_nameLength_0 rfl (lv_at hl 0 rfl) ?_
  refine va_get (D := D) (ci := 4) (v := Value.int (nI (nv S 4))) (C := "ReaderRows$Row") (T := TX4) (N := 5) hx hb ht inX4 hown hK hP 5 rfl rfl 1 (by decide) (ht _ m_123) (fun _ h9 => h9) rfl dX4_nameLength_1 ?_
  have b_N4 : nv S 4 ≤ 12 := hB.1 4
  have hv9 : (nI (nv S 4)) = (nI (nv S 4)) := by first | (simp only [Nat.add_zero, Nat.add_zero]; done) | (with_reducible rfl) | (simp only [Nat.add_zero, Nat.add_zero]; rfl) | rfl | (simp [Nat.add_zero, Nat.add_zero]; done)
  exact W.iret (v := (nI (nv S 4))) hx hb hr (fun t ht hW => ⟨congrArg (fun z => Outcome.returned (some (Value.int z))) hv9, ht⟩) (fun _ h => by cases h) dX4_nameLength_4

set_option maxRecDepth 100000 in
set_option maxHeartbeats 4000000 in
theorem c_ro_kind (l : Launch) (D : va_G) (g : Nat → ClassId) (a : Nat → Nat)  (S : St) (hB : cbd S)  : Met l yX4_kind wsX4_kind ({ frames := 0, cells := 0, slots := 0, locals := 0 } : Room) (va_Pc [Value.ref (a 5)] (wPre D vwCl (clW g a S) (clT g))) (k2_QcV (Value.int (nI (nv S 5)))) 0 0 (fun _ => False) := by
  refine Met.ofW (cc := cX4_kind) (maxL := 1) (ret := (some .int)) (by decide) rfl ?_
  intro p e s m args below meth c s₁ B hml hv
  obtain ⟨rfl, hP, hK⟩ := hv
  have hx := B.exec
  have hb := B.bytes
  have hr := B.returns
  have hts := atoms_spec (ws := wsX4_kind) B.pre
  have ht := fun (w : Cond) (h : w ∈ lw_g) => hts w (List.mem_cons_of_mem _ h)
  have hown : s.vm.findClass "ReaderRows$Row" = some m.cls := findClass_of_methodNamed B.named
  have hlocks := B.notSynchronized
  have hl := lv_entry ([Value.ref (a 5)]) (n := 1) (Nat.le_of_ble_eq_true rfl)
  rw [lg_entry_eq]
  generalize (lg_sl ([Value.ref (a 5)]) ++ List.replicate (1 - (lg_sl ([Value.ref (a 5)])).length) Slot.unset).toArray = ls at hl ⊢
  have hl : lv_has ls 1 [(0, Value.ref (a 5))] := hl
  refine lv_aload_n hx hb dX4_kind_0 rfl (lv_at hl 0 rfl) ?_
  refine va_get (D := D) (ci := 4) (v := Value.int (nI (nv S 5))) (C := "ReaderRows$Row") (T := TX4) (N := 5) hx hb ht inX4 hown hK hP 5 rfl rfl 2 (by decide) (ht _ m_124) (fun _ h9 => h9) rfl dX4_kind_1 ?_
  have b_N5 : nv S 5 ≤ 4 := hB.1 5
  have hv9 : (nI (nv S 5)) = (nI (nv S 5)) := by first | (simp only [Nat.add_zero, Nat.add_zero]; done) | (with_reducible rfl) | (simp only [Nat.add_zero, Nat.add_zero]; rfl) | rfl | (simp [Nat.add_zero, Nat.add_zero]; done)
  exact W.iret (v := (nI (nv S 5))) hx hb hr (fun t ht hW => ⟨congrArg (fun z => Outcome.returned (some (Value.int z))) hv9, ht⟩) (fun _ h => by cases h) dX4_kind_4

set_option maxRecDepth 100000 in
set_option maxHeartbeats 4000000 in
theorem c_ro_year (l : Launch) (D : va_G) (g : Nat → ClassId) (a : Nat → Nat)  (S : St) (hB : cbd S)  : Met l yX4_year wsX4_year ({ frames := 0, cells := 0, slots := 0, locals := 0 } : Room) (va_Pc [Value.ref (a 5)] (wPre D vwCl (clW g a S) (clT g))) (k2_QcV (Value.int (nI (nv S 6)))) 0 0 (fun _ => False) := by
  refine Met.ofW (cc := cX4_year) (maxL := 1) (ret := (some .int)) (by decide) rfl ?_
  intro p e s m args below meth c s₁ B hml hv
  obtain ⟨rfl, hP, hK⟩ := hv
  have hx := B.exec
  have hb := B.bytes
  have hr := B.returns
  have hts := atoms_spec (ws := wsX4_year) B.pre
  have ht := fun (w : Cond) (h : w ∈ lw_g) => hts w (List.mem_cons_of_mem _ h)
  have hown : s.vm.findClass "ReaderRows$Row" = some m.cls := findClass_of_methodNamed B.named
  have hlocks := B.notSynchronized
  have hl := lv_entry ([Value.ref (a 5)]) (n := 1) (Nat.le_of_ble_eq_true rfl)
  rw [lg_entry_eq]
  generalize (lg_sl ([Value.ref (a 5)]) ++ List.replicate (1 - (lg_sl ([Value.ref (a 5)])).length) Slot.unset).toArray = ls at hl ⊢
  have hl : lv_has ls 1 [(0, Value.ref (a 5))] := hl
  refine lv_aload_n hx hb dX4_year_0 rfl (lv_at hl 0 rfl) ?_
  refine va_get (D := D) (ci := 4) (v := Value.int (nI (nv S 6))) (C := "ReaderRows$Row") (T := TX4) (N := 5) hx hb ht inX4 hown hK hP 5 rfl rfl 3 (by decide) (ht _ m_125) (fun _ h9 => h9) rfl dX4_year_1 ?_
  have b_N6 : nv S 6 ≤ 99999 := hB.1 6
  have hv9 : (nI (nv S 6)) = (nI (nv S 6)) := by first | (simp only [Nat.add_zero, Nat.add_zero]; done) | (with_reducible rfl) | (simp only [Nat.add_zero, Nat.add_zero]; rfl) | rfl | (simp [Nat.add_zero, Nat.add_zero]; done)
  exact W.iret (v := (nI (nv S 6))) hx hb hr (fun t ht hW => ⟨congrArg (fun z => Outcome.returned (some (Value.int z))) hv9, ht⟩) (fun _ h => by cases h) dX4_year_4

set_option maxRecDepth 100000 in
set_option maxHeartbeats 4000000 in
theorem c_ro_isAmong (l : Launch) (D : va_G) (g : Nat → ClassId) (a : Nat → Nat)  (S : St) (hB : cbd S) (k lo hi : Nat) (hk : k ≤ 100) (hl0 : lo ≤ 255) (hh : hi ≤ 255) : Met l yX4_isAmong wsX4_isAmong ({ frames := 1, cells := 0, slots := 0, locals := 21 } : Room) (va_Pc [Value.ref (a 5), Value.int (nI k), Value.int (nI lo), Value.int (nI hi)] (wPre D vwCl (clW g a S) (clT g))) (k2_QcV (Value.int (nI (bN (am S k lo hi))))) 0 0 (fun _ => False) := by
  refine Met.ofW (cc := cX4_isAmong) (maxL := 5) (ret := (some .boolean)) (by decide) rfl ?_
  intro p e s m args below meth c s₁ B hml hv
  obtain ⟨rfl, hP, hK⟩ := hv
  have hx := B.exec
  have hb := B.bytes
  have hr := B.returns
  have hts := atoms_spec (ws := wsX4_isAmong) B.pre
  have ht := fun (w : Cond) (h : w ∈ lw_g) => hts w (List.mem_cons_of_mem _ h)
  have hown : s.vm.findClass "ReaderRows$Row" = some m.cls := findClass_of_methodNamed B.named
  have hlocks := B.notSynchronized
  have hl := lv_entry ([Value.ref (a 5), Value.int (nI k), Value.int (nI lo), Value.int (nI hi)]) (n := 5) (Nat.le_of_ble_eq_true rfl)
  rw [lg_entry_eq]
  generalize (lg_sl ([Value.ref (a 5), Value.int (nI k), Value.int (nI lo), Value.int (nI hi)]) ++ List.replicate (5 - (lg_sl ([Value.ref (a 5), Value.int (nI k), Value.int (nI lo), Value.int (nI hi)])).length) Slot.unset).toArray = ls at hl ⊢
  have hl : lv_has ls 5 [(0, Value.ref (a 5)), (1, Value.int (nI k)), (2, Value.int (nI lo)), (3, Value.int (nI hi))] := hl
  refine lv_aload_n hx hb dX4_isAmong_0 rfl (lv_at hl 0 rfl) ?_
  refine lv_iload_n hx hb dX4_isAmong_1 rfl (lv_at hl 1 rfl) ?_
  refine r_callR (r := Value.int (sg S k)) (As := [Value.int (nI k)]) (rest := []) ⟨hx, hb, hml, hown, ht⟩ (c_ro_signAt l D g a S hB k (by omega)) (cwV 1 ht (gdV m_369 m_370 m_371 m_6 m_372) rfl rfl rfl (by decide +kernel) ⟨Nat.le_of_ble_eq_true rfl, Nat.le_of_ble_eq_true rfl⟩) (va_recv hK hP (ci := 4) (q0 := 5) rfl rfl) hP hK rfl hl.1 rfl (Nat.le_of_ble_eq_true rfl) dX4_isAmong_2 ⟨Nat.zero_le _, Nat.zero_le _⟩ ?_
  refine lv_istore (lv' := [(4, Value.int (sg S k)), (0, Value.ref (a 5)), (1, Value.int (nI k)), (2, Value.int (nI lo)), (3, Value.int (nI hi))]) hx hb dX4_isAmong_5 hl (by decide) rfl (fun ls hl => ?_)
  refine lv_iload hx hb dX4_isAmong_7 (lv_at hl 0 rfl) ?_
  refine lv_iload_n hx hb dX4_isAmong_9 rfl (lv_at hl 3 rfl) ?_
  refine lv_icmp_lt (tgt := 23) hx hb dX4_isAmong_10 (by decide) (fun c10 => ?_) (fun c10 => ?_)
  · refine lv_iconst (v := (nI 0)) hx hb dX4_isAmong_23 (by decide) ?_
    have hv9 : (nI 0) = (nI (bN (am S k lo hi))) := by first | exact r_one ⟨c10, c16⟩ | exact r_zero (fun q => q.1 c10) | exact r_zero (fun q => q.2 c16)
    have hn9 : narrow .boolean (Value.int (nI 0)) = Value.int (nI 0) := by exact r_nz (by omega)
    exact W.zret (v := (nI 0)) (ty := .boolean) hx hb hr hn9 (fun t ht hW => ⟨congrArg (fun z => Outcome.returned (some (Value.int z))) hv9, ht⟩) (fun _ h => by cases h) dX4_isAmong_24
  · refine lv_iload hx hb dX4_isAmong_13 (lv_at hl 0 rfl) ?_
    refine lv_iload_n hx hb dX4_isAmong_15 rfl (lv_at hl 4 rfl) ?_
    refine lv_icmp_gt (tgt := 23) hx hb dX4_isAmong_16 (by decide) (fun c16 => ?_) (fun c16 => ?_)
    · refine lv_iconst (v := (nI 0)) hx hb dX4_isAmong_23 (by decide) ?_
      have hv9 : (nI 0) = (nI (bN (am S k lo hi))) := by first | exact r_one ⟨c10, c16⟩ | exact r_zero (fun q => q.1 c10) | exact r_zero (fun q => q.2 c16)
      have hn9 : narrow .boolean (Value.int (nI 0)) = Value.int (nI 0) := by exact r_nz (by omega)
      exact W.zret (v := (nI 0)) (ty := .boolean) hx hb hr hn9 (fun t ht hW => ⟨congrArg (fun z => Outcome.returned (some (Value.int z))) hv9, ht⟩) (fun _ h => by cases h) dX4_isAmong_24
    · refine lv_iconst (v := (nI 1)) hx hb dX4_isAmong_19 (by decide) ?_
      refine lv_goto (tgt := 24) hx hb dX4_isAmong_20 (by decide) ?_
      have hv9 : (nI 1) = (nI (bN (am S k lo hi))) := by first | exact r_one ⟨c10, c16⟩ | exact r_zero (fun q => q.1 c10) | exact r_zero (fun q => q.2 c16)
      have hn9 : narrow .boolean (Value.int (nI 1)) = Value.int (nI 1) := by exact r_nz (by omega)
      exact W.zret (v := (nI 1)) (ty := .boolean) hx hb hr hn9 (fun t ht hW => ⟨congrArg (fun z => Outcome.returned (some (Value.int z))) hv9, ht⟩) (fun _ h => by cases h) dX4_isAmong_24

set_option maxRecDepth 100000 in
set_option maxHeartbeats 4000000 in
theorem c_ro_readName (l : Launch) (D : va_G) (g : Nat → ClassId) (a : Nat → Nat) (hD : ∀ S : St, va_D (cA a) (clW g a S))  (S : St) (hB : cbd S)  : Met l yX4_readName wsX4_readName ({ frames := 2, cells := 0, slots := 0, locals := 45 } : Room) (va_Pc [Value.ref (a 5)] (wPre D vwCl (clW g a S) (clT g))) (wQ none D vwCl (clW g a (sn S 4 (rn S))) (cA a) (cbd (sn S 4 (rn S)))) 0 0 (cA a) := by
  refine Met.ofW (cc := cX4_readName) (maxL := 2) (ret := none) (by decide) rfl ?_
  intro p e s m args below meth c s₁ B hml hv
  obtain ⟨rfl, hP, hK⟩ := hv
  have hx := B.exec
  have hb := B.bytes
  have hr := B.returns
  have hts := atoms_spec (ws := wsX4_readName) B.pre
  have ht := fun (w : Cond) (h : w ∈ lw_g) => hts w (List.mem_cons_of_mem _ h)
  have hown : s.vm.findClass "ReaderRows$Row" = some m.cls := findClass_of_methodNamed B.named
  have hlocks := B.notSynchronized
  have hS : va_S (cA a) s.heap s.heap [] := va_S.rf
  have hl := lv_entry ([Value.ref (a 5)]) (n := 2) (Nat.le_of_ble_eq_true rfl)
  rw [lg_entry_eq]
  generalize (lg_sl ([Value.ref (a 5)]) ++ List.replicate (2 - (lg_sl ([Value.ref (a 5)])).length) Slot.unset).toArray = ls at hl ⊢
  have hl : lv_has ls 2 [(0, Value.ref (a 5))] := hl
  refine lv_iconst (v := (nI 0)) hx hb dX4_readName_0 (by decide) ?_
  refine lv_istore_n (lv' := [(1, Value.int (nI 0)), (0, Value.ref (a 5))]) hx hb dX4_readName_1 rfl hl (by decide) rfl (fun ls hl => ?_)
  have lp2 : ∀ (f2 : Nat) (pl : Nat), pl ≤ 12 → rnF S f2 pl = rn S → 13 ≤ pl + f2 → ∀ (ls : Array Slot), lv_has ls 2 [(1, Value.int (nI pl)), (0, Value.ref (a 5))] → W p l e (headSpec wsX4_readName ({ frames := 2, cells := 0, slots := 0, locals := 45 } : Room)).room s m ([Value.ref (a 5)] : List Value).toArray below meth c s.heap [] 0 0 (MQ below (wQ none D vwCl (clW g a (sn S 4 (rn S))) (cA a) (cbd (sn S 4 (rn S)))) ([Value.ref (a 5)] : List Value).toArray s 0 0 (cA a)) (F0 m 2 ls []) := by
    intro f2
    induction f2 with
    | zero =>
      intro pl hp hv hfu
      exact absurd hfu (by omega)
    | succ f2 ih2 =>
      intro pl hp hv hfu ls hl
      refine lv_iload_n hx hb dX4_readName_2 rfl (lv_at hl 0 rfl) ?_
      refine lv_bipush (v := (nI 12)) hx hb dX4_readName_3 (by decide) ?_
      refine r_icmp_ge (tgt := 26) hx hb dX4_readName_5 (by decide) (by omega) (by omega) (fun c5 => ?_) (fun c5 => ?_)
      · refine lv_aload_n hx hb dX4_readName_26 rfl (lv_at hl 1 rfl) ?_
        refine lv_iload_n hx hb dX4_readName_27 rfl (lv_at hl 0 rfl) ?_
        refine va_put (D := D) (ci := 4) (v := Value.int (nI pl)) (ty := .int) (C := "ReaderRows$Row") (T := TX4) (N := 5) hx hb ht inX4 tyX4 tyX4_ok nmX4 hown hK hP (hD _) hS 5 rfl rfl 1 (by decide) (ht _ m_123) (fun _ h9 => h9) rfl (by decide +kernel) rfl rfl (Nat.le_of_ble_eq_true rfl) dX4_readName_28 (fun H locs hP hD1 hS => ?_)
        have hP : va_P D vwCl (clW g a (sn S 4 pl)) H := hP
        clear hD1
        have hB : cbd (sn S 4 pl) := bd_sn hB (show pl ≤ 12 by first | assumption | omega)
        have hs9 : (sn S 4 pl) = (sn S 4 (rn S)) := by rw [← hv]; simp only [rnF, if_pos c5]
        exact W.vret hx hb hr (fun t ht hW => ⟨rfl, by rw [ht, ← hs9]; exact hP, hS.F ht, by rw [← hs9]; exact hB⟩) hS.2.2 dX4_readName_31
      · refine lv_aload_n hx hb dX4_readName_8 rfl (lv_at hl 1 rfl) ?_
        refine lv_iload_n hx hb dX4_readName_9 rfl (lv_at hl 0 rfl) ?_
        refine lv_bipush (v := (nI 97)) hx hb dX4_readName_10 (by decide) ?_
        refine lv_bipush (v := (nI 122)) hx hb dX4_readName_12 (by decide) ?_
        refine r_callR (r := Value.int (nI (bN (am S pl 97 122)))) (As := [Value.int (nI pl), Value.int (nI 97), Value.int (nI 122)]) (rest := []) ⟨hx, hb, hml, hown, ht⟩ (c_ro_isAmong l D g a S hB pl 97 122 (by omega) (by omega) (by omega)) (cwV 3 ht (gdV m_365 m_367 ms_7 m_6 m_368) rfl rfl rfl (by decide +kernel) ⟨Nat.le_of_ble_eq_true rfl, Nat.le_of_ble_eq_true rfl⟩) (va_recv hK hP (ci := 4) (q0 := 5) rfl rfl) hP hK rfl hl.1 rfl (Nat.le_of_ble_eq_true rfl) dX4_readName_14 ⟨Nat.zero_le _, Nat.zero_le _⟩ ?_
        refine r_if_eq_b (tgt := 26) hx hb dX4_readName_17 (by decide) (fun c17 => ?_) (fun c17 => ?_)
        · refine lv_aload_n hx hb dX4_readName_26 rfl (lv_at hl 1 rfl) ?_
          refine lv_iload_n hx hb dX4_readName_27 rfl (lv_at hl 0 rfl) ?_
          refine va_put (D := D) (ci := 4) (v := Value.int (nI pl)) (ty := .int) (C := "ReaderRows$Row") (T := TX4) (N := 5) hx hb ht inX4 tyX4 tyX4_ok nmX4 hown hK hP (hD _) hS 5 rfl rfl 1 (by decide) (ht _ m_123) (fun _ h9 => h9) rfl (by decide +kernel) rfl rfl (Nat.le_of_ble_eq_true rfl) dX4_readName_28 (fun H locs hP hD1 hS => ?_)
          have hP : va_P D vwCl (clW g a (sn S 4 pl)) H := hP
          clear hD1
          have hB : cbd (sn S 4 pl) := bd_sn hB (show pl ≤ 12 by first | assumption | omega)
          have hs9 : (sn S 4 pl) = (sn S 4 (rn S)) := by rw [← hv]; simp only [rnF, if_neg c5, if_neg c17]
          exact W.vret hx hb hr (fun t ht hW => ⟨rfl, by rw [ht, ← hs9]; exact hP, hS.F ht, by rw [← hs9]; exact hB⟩) hS.2.2 dX4_readName_31
        · refine lv_iinc (v := (nI (pl + 1))) (lv' := [(1, Value.int (nI (pl + 1))), (0, Value.ref (a 5))]) hx hb dX4_readName_20 hl (k := 0) rfl (r_inc1 _) (by decide) rfl (fun ls hl => ?_)
          refine lv_goto (tgt := 2) hx hb dX4_readName_23 (by decide) ?_
          exact ih2 (pl + 1) (by omega) (by (simp only [rnF, if_neg c5, if_pos c17] at hv; exact hv)) (by omega)  ls (lv_sub hl [0, 1] rfl)
  exact lp2 13 0 (by omega) (by rfl) (by omega)  ls (lv_sub hl [0, 1] rfl)

set_option maxRecDepth 100000 in
set_option maxHeartbeats 4000000 in
theorem c_ro_readNameAlone (l : Launch) (D : va_G) (g : Nat → ClassId) (a : Nat → Nat) (hD : ∀ S : St, va_D (cA a) (clW g a S))  (S : St) (hB : cbd S)  : Met l yX4_readNameAlone wsX4_readNameAlone ({ frames := 3, cells := 0, slots := 0, locals := 66 } : Room) (va_Pc [Value.ref (a 5)] (wPre D vwCl (clW g a S) (clT g))) (wQ (some (Value.int (nI (bN (¬ rn S ≤ 0 ∧ rn S = nv S 3))))) D vwCl (clW g a (sn S 4 (rn S))) (cA a) (cbd (sn S 4 (rn S)))) 0 0 (cA a) := by
  refine Met.ofW (cc := cX4_readNameAlone) (maxL := 1) (ret := (some .boolean)) (by decide) rfl ?_
  intro p e s m args below meth c s₁ B hml hv
  obtain ⟨rfl, hP, hK⟩ := hv
  have hx := B.exec
  have hb := B.bytes
  have hr := B.returns
  have hts := atoms_spec (ws := wsX4_readNameAlone) B.pre
  have ht := fun (w : Cond) (h : w ∈ lw_g) => hts w (List.mem_cons_of_mem _ h)
  have hown : s.vm.findClass "ReaderRows$Row" = some m.cls := findClass_of_methodNamed B.named
  have hlocks := B.notSynchronized
  have hS : va_S (cA a) s.heap s.heap [] := va_S.rf
  have hl := lv_entry ([Value.ref (a 5)]) (n := 1) (Nat.le_of_ble_eq_true rfl)
  rw [lg_entry_eq]
  generalize (lg_sl ([Value.ref (a 5)]) ++ List.replicate (1 - (lg_sl ([Value.ref (a 5)])).length) Slot.unset).toArray = ls at hl ⊢
  have hl : lv_has ls 1 [(0, Value.ref (a 5))] := hl
  refine lv_aload_n hx hb dX4_readNameAlone_0 rfl (lv_at hl 0 rfl) ?_
  refine r_callW (st' := []) (As := []) (rest := []) ⟨hx, hb, hml, hown, ht⟩ (c_ro_readName l D g a hD S hB ) (cwV 0 ht (gdV m_361 m_363 ms_6 m_6 m_364) rfl rfl rfl (by decide +kernel) ⟨Nat.le_of_ble_eq_true rfl, Nat.le_of_ble_eq_true rfl⟩) (va_recv hK hP (ci := 4) (q0 := 5) rfl rfl) hP hK rfl hS rfl hl.1 rfl (Nat.le_of_ble_eq_true rfl) dX4_readNameAlone_1 ⟨Nat.zero_le _, Nat.zero_le _⟩ (fun H locs hP hS hB => ?_)
  have b_rn : rn S ≤ 12 := rn_le _
  refine lv_aload_n hx hb dX4_readNameAlone_4 rfl (lv_at hl 0 rfl) ?_
  refine va_get (D := D) (ci := 4) (v := Value.int (nI (rn S))) (C := "ReaderRows$Row") (T := TX4) (N := 5) hx hb ht inX4 hown hK hP 5 rfl rfl 1 (by decide) (ht _ m_123) (fun _ h9 => h9) rfl dX4_readNameAlone_5 ?_
  have b_N4 : rn S ≤ 12 := hB.1 4
  refine r_if_le_n (tgt := 26) hx hb dX4_readNameAlone_8 (by decide) (by omega) (fun c8 => ?_) (fun c8 => ?_)
  · refine lv_iconst (v := (nI 0)) hx hb dX4_readNameAlone_26 (by decide) ?_
    have hv9 : (nI 0) = (nI (bN (¬ rn S ≤ 0 ∧ rn S = nv S 3))) := by first | exact r_one ⟨c8, c19⟩ | exact r_zero (fun q => q.1 c8) | exact r_zero (fun q => c19 q.2)
    have hn9 : narrow .boolean (Value.int (nI 0)) = Value.int (nI 0) := by exact r_nz (by omega)
    have hs9 : (sn S 4 (rn S)) = (sn S 4 (rn S)) := by first | (simp only [Nat.add_zero, if_pos c8]; done) | (with_reducible rfl) | (simp only [Nat.add_zero, if_pos c8]; rfl) | rfl | (simp [Nat.add_zero, c8]; done)
    exact W.zret (v := (nI 0)) (ty := .boolean) hx hb hr hn9 (fun t ht hW => ⟨congrArg (fun z => Outcome.returned (some (Value.int z))) hv9, by rw [ht, ← hs9]; exact hP, hS.F ht, by rw [← hs9]; exact hB⟩) hS.2.2 dX4_readNameAlone_27
  · refine lv_aload_n hx hb dX4_readNameAlone_11 rfl (lv_at hl 0 rfl) ?_
    refine va_get (D := D) (ci := 4) (v := Value.int (nI (rn S))) (C := "ReaderRows$Row") (T := TX4) (N := 5) hx hb ht inX4 hown hK hP 5 rfl rfl 1 (by decide) (ht _ m_123) (fun _ h9 => h9) rfl dX4_readNameAlone_12 ?_
    have b_N4 : rn S ≤ 12 := hB.1 4
    refine lv_aload_n hx hb dX4_readNameAlone_15 rfl (lv_at hl 0 rfl) ?_
    refine va_get (D := D) (ci := 4) (v := Value.int (nI (nv S 3))) (C := "ReaderRows$Row") (T := TX4) (N := 5) hx hb ht inX4 hown hK hP 5 rfl rfl 0 (by decide) (ht _ m_122) (fun _ h9 => h9) rfl dX4_readNameAlone_16 ?_
    have b_N3 : nv S 3 ≤ 40 := hB.1 3
    refine r_icmp_ne (tgt := 26) hx hb dX4_readNameAlone_19 (by decide) (by omega) (by omega) (fun c19 => ?_) (fun c19 => ?_)
    · refine lv_iconst (v := (nI 0)) hx hb dX4_readNameAlone_26 (by decide) ?_
      have hv9 : (nI 0) = (nI (bN (¬ rn S ≤ 0 ∧ rn S = nv S 3))) := by first | exact r_one ⟨c8, c19⟩ | exact r_zero (fun q => q.1 c8) | exact r_zero (fun q => c19 q.2)
      have hn9 : narrow .boolean (Value.int (nI 0)) = Value.int (nI 0) := by exact r_nz (by omega)
      have hs9 : (sn S 4 (rn S)) = (sn S 4 (rn S)) := by first | (simp only [Nat.add_zero, if_neg c8, if_neg c19]; done) | (with_reducible rfl) | (simp only [Nat.add_zero, if_neg c8, if_neg c19]; rfl) | rfl | (simp [Nat.add_zero, c8, c19]; done)
      exact W.zret (v := (nI 0)) (ty := .boolean) hx hb hr hn9 (fun t ht hW => ⟨congrArg (fun z => Outcome.returned (some (Value.int z))) hv9, by rw [ht, ← hs9]; exact hP, hS.F ht, by rw [← hs9]; exact hB⟩) hS.2.2 dX4_readNameAlone_27
    · refine lv_iconst (v := (nI 1)) hx hb dX4_readNameAlone_22 (by decide) ?_
      refine lv_goto (tgt := 27) hx hb dX4_readNameAlone_23 (by decide) ?_
      have hv9 : (nI 1) = (nI (bN (¬ rn S ≤ 0 ∧ rn S = nv S 3))) := by first | exact r_one ⟨c8, c19⟩ | exact r_zero (fun q => q.1 c8) | exact r_zero (fun q => c19 q.2)
      have hn9 : narrow .boolean (Value.int (nI 1)) = Value.int (nI 1) := by exact r_nz (by omega)
      have hs9 : (sn S 4 (rn S)) = (sn S 4 (rn S)) := by first | (simp only [Nat.add_zero, if_neg c8, if_pos c19]; done) | (with_reducible rfl) | (simp only [Nat.add_zero, if_neg c8, if_pos c19]; rfl) | rfl | (simp [Nat.add_zero, c8, c19]; done)
      exact W.zret (v := (nI 1)) (ty := .boolean) hx hb hr hn9 (fun t ht hW => ⟨congrArg (fun z => Outcome.returned (some (Value.int z))) hv9, by rw [ht, ← hs9]; exact hP, hS.F ht, by rw [← hs9]; exact hB⟩) hS.2.2 dX4_readNameAlone_27

set_option maxRecDepth 100000 in
set_option maxHeartbeats 4000000 in
theorem c_ro_readYear (l : Launch) (D : va_G) (g : Nat → ClassId) (a : Nat → Nat) (hD : ∀ S : St, va_D (cA a) (clW g a S))  (S : St) (hB : cbd S) (st : Nat) (hst : st ≤ 20) : Met l yX4_readYear wsX4_readYear ({ frames := 2, cells := 0, slots := 0, locals := 45 } : Room) (va_Pc [Value.ref (a 5), Value.int (nI st)] (wPre D vwCl (clW g a S) (clT g))) (wQ (some (Value.int (ryV S st))) D vwCl (clW g a ((ryP S st).2)) (cA a) (cbd ((ryP S st).2))) 0 0 (cA a) := by
  refine Met.ofW (cc := cX4_readYear) (maxL := 3) (ret := (some .int)) (by decide) rfl ?_
  intro p e s m args below meth c s₁ B hml hv
  obtain ⟨rfl, hP, hK⟩ := hv
  have hx := B.exec
  have hb := B.bytes
  have hr := B.returns
  have hts := atoms_spec (ws := wsX4_readYear) B.pre
  have ht := fun (w : Cond) (h : w ∈ lw_g) => hts w (List.mem_cons_of_mem _ h)
  have hown : s.vm.findClass "ReaderRows$Row" = some m.cls := findClass_of_methodNamed B.named
  have hlocks := B.notSynchronized
  have hS : va_S (cA a) s.heap s.heap [] := va_S.rf
  have hl := lv_entry ([Value.ref (a 5), Value.int (nI st)]) (n := 3) (Nat.le_of_ble_eq_true rfl)
  rw [lg_entry_eq]
  generalize (lg_sl ([Value.ref (a 5), Value.int (nI st)]) ++ List.replicate (3 - (lg_sl ([Value.ref (a 5), Value.int (nI st)])).length) Slot.unset).toArray = ls at hl ⊢
  have hl : lv_has ls 3 [(0, Value.ref (a 5)), (1, Value.int (nI st))] := hl
  refine lv_iload_n hx hb dX4_readYear_0 rfl (lv_at hl 1 rfl) ?_
  refine lv_istore_n (lv' := [(2, Value.int (nI st)), (0, Value.ref (a 5)), (1, Value.int (nI st))]) hx hb dX4_readYear_1 rfl hl (by decide) rfl (fun ls hl => ?_)
  refine lv_aload_n hx hb dX4_readYear_2 rfl (lv_at hl 1 rfl) ?_
  refine lv_iconst (v := (nI 0)) hx hb dX4_readYear_3 (by decide) ?_
  refine va_put (D := D) (ci := 4) (v := Value.int (nI 0)) (ty := .int) (C := "ReaderRows$Row") (T := TX4) (N := 5) hx hb ht inX4 tyX4 tyX4_ok nmX4 hown hK hP (hD _) hS 5 rfl rfl 3 (by decide) (ht _ m_125) (fun _ h9 => h9) rfl (by decide +kernel) rfl rfl (Nat.le_of_ble_eq_true rfl) dX4_readYear_4 (fun H locs hP hD1 hS => ?_)
  have hP : va_P D vwCl (clW g a (sn S 6 0)) H := hP
  clear hD1
  have hB : cbd (sn S 6 0) := bd_sn hB (show 0 ≤ 99999 by first | assumption | omega)
  have lp7 : ∀ (f7 : Nat) (S1 : St) (pl : Nat), st ≤ pl → pl ≤ st + 5 → (pl = st ∧ nv S1 6 ≤ 0) ∨ (pl = st + 1 ∧ nv S1 6 ≤ 9) ∨ (pl = st + 2 ∧ nv S1 6 ≤ 99) ∨ (pl = st + 3 ∧ nv S1 6 ≤ 999) ∨ (pl = st + 4 ∧ nv S1 6 ≤ 9999) ∨ (pl = st + 5 ∧ nv S1 6 ≤ 99999) → ryF st f7 pl S1 = ryP S st → st + 6 ≤ pl + f7 → cbd S1 → ∀ (H : Heap) (locs : List Loc), va_P D vwCl (clW g a S1) H → va_S (cA a) s.heap H locs → ∀ (ls : Array Slot), lv_has ls 3 [(2, Value.int (nI pl)), (0, Value.ref (a 5)), (1, Value.int (nI st))] → W p l e (headSpec wsX4_readYear ({ frames := 2, cells := 0, slots := 0, locals := 45 } : Room)).room s m ([Value.ref (a 5), Value.int (nI st)] : List Value).toArray below meth c H locs 0 0 (MQ below (wQ (some (Value.int (ryV S st))) D vwCl (clW g a ((ryP S st).2)) (cA a) (cbd ((ryP S st).2))) ([Value.ref (a 5), Value.int (nI st)] : List Value).toArray s 0 0 (cA a)) (F0 m 7 ls []) := by
    intro f7
    induction f7 with
    | zero =>
      intro S1 pl h1 h2 hy hv hfu
      exact absurd hfu (by omega)
    | succ f7 ih7 =>
      intro S1 pl h1 h2 hy hv hfu hB H locs hP hS ls hl
      refine lv_iload_n hx hb dX4_readYear_7 rfl (lv_at hl 0 rfl) ?_
      refine lv_iload_n hx hb dX4_readYear_8 rfl (lv_at hl 2 rfl) ?_
      refine lv_iconst (v := (nI 5)) hx hb dX4_readYear_9 (by decide) ?_
      refine r_iadd hx hb dX4_readYear_10 ?_
      refine r_icmp_ge (tgt := 52) hx hb dX4_readYear_11 (by decide) (by omega) (by omega) (fun c11 => ?_) (fun c11 => ?_)
      · refine lv_iload_n hx hb dX4_readYear_52 rfl (lv_at hl 0 rfl) ?_
        refine lv_iload_n hx hb dX4_readYear_53 rfl (lv_at hl 2 rfl) ?_
        refine r_icmp_eq (tgt := 65) hx hb dX4_readYear_54 (by decide) (by omega) (by omega) (fun c54 => ?_) (fun c54 => ?_)
        · refine lv_iload_n hx hb dX4_readYear_65 rfl (lv_at hl 0 rfl) ?_
          refine lv_goto (tgt := 70) hx hb dX4_readYear_66 (by decide) ?_
          have hv9 : (nI pl) = (ryV S st) := by have e9 : ryP S st = (pl, S1) := (by rw [← hv]; first | (simp only [ryF, if_pos c11]; done) | (simp only [ryF, if_neg c11, if_neg c23]; done)); first | (simp only [ryV, e9, if_pos c54]; done) | (simp only [ryV, e9, if_neg c54, if_pos c62]; done) | (simp only [ryV, e9, if_neg c54, if_neg c62]; done)
          have hs9 : S1 = ((ryP S st).2) := by have e9 : ryP S st = (pl, S1) := (by rw [← hv]; first | (simp only [ryF, if_pos c11]; done) | (simp only [ryF, if_neg c11, if_neg c23]; done)); rw [e9]
          exact W.iret (v := (nI pl)) hx hb hr (fun t ht hW => ⟨congrArg (fun z => Outcome.returned (some (Value.int z))) hv9, by rw [ht, ← hs9]; exact hP, hS.F ht, by rw [← hs9]; exact hB⟩) hS.2.2 dX4_readYear_70
        · refine lv_iload_n hx hb dX4_readYear_57 rfl (lv_at hl 0 rfl) ?_
          refine lv_aload_n hx hb dX4_readYear_58 rfl (lv_at hl 1 rfl) ?_
          refine va_get (D := D) (ci := 4) (v := Value.int (nI (nv S1 3))) (C := "ReaderRows$Row") (T := TX4) (N := 5) hx hb ht inX4 hown hK hP 5 rfl rfl 0 (by decide) (ht _ m_122) (fun _ h9 => h9) rfl dX4_readYear_59 ?_
          have b_N3 : nv S1 3 ≤ 40 := hB.1 3
          refine r_icmp_ge (tgt := 69) hx hb dX4_readYear_62 (by decide) (by omega) (by omega) (fun c62 => ?_) (fun c62 => ?_)
          · refine lv_iconst (v := (-1)) hx hb dX4_readYear_69 (by decide) ?_
            have hv9 : (-1) = (ryV S st) := by have e9 : ryP S st = (pl, S1) := (by rw [← hv]; first | (simp only [ryF, if_pos c11]; done) | (simp only [ryF, if_neg c11, if_neg c23]; done)); first | (simp only [ryV, e9, if_pos c54]; done) | (simp only [ryV, e9, if_neg c54, if_pos c62]; done) | (simp only [ryV, e9, if_neg c54, if_neg c62]; done)
            have hs9 : S1 = ((ryP S st).2) := by have e9 : ryP S st = (pl, S1) := (by rw [← hv]; first | (simp only [ryF, if_pos c11]; done) | (simp only [ryF, if_neg c11, if_neg c23]; done)); rw [e9]
            exact W.iret (v := (-1)) hx hb hr (fun t ht hW => ⟨congrArg (fun z => Outcome.returned (some (Value.int z))) hv9, by rw [ht, ← hs9]; exact hP, hS.F ht, by rw [← hs9]; exact hB⟩) hS.2.2 dX4_readYear_70
          · refine lv_iload_n hx hb dX4_readYear_65 rfl (lv_at hl 0 rfl) ?_
            refine lv_goto (tgt := 70) hx hb dX4_readYear_66 (by decide) ?_
            have hv9 : (nI pl) = (ryV S st) := by have e9 : ryP S st = (pl, S1) := (by rw [← hv]; first | (simp only [ryF, if_pos c11]; done) | (simp only [ryF, if_neg c11, if_neg c23]; done)); first | (simp only [ryV, e9, if_pos c54]; done) | (simp only [ryV, e9, if_neg c54, if_pos c62]; done) | (simp only [ryV, e9, if_neg c54, if_neg c62]; done)
            have hs9 : S1 = ((ryP S st).2) := by have e9 : ryP S st = (pl, S1) := (by rw [← hv]; first | (simp only [ryF, if_pos c11]; done) | (simp only [ryF, if_neg c11, if_neg c23]; done)); rw [e9]
            exact W.iret (v := (nI pl)) hx hb hr (fun t ht hW => ⟨congrArg (fun z => Outcome.returned (some (Value.int z))) hv9, by rw [ht, ← hs9]; exact hP, hS.F ht, by rw [← hs9]; exact hB⟩) hS.2.2 dX4_readYear_70
      · refine lv_aload_n hx hb dX4_readYear_14 rfl (lv_at hl 1 rfl) ?_
        refine lv_iload_n hx hb dX4_readYear_15 rfl (lv_at hl 0 rfl) ?_
        refine lv_bipush (v := (nI 48)) hx hb dX4_readYear_16 (by decide) ?_
        refine lv_bipush (v := (nI 57)) hx hb dX4_readYear_18 (by decide) ?_
        refine r_callR (r := Value.int (nI (bN (am S1 pl 48 57)))) (As := [Value.int (nI pl), Value.int (nI 48), Value.int (nI 57)]) (rest := []) ⟨hx, hb, hml, hown, ht⟩ (c_ro_isAmong l D g a S1 hB pl 48 57 (by omega) (by omega) (by omega)) (cwV 3 ht (gdV m_365 m_367 ms_7 m_6 m_368) rfl rfl rfl (by decide +kernel) ⟨Nat.le_of_ble_eq_true rfl, Nat.le_of_ble_eq_true rfl⟩) (va_recv hK hP (ci := 4) (q0 := 5) rfl rfl) hP hK rfl hl.1 rfl (Nat.le_of_ble_eq_true rfl) dX4_readYear_20 ⟨Nat.zero_le _, Nat.zero_le _⟩ ?_
        refine r_if_eq_b (tgt := 52) hx hb dX4_readYear_23 (by decide) (fun c23 => ?_) (fun c23 => ?_)
        · refine lv_iload_n hx hb dX4_readYear_52 rfl (lv_at hl 0 rfl) ?_
          refine lv_iload_n hx hb dX4_readYear_53 rfl (lv_at hl 2 rfl) ?_
          refine r_icmp_eq (tgt := 65) hx hb dX4_readYear_54 (by decide) (by omega) (by omega) (fun c54 => ?_) (fun c54 => ?_)
          · refine lv_iload_n hx hb dX4_readYear_65 rfl (lv_at hl 0 rfl) ?_
            refine lv_goto (tgt := 70) hx hb dX4_readYear_66 (by decide) ?_
            have hv9 : (nI pl) = (ryV S st) := by have e9 : ryP S st = (pl, S1) := (by rw [← hv]; first | (simp only [ryF, if_pos c11]; done) | (simp only [ryF, if_neg c11, if_neg c23]; done)); first | (simp only [ryV, e9, if_pos c54]; done) | (simp only [ryV, e9, if_neg c54, if_pos c62]; done) | (simp only [ryV, e9, if_neg c54, if_neg c62]; done)
            have hs9 : S1 = ((ryP S st).2) := by have e9 : ryP S st = (pl, S1) := (by rw [← hv]; first | (simp only [ryF, if_pos c11]; done) | (simp only [ryF, if_neg c11, if_neg c23]; done)); rw [e9]
            exact W.iret (v := (nI pl)) hx hb hr (fun t ht hW => ⟨congrArg (fun z => Outcome.returned (some (Value.int z))) hv9, by rw [ht, ← hs9]; exact hP, hS.F ht, by rw [← hs9]; exact hB⟩) hS.2.2 dX4_readYear_70
          · refine lv_iload_n hx hb dX4_readYear_57 rfl (lv_at hl 0 rfl) ?_
            refine lv_aload_n hx hb dX4_readYear_58 rfl (lv_at hl 1 rfl) ?_
            refine va_get (D := D) (ci := 4) (v := Value.int (nI (nv S1 3))) (C := "ReaderRows$Row") (T := TX4) (N := 5) hx hb ht inX4 hown hK hP 5 rfl rfl 0 (by decide) (ht _ m_122) (fun _ h9 => h9) rfl dX4_readYear_59 ?_
            have b_N3 : nv S1 3 ≤ 40 := hB.1 3
            refine r_icmp_ge (tgt := 69) hx hb dX4_readYear_62 (by decide) (by omega) (by omega) (fun c62 => ?_) (fun c62 => ?_)
            · refine lv_iconst (v := (-1)) hx hb dX4_readYear_69 (by decide) ?_
              have hv9 : (-1) = (ryV S st) := by have e9 : ryP S st = (pl, S1) := (by rw [← hv]; first | (simp only [ryF, if_pos c11]; done) | (simp only [ryF, if_neg c11, if_neg c23]; done)); first | (simp only [ryV, e9, if_pos c54]; done) | (simp only [ryV, e9, if_neg c54, if_pos c62]; done) | (simp only [ryV, e9, if_neg c54, if_neg c62]; done)
              have hs9 : S1 = ((ryP S st).2) := by have e9 : ryP S st = (pl, S1) := (by rw [← hv]; first | (simp only [ryF, if_pos c11]; done) | (simp only [ryF, if_neg c11, if_neg c23]; done)); rw [e9]
              exact W.iret (v := (-1)) hx hb hr (fun t ht hW => ⟨congrArg (fun z => Outcome.returned (some (Value.int z))) hv9, by rw [ht, ← hs9]; exact hP, hS.F ht, by rw [← hs9]; exact hB⟩) hS.2.2 dX4_readYear_70
            · refine lv_iload_n hx hb dX4_readYear_65 rfl (lv_at hl 0 rfl) ?_
              refine lv_goto (tgt := 70) hx hb dX4_readYear_66 (by decide) ?_
              have hv9 : (nI pl) = (ryV S st) := by have e9 : ryP S st = (pl, S1) := (by rw [← hv]; first | (simp only [ryF, if_pos c11]; done) | (simp only [ryF, if_neg c11, if_neg c23]; done)); first | (simp only [ryV, e9, if_pos c54]; done) | (simp only [ryV, e9, if_neg c54, if_pos c62]; done) | (simp only [ryV, e9, if_neg c54, if_neg c62]; done)
              have hs9 : S1 = ((ryP S st).2) := by have e9 : ryP S st = (pl, S1) := (by rw [← hv]; first | (simp only [ryF, if_pos c11]; done) | (simp only [ryF, if_neg c11, if_neg c23]; done)); rw [e9]
              exact W.iret (v := (nI pl)) hx hb hr (fun t ht hW => ⟨congrArg (fun z => Outcome.returned (some (Value.int z))) hv9, by rw [ht, ← hs9]; exact hP, hS.F ht, by rw [← hs9]; exact hB⟩) hS.2.2 dX4_readYear_70
        · obtain ⟨e1, e2, e3⟩ := am_in hB (by decide) (by decide) c23
          refine lv_aload_n hx hb dX4_readYear_26 rfl (lv_at hl 1 rfl) ?_
          refine lv_aload_n hx hb dX4_readYear_27 rfl (lv_at hl 1 rfl) ?_
          refine va_get (D := D) (ci := 4) (v := Value.int (nI (nv S1 6))) (C := "ReaderRows$Row") (T := TX4) (N := 5) hx hb ht inX4 hown hK hP 5 rfl rfl 3 (by decide) (ht _ m_125) (fun _ h9 => h9) rfl dX4_readYear_28 ?_
          have b_N6 : nv S1 6 ≤ 99999 := hB.1 6
          refine lv_bipush (v := (nI 10)) hx hb dX4_readYear_31 (by decide) ?_
          refine r_imul hx hb dX4_readYear_33 ?_
          refine lv_aload_n hx hb dX4_readYear_34 rfl (lv_at hl 1 rfl) ?_
          refine lv_iload_n hx hb dX4_readYear_35 rfl (lv_at hl 0 rfl) ?_
          refine r_callR (r := Value.int (nI (av S1 14 pl))) (As := [Value.int (nI pl)]) (rest := [Value.int (nI ((nv S1 6) * 10)), Value.ref (a 5)]) ⟨hx, hb, hml, hown, ht⟩ (c_ro_signAt_in l D g a S1 hB pl (by omega)) (cwV 1 ht (gdV m_369 m_370 m_371 m_6 m_372) rfl rfl rfl (by decide +kernel) ⟨Nat.le_of_ble_eq_true rfl, Nat.le_of_ble_eq_true rfl⟩) (va_recv hK hP (ci := 4) (q0 := 5) rfl rfl) hP hK rfl hl.1 rfl (Nat.le_of_ble_eq_true rfl) dX4_readYear_36 ⟨Nat.zero_le _, Nat.zero_le _⟩ ?_
          have b_sg95 : av S1 14 pl ≤ 255 := hB.2 14 _
          refine r_iadd hx hb dX4_readYear_39 ?_
          refine lv_bipush (v := (nI 48)) hx hb dX4_readYear_40 (by decide) ?_
          refine r_isub hx hb dX4_readYear_42 (by omega) ?_
          refine va_put (D := D) (ci := 4) (v := Value.int (nI ((((nv S1 6) * 10) + (av S1 14 pl)) - 48))) (ty := .int) (C := "ReaderRows$Row") (T := TX4) (N := 5) hx hb ht inX4 tyX4 tyX4_ok nmX4 hown hK hP (hD _) hS 5 rfl rfl 3 (by decide) (ht _ m_125) (fun _ h9 => h9) rfl (by decide +kernel) rfl rfl (Nat.le_of_ble_eq_true rfl) dX4_readYear_43 (fun H locs hP hD1 hS => ?_)
          have hP : va_P D vwCl (clW g a (sn S1 6 ((((nv S1 6) * 10) + (av S1 14 pl)) - 48))) H := hP
          clear hD1
          have hB : cbd (sn S1 6 ((((nv S1 6) * 10) + (av S1 14 pl)) - 48)) := bd_sn hB (show (((nv S1 6) * 10) + (av S1 14 pl)) - 48 ≤ 99999 by first | assumption | omega)
          refine lv_iinc (v := (nI (pl + 1))) (lv' := [(2, Value.int (nI (pl + 1))), (0, Value.ref (a 5)), (1, Value.int (nI st))]) hx hb dX4_readYear_46 hl (k := 0) rfl (r_inc1 _) (by decide) rfl (fun ls hl => ?_)
          refine lv_goto (tgt := 7) hx hb dX4_readYear_49 (by decide) ?_
          exact ih7 (sn S1 6 ((((nv S1 6) * 10) + (av S1 14 pl)) - 48)) (pl + 1) (by omega) (by omega) (by simp only [nv_sn, eq_self, if_true]; omega) (by (simp only [ryF, if_neg c11, if_pos c23] at hv; exact hv)) (by omega) hB _ _ hP hS ls (lv_sub hl [0, 1, 2] rfl)
  exact lp7 6 (sn S 6 0) st (by omega) (by omega) (by exact Or.inl ⟨rfl, Nat.le_refl _⟩) (by rfl) (by omega) hB _ _ hP hS ls (lv_sub hl [0, 1, 2] rfl)

set_option maxRecDepth 100000 in
set_option maxHeartbeats 4000000 in
theorem c_ro_readAll (l : Launch) (D : va_G) (g : Nat → ClassId) (a : Nat → Nat) (hD : ∀ S : St, va_D (cA a) (clW g a S))  (S : St) (hB : cbd S)  : Met l yX4_readAll wsX4_readAll ({ frames := 3, cells := 0, slots := 0, locals := 67 } : Room) (va_Pc [Value.ref (a 5)] (wPre D vwCl (clW g a S) (clT g))) (wQ (some (Value.int ((rdP S).1))) D vwCl (clW g a ((rdP S).2)) (cA a) (cbd ((rdP S).2))) 0 0 (cA a) := by
  refine Met.ofW (cc := cX4_readAll) (maxL := 2) (ret := (some .int)) (by decide) rfl ?_
  intro p e s m args below meth c s₁ B hml hv
  obtain ⟨rfl, hP, hK⟩ := hv
  have hx := B.exec
  have hb := B.bytes
  have hr := B.returns
  have hts := atoms_spec (ws := wsX4_readAll) B.pre
  have ht := fun (w : Cond) (h : w ∈ lw_g) => hts w (List.mem_cons_of_mem _ h)
  have hown : s.vm.findClass "ReaderRows$Row" = some m.cls := findClass_of_methodNamed B.named
  have hlocks := B.notSynchronized
  have hS : va_S (cA a) s.heap s.heap [] := va_S.rf
  have hl := lv_entry ([Value.ref (a 5)]) (n := 2) (Nat.le_of_ble_eq_true rfl)
  rw [lg_entry_eq]
  generalize (lg_sl ([Value.ref (a 5)]) ++ List.replicate (2 - (lg_sl ([Value.ref (a 5)])).length) Slot.unset).toArray = ls at hl ⊢
  have hl : lv_has ls 2 [(0, Value.ref (a 5))] := hl
  refine lv_aload_n hx hb dX4_readAll_0 rfl (lv_at hl 0 rfl) ?_
  refine r_callW (st' := []) (As := []) (rest := []) ⟨hx, hb, hml, hown, ht⟩ (c_ro_readName l D g a hD S hB ) (cwV 0 ht (gdV m_361 m_363 ms_6 m_6 m_364) rfl rfl rfl (by decide +kernel) ⟨Nat.le_of_ble_eq_true rfl, Nat.le_of_ble_eq_true rfl⟩) (va_recv hK hP (ci := 4) (q0 := 5) rfl rfl) hP hK rfl hS rfl hl.1 rfl (Nat.le_of_ble_eq_true rfl) dX4_readAll_1 ⟨Nat.zero_le _, Nat.zero_le _⟩ (fun H locs hP hS hB => ?_)
  have b_rn : rn S ≤ 12 := rn_le _
  refine lv_aload_n hx hb dX4_readAll_4 rfl (lv_at hl 0 rfl) ?_
  refine va_get (D := D) (ci := 4) (v := Value.int (nI (rn S))) (C := "ReaderRows$Row") (T := TX4) (N := 5) hx hb ht inX4 hown hK hP 5 rfl rfl 1 (by decide) (ht _ m_123) (fun _ h9 => h9) rfl dX4_readAll_5 ?_
  have b_N4 : rn S ≤ 12 := hB.1 4
  refine lv_istore_n (lv' := [(1, Value.int (nI (rn S))), (0, Value.ref (a 5))]) hx hb dX4_readAll_8 rfl hl (by decide) rfl (fun ls hl => ?_)
  refine lv_iload_n hx hb dX4_readAll_9 rfl (lv_at hl 0 rfl) ?_
  refine r_if_eq_n (tgt := 23) hx hb dX4_readAll_10 (by decide) (by omega) (fun c10 => ?_) (fun c10 => ?_)
  · refine lv_iload_n hx hb dX4_readAll_23 rfl (lv_at hl 0 rfl) ?_
    have hv9 : (nI (rn S)) = ((rdP S).1) := by first | (simp only [rdP, if_pos c10]; done) | (with_reducible rfl) | (simp only [rdP, if_pos c10]; rfl) | rfl | (simp [rdP, c10]; done)
    have hs9 : (sn S 4 (rn S)) = ((rdP S).2) := by first | (simp only [rdP, if_pos c10]; done) | (with_reducible rfl) | (simp only [rdP, if_pos c10]; rfl) | rfl | (simp [rdP, c10]; done)
    exact W.iret (v := (nI (rn S))) hx hb hr (fun t ht hW => ⟨congrArg (fun z => Outcome.returned (some (Value.int z))) hv9, by rw [ht, ← hs9]; exact hP, hS.F ht, by rw [← hs9]; exact hB⟩) hS.2.2 dX4_readAll_24
  · refine lv_aload_n hx hb dX4_readAll_13 rfl (lv_at hl 1 rfl) ?_
    refine lv_iload_n hx hb dX4_readAll_14 rfl (lv_at hl 0 rfl) ?_
    refine r_callR (r := Value.int (sg (sn S 4 (rn S)) (rn S))) (As := [Value.int (nI (rn S))]) (rest := []) ⟨hx, hb, hml, hown, ht⟩ (c_ro_signAt l D g a (sn S 4 (rn S)) hB (rn S) (by omega)) (cwV 1 ht (gdV m_369 m_370 m_371 m_6 m_372) rfl rfl rfl (by decide +kernel) ⟨Nat.le_of_ble_eq_true rfl, Nat.le_of_ble_eq_true rfl⟩) (va_recv hK hP (ci := 4) (q0 := 5) rfl rfl) hP hK rfl hl.1 rfl (Nat.le_of_ble_eq_true rfl) dX4_readAll_15 ⟨Nat.zero_le _, Nat.zero_le _⟩ ?_
    refine lv_bipush (v := (nI 32)) hx hb dX4_readAll_18 (by decide) ?_
    refine lv_icmp_eq (tgt := 25) hx hb dX4_readAll_20 (by decide) (fun c20 => ?_) (fun c20 => ?_)
    · refine lv_iinc (v := (nI (rn S + 1))) (lv' := [(1, Value.int (nI (rn S + 1))), (0, Value.ref (a 5))]) hx hb dX4_readAll_25 hl (k := 0) rfl (r_inc1 _) (by decide) rfl (fun ls hl => ?_)
      refine lv_aload_n hx hb dX4_readAll_28 rfl (lv_at hl 1 rfl) ?_
      refine lv_iload_n hx hb dX4_readAll_29 rfl (lv_at hl 0 rfl) ?_
      refine lv_bipush (v := (nI 48)) hx hb dX4_readAll_30 (by decide) ?_
      refine lv_bipush (v := (nI 52)) hx hb dX4_readAll_32 (by decide) ?_
      refine r_callR (r := Value.int (nI (bN (am (sn S 4 (rn S)) (rn S + 1) 48 52)))) (As := [Value.int (nI (rn S + 1)), Value.int (nI 48), Value.int (nI 52)]) (rest := []) ⟨hx, hb, hml, hown, ht⟩ (c_ro_isAmong l D g a (sn S 4 (rn S)) hB (rn S + 1) 48 52 (by omega) (by omega) (by omega)) (cwV 3 ht (gdV m_365 m_367 ms_7 m_6 m_368) rfl rfl rfl (by decide +kernel) ⟨Nat.le_of_ble_eq_true rfl, Nat.le_of_ble_eq_true rfl⟩) (va_recv hK hP (ci := 4) (q0 := 5) rfl rfl) hP hK rfl hl.1 rfl (Nat.le_of_ble_eq_true rfl) dX4_readAll_34 ⟨Nat.zero_le _, Nat.zero_le _⟩ ?_
      refine r_if_ne_b (tgt := 42) hx hb dX4_readAll_37 (by decide) (fun c37 => ?_) (fun c37 => ?_)
      · have q9 := am_in hB (by decide) (by decide) c37
        obtain ⟨e1, e2, e3⟩ : rn S + 1 < nv S 3 ∧ 48 ≤ av S 14 (rn S + 1) ∧ av S 14 (rn S + 1) ≤ 52 := q9
        have b_N3 : nv S 3 ≤ 40 := hB.1 3
        refine lv_aload_n hx hb dX4_readAll_42 rfl (lv_at hl 1 rfl) ?_
        refine lv_aload_n hx hb dX4_readAll_43 rfl (lv_at hl 1 rfl) ?_
        refine lv_iload_n hx hb dX4_readAll_44 rfl (lv_at hl 0 rfl) ?_
        refine r_callR (r := Value.int (nI (av S 14 (rn S + 1)))) (As := [Value.int (nI (rn S + 1))]) (rest := [Value.ref (a 5)]) ⟨hx, hb, hml, hown, ht⟩ (c_ro_signAt_in l D g a (sn S 4 (rn S)) hB (rn S + 1) e1) (cwV 1 ht (gdV m_369 m_370 m_371 m_6 m_372) rfl rfl rfl (by decide +kernel) ⟨Nat.le_of_ble_eq_true rfl, Nat.le_of_ble_eq_true rfl⟩) (va_recv hK hP (ci := 4) (q0 := 5) rfl rfl) hP hK rfl hl.1 rfl (Nat.le_of_ble_eq_true rfl) dX4_readAll_45 ⟨Nat.zero_le _, Nat.zero_le _⟩ ?_
        refine lv_bipush (v := (nI 48)) hx hb dX4_readAll_48 (by decide) ?_
        refine r_isub hx hb dX4_readAll_50 (by omega) ?_
        refine va_put (D := D) (ci := 4) (v := Value.int (nI ((av S 14 (rn S + 1)) - 48))) (ty := .int) (C := "ReaderRows$Row") (T := TX4) (N := 5) hx hb ht inX4 tyX4 tyX4_ok nmX4 hown hK hP (hD _) hS 5 rfl rfl 2 (by decide) (ht _ m_124) (fun _ h9 => h9) rfl (by decide +kernel) rfl rfl (Nat.le_of_ble_eq_true rfl) dX4_readAll_51 (fun H locs hP hD1 hS => ?_)
        have hP : va_P D vwCl (clW g a (sn (sn S 4 (rn S)) 5 ((av S 14 (rn S + 1)) - 48))) H := hP
        clear hD1
        have hB : cbd (sn (sn S 4 (rn S)) 5 ((av S 14 (rn S + 1)) - 48)) := bd_sn hB (show (av S 14 (rn S + 1)) - 48 ≤ 4 by first | assumption | omega)
        refine lv_iinc (v := (nI (rn S + 1 + 1))) (lv' := [(1, Value.int (nI (rn S + 1 + 1))), (0, Value.ref (a 5))]) hx hb dX4_readAll_54 hl (k := 0) rfl (r_inc1 _) (by decide) rfl (fun ls hl => ?_)
        refine lv_aload_n hx hb dX4_readAll_57 rfl (lv_at hl 1 rfl) ?_
        refine lv_iload_n hx hb dX4_readAll_58 rfl (lv_at hl 0 rfl) ?_
        refine r_callR (r := Value.int (sg (sn (sn S 4 (rn S)) 5 ((av S 14 (rn S + 1)) - 48)) (rn S + 1 + 1))) (As := [Value.int (nI (rn S + 1 + 1))]) (rest := []) ⟨hx, hb, hml, hown, ht⟩ (c_ro_signAt l D g a (sn (sn S 4 (rn S)) 5 ((av S 14 (rn S + 1)) - 48)) hB (rn S + 1 + 1) (by omega)) (cwV 1 ht (gdV m_369 m_370 m_371 m_6 m_372) rfl rfl rfl (by decide +kernel) ⟨Nat.le_of_ble_eq_true rfl, Nat.le_of_ble_eq_true rfl⟩) (va_recv hK hP (ci := 4) (q0 := 5) rfl rfl) hP hK rfl hl.1 rfl (Nat.le_of_ble_eq_true rfl) dX4_readAll_59 ⟨Nat.zero_le _, Nat.zero_le _⟩ ?_
        refine lv_bipush (v := (nI 32)) hx hb dX4_readAll_62 (by decide) ?_
        refine lv_icmp_eq (tgt := 69) hx hb dX4_readAll_64 (by decide) (fun c64 => ?_) (fun c64 => ?_)
        · refine lv_aload_n hx hb dX4_readAll_69 rfl (lv_at hl 1 rfl) ?_
          refine lv_iload_n hx hb dX4_readAll_70 rfl (lv_at hl 0 rfl) ?_
          refine lv_iconst (v := (nI 1)) hx hb dX4_readAll_71 (by decide) ?_
          refine r_iadd hx hb dX4_readAll_72 ?_
          refine r_callW (st' := [Value.int (ryV (sn (sn S 4 (rn S)) 5 ((av S 14 (rn S + 1)) - 48)) ((rn S + 1 + 1) + 1))]) (As := [Value.int (nI ((rn S + 1 + 1) + 1))]) (rest := []) ⟨hx, hb, hml, hown, ht⟩ (c_ro_readYear l D g a hD (sn (sn S 4 (rn S)) 5 ((av S 14 (rn S + 1)) - 48)) hB ((rn S + 1 + 1) + 1) (by omega)) (cwV 1 ht (gdV m_373 m_375 ms_8 m_6 m_376) rfl rfl rfl (by decide +kernel) ⟨Nat.le_of_ble_eq_true rfl, Nat.le_of_ble_eq_true rfl⟩) (va_recv hK hP (ci := 4) (q0 := 5) rfl rfl) hP hK rfl hS rfl hl.1 rfl (Nat.le_of_ble_eq_true rfl) dX4_readAll_73 ⟨Nat.zero_le _, Nat.zero_le _⟩ (fun H locs hP hS hB => ?_)
          have hv9 : (ryV (sn (sn S 4 (rn S)) 5 ((av S 14 (rn S + 1)) - 48)) ((rn S + 1 + 1) + 1)) = ((rdP S).1) := by first | (simp only [rdP, if_neg c10, if_pos c20, if_pos c37, if_pos c64]; done) | (with_reducible rfl) | (simp only [rdP, if_neg c10, if_pos c20, if_pos c37, if_pos c64]; rfl) | rfl | (simp [rdP, c10, c20, c37, c64]; done)
          have hs9 : ((ryP (sn (sn S 4 (rn S)) 5 ((av S 14 (rn S + 1)) - 48)) ((rn S + 1 + 1) + 1)).2) = ((rdP S).2) := by first | (simp only [rdP, if_neg c10, if_pos c20, if_pos c37, if_pos c64]; done) | (with_reducible rfl) | (simp only [rdP, if_neg c10, if_pos c20, if_pos c37, if_pos c64]; rfl) | rfl | (simp [rdP, c10, c20, c37, c64]; done)
          exact W.iret (v := (ryV (sn (sn S 4 (rn S)) 5 ((av S 14 (rn S + 1)) - 48)) ((rn S + 1 + 1) + 1))) hx hb hr (fun t ht hW => ⟨congrArg (fun z => Outcome.returned (some (Value.int z))) hv9, by rw [ht, ← hs9]; exact hP, hS.F ht, by rw [← hs9]; exact hB⟩) hS.2.2 dX4_readAll_76
        · refine lv_iload_n hx hb dX4_readAll_67 rfl (lv_at hl 0 rfl) ?_
          have hv9 : (nI (rn S + 1 + 1)) = ((rdP S).1) := by first | (simp only [rdP, if_neg c10, if_pos c20, if_pos c37, if_neg c64]; done) | (with_reducible rfl) | (simp only [rdP, if_neg c10, if_pos c20, if_pos c37, if_neg c64]; rfl) | rfl | (simp [rdP, c10, c20, c37, c64]; done)
          have hs9 : (sn (sn S 4 (rn S)) 5 ((av S 14 (rn S + 1)) - 48)) = ((rdP S).2) := by first | (simp only [rdP, if_neg c10, if_pos c20, if_pos c37, if_neg c64]; done) | (with_reducible rfl) | (simp only [rdP, if_neg c10, if_pos c20, if_pos c37, if_neg c64]; rfl) | rfl | (simp [rdP, c10, c20, c37, c64]; done)
          exact W.iret (v := (nI (rn S + 1 + 1))) hx hb hr (fun t ht hW => ⟨congrArg (fun z => Outcome.returned (some (Value.int z))) hv9, by rw [ht, ← hs9]; exact hP, hS.F ht, by rw [← hs9]; exact hB⟩) hS.2.2 dX4_readAll_68
      · refine lv_iload_n hx hb dX4_readAll_40 rfl (lv_at hl 0 rfl) ?_
        have hv9 : (nI (rn S + 1)) = ((rdP S).1) := by first | (simp only [rdP, if_neg c10, if_pos c20, if_neg c37]; done) | (with_reducible rfl) | (simp only [rdP, if_neg c10, if_pos c20, if_neg c37]; rfl) | rfl | (simp [rdP, c10, c20, c37]; done)
        have hs9 : (sn S 4 (rn S)) = ((rdP S).2) := by first | (simp only [rdP, if_neg c10, if_pos c20, if_neg c37]; done) | (with_reducible rfl) | (simp only [rdP, if_neg c10, if_pos c20, if_neg c37]; rfl) | rfl | (simp [rdP, c10, c20, c37]; done)
        exact W.iret (v := (nI (rn S + 1))) hx hb hr (fun t ht hW => ⟨congrArg (fun z => Outcome.returned (some (Value.int z))) hv9, by rw [ht, ← hs9]; exact hP, hS.F ht, by rw [← hs9]; exact hB⟩) hS.2.2 dX4_readAll_41
    · refine lv_iload_n hx hb dX4_readAll_23 rfl (lv_at hl 0 rfl) ?_
      have hv9 : (nI (rn S)) = ((rdP S).1) := by first | (simp only [rdP, if_neg c10, if_neg c20]; done) | (with_reducible rfl) | (simp only [rdP, if_neg c10, if_neg c20]; rfl) | rfl | (simp [rdP, c10, c20]; done)
      have hs9 : (sn S 4 (rn S)) = ((rdP S).2) := by first | (simp only [rdP, if_neg c10, if_neg c20]; done) | (with_reducible rfl) | (simp only [rdP, if_neg c10, if_neg c20]; rfl) | rfl | (simp [rdP, c10, c20]; done)
      exact W.iret (v := (nI (rn S))) hx hb hr (fun t ht hW => ⟨congrArg (fun z => Outcome.returned (some (Value.int z))) hv9, by rw [ht, ← hs9]; exact hP, hS.F ht, by rw [← hs9]; exact hB⟩) hS.2.2 dX4_readAll_24
end
section
set_option maxRecDepth 100000 in
set_option maxHeartbeats 4000000 in
theorem c_na_put (l : Launch) (D : va_G) (g : Nat → ClassId) (a : Nat → Nat) (hD : ∀ S : St, va_D (cA a) (clW g a S))  (S : St) (hB : cbd S) (r : Nat) (hr0 : r ≤ 60) (hn4 : nv S 4 ≤ nv S 3) : Met l yX2_put wsX2_put ({ frames := 1, cells := 0, slots := 0, locals := 21 } : Room) (va_Pc [Value.ref (a 2), Value.int (nI r), Value.ref (a 5)] (wPre D vwCl (clW g a S) (clT g))) (wQ none D vwCl (clW g a (ptS S r)) (cA a) (cbd (ptS S r))) 0 0 (cA a) := by
  refine Met.ofW (cc := cX2_put) (maxL := 5) (ret := none) (by decide) rfl ?_
  intro p e s m args below meth c s₁ B hml hv
  obtain ⟨rfl, hP, hK⟩ := hv
  have hx := B.exec
  have hb := B.bytes
  have hr := B.returns
  have hts := atoms_spec (ws := wsX2_put) B.pre
  have ht := fun (w : Cond) (h : w ∈ lw_g) => hts w (List.mem_cons_of_mem _ h)
  have hown : s.vm.findClass "ReaderRows$Names" = some m.cls := findClass_of_methodNamed B.named
  have hlocks := B.notSynchronized
  have hS : va_S (cA a) s.heap s.heap [] := va_S.rf
  have hl := lv_entry ([Value.ref (a 2), Value.int (nI r), Value.ref (a 5)]) (n := 5) (Nat.le_of_ble_eq_true rfl)
  rw [lg_entry_eq]
  generalize (lg_sl ([Value.ref (a 2), Value.int (nI r), Value.ref (a 5)]) ++ List.replicate (5 - (lg_sl ([Value.ref (a 2), Value.int (nI r), Value.ref (a 5)])).length) Slot.unset).toArray = ls at hl ⊢
  have hl : lv_has ls 5 [(0, Value.ref (a 2)), (1, Value.int (nI r)), (2, Value.ref (a 5))] := hl
  have b4 : nv S 4 ≤ 12 := hB.1 4
  have b3 : nv S 3 ≤ 40 := hB.1 3
  refine lv_aload_n hx hb dX2_put_0 rfl (lv_at hl 2 rfl) ?_
  refine r_callR (r := Value.int (nI (nv S 4))) (As := []) (rest := []) ⟨hx, hb, hml, hown, ht⟩ (c_ro_nameLength l D g a S hB ) (cwV 0 ht (gdV m_397 m_398 m_399 m_6 m_400) rfl rfl rfl (by decide +kernel) ⟨Nat.le_of_ble_eq_true rfl, Nat.le_of_ble_eq_true rfl⟩) (va_recv hK hP (ci := 4) (q0 := 5) rfl rfl) hP hK rfl hl.1 rfl (Nat.le_of_ble_eq_true rfl) dX2_put_1 ⟨Nat.zero_le _, Nat.zero_le _⟩ ?_
  have b_n4 : nv S 4 ≤ 12 := hB.1 4
  refine lv_istore_n (lv' := [(3, Value.int (nI (nv S 4))), (0, Value.ref (a 2)), (1, Value.int (nI r)), (2, Value.ref (a 5))]) hx hb dX2_put_4 rfl hl (by decide) rfl (fun ls hl => ?_)
  refine lv_iconst (v := (nI 0)) hx hb dX2_put_5 (by decide) ?_
  refine lv_istore (lv' := [(4, Value.int (nI 0)), (3, Value.int (nI (nv S 4))), (0, Value.ref (a 2)), (1, Value.int (nI r)), (2, Value.ref (a 5))]) hx hb dX2_put_6 hl (by decide) rfl (fun ls hl => ?_)
  have lp8 : ∀ (f8 : Nat) (S1 : St) (pl : Nat), nv S1 3 = nv S 3 → nv S1 6 = nv S 6 → pl ≤ nv S 4 → ptF r (nv S 4) f8 pl S1 = ptT S r → nv S 4 + 1 ≤ pl + f8 → cbd S1 → ∀ (H : Heap) (locs : List Loc), va_P D vwCl (clW g a S1) H → va_S (cA a) s.heap H locs → ∀ (ls : Array Slot), lv_has ls 5 [(4, Value.int (nI pl)), (3, Value.int (nI (nv S 4))), (0, Value.ref (a 2)), (1, Value.int (nI r)), (2, Value.ref (a 5))] → W p l e (headSpec wsX2_put ({ frames := 1, cells := 0, slots := 0, locals := 21 } : Room)).room s m ([Value.ref (a 2), Value.int (nI r), Value.ref (a 5)] : List Value).toArray below meth c H locs 0 0 (MQ below (wQ none D vwCl (clW g a (ptS S r)) (cA a) (cbd (ptS S r))) ([Value.ref (a 2), Value.int (nI r), Value.ref (a 5)] : List Value).toArray s 0 0 (cA a)) (F0 m 8 ls []) := by
    intro f8
    induction f8 with
    | zero =>
      intro S1 pl hc3 hc6 hp hv hfu
      exact absurd hfu (by omega)
    | succ f8 ih8 =>
      intro S1 pl hc3 hc6 hp hv hfu hB H locs hP hS ls hl
      refine lv_iload hx hb dX2_put_8 (lv_at hl 0 rfl) ?_
      refine lv_iload_n hx hb dX2_put_10 rfl (lv_at hl 1 rfl) ?_
      refine r_icmp_ge (tgt := 39) hx hb dX2_put_11 (by decide) (by omega) (by omega) (fun c11 => ?_) (fun c11 => ?_)
      · refine lv_aload_n hx hb dX2_put_39 rfl (lv_at hl 2 rfl) ?_
        refine va_get (D := D) (ci := 2) (v := Value.ref (a 13)) (C := "ReaderRows$Names") (T := TX2) (N := 4) hx hb ht inX2 hown hK hP 2 rfl rfl 1 (by decide) (ht _ m_53) (fun _ h9 => h9) rfl dX2_put_40 ?_
        refine lv_iload_n hx hb dX2_put_43 rfl (lv_at hl 3 rfl) ?_
        refine lv_iload_n hx hb dX2_put_44 rfl (lv_at hl 1 rfl) ?_
        refine r_iast_n (f := av S1 5) hx hb hK hP (hD _) hS 13 7 rfl rfl (i := r) (x := (nv S 4)) (show _ < 61 by omega) (by decide) dX2_put_45 (fun H locs hP hD1 hS => ?_)
        have hP : va_P D vwCl (clW g a (sa S1 5 r (nv S 4))) H := hP
        clear hD1
        have hB : cbd (sa S1 5 r (nv S 4)) := bd_sa hB (show nv S 4 ≤ 12 by first | assumption | omega)
        refine lv_aload_n hx hb dX2_put_46 rfl (lv_at hl 2 rfl) ?_
        refine va_get (D := D) (ci := 2) (v := Value.ref (a 14)) (C := "ReaderRows$Names") (T := TX2) (N := 4) hx hb ht inX2 hown hK hP 2 rfl rfl 2 (by decide) (ht _ m_54) (fun _ h9 => h9) rfl dX2_put_47 ?_
        refine lv_iload_n hx hb dX2_put_50 rfl (lv_at hl 3 rfl) ?_
        refine lv_aload_n hx hb dX2_put_51 rfl (lv_at hl 4 rfl) ?_
        refine r_callR (r := Value.int (nI (nv S1 6))) (As := []) (rest := [Value.int (nI r), Value.ref (a 14)]) ⟨hx, hb, hml, hown, ht⟩ (c_ro_year l D g a (sa S1 5 r (nv S 4)) hB ) (cwV 0 ht (gdV m_401 m_402 m_403 m_6 m_404) rfl rfl rfl (by decide +kernel) ⟨Nat.le_of_ble_eq_true rfl, Nat.le_of_ble_eq_true rfl⟩) (va_recv hK hP (ci := 4) (q0 := 5) rfl rfl) hP hK rfl hl.1 rfl (Nat.le_of_ble_eq_true rfl) dX2_put_52 ⟨Nat.zero_le _, Nat.zero_le _⟩ ?_
        have b_n6 : nv S1 6 ≤ 99999 := hB.1 6
        refine r_iast_n (f := av S1 6) hx hb hK hP (hD _) hS 14 8 rfl rfl (i := r) (x := (nv S1 6)) (show _ < 61 by omega) (by decide) dX2_put_55 (fun H locs hP hD1 hS => ?_)
        have hP : va_P D vwCl (clW g a (sa (sa S1 5 r (nv S 4)) 6 r (nv S1 6))) H := hP
        clear hD1
        have hB : cbd (sa (sa S1 5 r (nv S 4)) 6 r (nv S1 6)) := bd_sa hB (show nv S1 6 ≤ 99999 by first | assumption | omega)
        have hs9 : (sa (sa S1 5 r (nv S 4)) 6 r (nv S1 6)) = (ptS S r) := by rw [ptS, ← hv]; simp only [ptF, if_pos c11, hc6]
        exact W.vret hx hb hr (fun t ht hW => ⟨rfl, by rw [ht, ← hs9]; exact hP, hS.F ht, by rw [← hs9]; exact hB⟩) hS.2.2 dX2_put_56
      · refine lv_aload_n hx hb dX2_put_14 rfl (lv_at hl 2 rfl) ?_
        refine va_get (D := D) (ci := 2) (v := Value.ref (a 12)) (C := "ReaderRows$Names") (T := TX2) (N := 4) hx hb ht inX2 hown hK hP 2 rfl rfl 0 (by decide) (ht _ m_52) (fun _ h9 => h9) rfl dX2_put_15 ?_
        refine lv_iload_n hx hb dX2_put_18 rfl (lv_at hl 3 rfl) ?_
        refine lv_bipush (v := (nI 12)) hx hb dX2_put_19 (by decide) ?_
        refine r_imul hx hb dX2_put_21 ?_
        refine lv_iload hx hb dX2_put_22 (lv_at hl 0 rfl) ?_
        refine r_iadd hx hb dX2_put_24 ?_
        refine lv_aload_n hx hb dX2_put_25 rfl (lv_at hl 4 rfl) ?_
        refine lv_iload hx hb dX2_put_26 (lv_at hl 0 rfl) ?_
        refine r_callR (r := Value.int (nI (av S1 14 pl))) (As := [Value.int (nI pl)]) (rest := [Value.int (nI ((r * 12) + pl)), Value.ref (a 12)]) ⟨hx, hb, hml, hown, ht⟩ (c_ro_signAt_in l D g a S1 hB pl (by rw [hc3]; omega)) (cwV 1 ht (gdV m_409 m_370 m_371 m_6 m_372) rfl rfl rfl (by decide +kernel) ⟨Nat.le_of_ble_eq_true rfl, Nat.le_of_ble_eq_true rfl⟩) (va_recv hK hP (ci := 4) (q0 := 5) rfl rfl) hP hK rfl hl.1 rfl (Nat.le_of_ble_eq_true rfl) dX2_put_28 ⟨Nat.zero_le _, Nat.zero_le _⟩ ?_
        have b_sg : av S1 14 pl ≤ 255 := hB.2 14 _
        refine lv_i2c (v := nI (av S1 14 pl)) hx hb dX2_put_31 (r_i2c (by omega)) ?_
        refine r_cast_n (f := av S1 4) hx hb hK hP (hD _) hS 12 6 rfl rfl (i := ((r * 12) + pl)) (x := (av S1 14 pl)) (show _ < 732 by omega) (by decide) (show _ ≤ 65535 by omega) dX2_put_32 (fun H locs hP hD1 hS => ?_)
        have hP : va_P D vwCl (clW g a (sa S1 4 ((r * 12) + pl) (av S1 14 pl))) H := hP
        clear hD1
        have hB : cbd (sa S1 4 ((r * 12) + pl) (av S1 14 pl)) := bd_sa hB (show av S1 14 pl ≤ 255 by first | assumption | omega)
        refine lv_iinc (v := (nI (pl + 1))) (lv' := [(4, Value.int (nI (pl + 1))), (3, Value.int (nI (nv S 4))), (0, Value.ref (a 2)), (1, Value.int (nI r)), (2, Value.ref (a 5))]) hx hb dX2_put_33 hl (k := 0) rfl (r_inc1 _) (by decide) rfl (fun ls hl => ?_)
        refine lv_goto (tgt := 8) hx hb dX2_put_36 (by decide) ?_
        exact ih8 (sa S1 4 ((r * 12) + pl) (av S1 14 pl)) (pl + 1) (by exact hc3) (by exact hc6) (by omega) (by (simp only [ptF, if_neg c11] at hv; exact hv)) (by omega) hB _ _ hP hS ls (lv_sub hl [0, 1, 2, 3, 4] rfl)
  exact lp8 13 S 0 (by rfl) (by rfl) (by omega) (by rfl) (by omega) hB _ _ hP hS ls (lv_sub hl [0, 1, 2, 3, 4] rfl)

set_option maxRecDepth 100000 in
set_option maxHeartbeats 4000000 in
theorem c_na_has (l : Launch) (D : va_G) (g : Nat → ClassId) (a : Nat → Nat)  (S : St) (hB : cbd S) (r : Nat) (hr0 : r ≤ 60) : Met l yX2_has wsX2_has ({ frames := 0, cells := 0, slots := 0, locals := 0 } : Room) (va_Pc [Value.ref (a 2), Value.int (nI r)] (wPre D vwCl (clW g a S) (clT g))) (k2_QcV (Value.int (nI (bN (0 < av S 5 r))))) 0 0 (fun _ => False) := by
  refine Met.ofW (cc := cX2_has) (maxL := 2) (ret := (some .boolean)) (by decide) rfl ?_
  intro p e s m args below meth c s₁ B hml hv
  obtain ⟨rfl, hP, hK⟩ := hv
  have hx := B.exec
  have hb := B.bytes
  have hr := B.returns
  have hts := atoms_spec (ws := wsX2_has) B.pre
  have ht := fun (w : Cond) (h : w ∈ lw_g) => hts w (List.mem_cons_of_mem _ h)
  have hown : s.vm.findClass "ReaderRows$Names" = some m.cls := findClass_of_methodNamed B.named
  have hlocks := B.notSynchronized
  have hl := lv_entry ([Value.ref (a 2), Value.int (nI r)]) (n := 2) (Nat.le_of_ble_eq_true rfl)
  rw [lg_entry_eq]
  generalize (lg_sl ([Value.ref (a 2), Value.int (nI r)]) ++ List.replicate (2 - (lg_sl ([Value.ref (a 2), Value.int (nI r)])).length) Slot.unset).toArray = ls at hl ⊢
  have hl : lv_has ls 2 [(0, Value.ref (a 2)), (1, Value.int (nI r))] := hl
  refine lv_aload_n hx hb dX2_has_0 rfl (lv_at hl 0 rfl) ?_
  refine va_get (D := D) (ci := 2) (v := Value.ref (a 13)) (C := "ReaderRows$Names") (T := TX2) (N := 4) hx hb ht inX2 hown hK hP 2 rfl rfl 1 (by decide) (ht _ m_53) (fun _ h9 => h9) rfl dX2_has_1 ?_
  refine lv_iload_n hx hb dX2_has_4 rfl (lv_at hl 1 rfl) ?_
  refine r_iald_n (f := av S 5) hx hb hK hP 13 7 rfl rfl (i := r) (show _ < 61 by first | omega | (simp only [Nat.lt_iff_add_one_le] at *; omega)) (by decide) dX2_has_5 ?_
  have b_V5_5 : av S 5 r ≤ 12 := hB.2 5 r
  refine r_if_le_n (tgt := 13) hx hb dX2_has_6 (by decide) (by omega) (fun c6 => ?_) (fun c6 => ?_)
  · refine lv_iconst (v := (nI 0)) hx hb dX2_has_13 (by decide) ?_
    have hv9 : (nI 0) = (nI (bN (0 < av S 5 r))) := by first | exact r_one (by omega) | exact r_zero (by omega)
    have hn9 : narrow .boolean (Value.int (nI 0)) = Value.int (nI 0) := by exact r_nz (by omega)
    exact W.zret (v := (nI 0)) (ty := .boolean) hx hb hr hn9 (fun t ht hW => ⟨congrArg (fun z => Outcome.returned (some (Value.int z))) hv9, ht⟩) (fun _ h => by cases h) dX2_has_14
  · refine lv_iconst (v := (nI 1)) hx hb dX2_has_9 (by decide) ?_
    refine lv_goto (tgt := 14) hx hb dX2_has_10 (by decide) ?_
    have hv9 : (nI 1) = (nI (bN (0 < av S 5 r))) := by first | exact r_one (by omega) | exact r_zero (by omega)
    have hn9 : narrow .boolean (Value.int (nI 1)) = Value.int (nI 1) := by exact r_nz (by omega)
    exact W.zret (v := (nI 1)) (ty := .boolean) hx hb hr hn9 (fun t ht hW => ⟨congrArg (fun z => Outcome.returned (some (Value.int z))) hv9, ht⟩) (fun _ h => by cases h) dX2_has_14

set_option maxRecDepth 100000 in
set_option maxHeartbeats 4000000 in
theorem c_na_letterAt (l : Launch) (D : va_G) (g : Nat → ClassId) (a : Nat → Nat)  (S : St) (hB : cbd S) (r pl : Nat) (hr0 : r ≤ 60) (hp : pl ≤ 11) : Met l yX2_letterAt wsX2_letterAt ({ frames := 0, cells := 0, slots := 0, locals := 0 } : Room) (va_Pc [Value.ref (a 2), Value.int (nI r), Value.int (nI pl)] (wPre D vwCl (clW g a S) (clT g))) (k2_QcV (Value.int (nI (av S 4 (r * 12 + pl))))) 0 0 (fun _ => False) := by
  refine Met.ofW (cc := cX2_letterAt) (maxL := 3) (ret := (some .int)) (by decide) rfl ?_
  intro p e s m args below meth c s₁ B hml hv
  obtain ⟨rfl, hP, hK⟩ := hv
  have hx := B.exec
  have hb := B.bytes
  have hr := B.returns
  have hts := atoms_spec (ws := wsX2_letterAt) B.pre
  have ht := fun (w : Cond) (h : w ∈ lw_g) => hts w (List.mem_cons_of_mem _ h)
  have hown : s.vm.findClass "ReaderRows$Names" = some m.cls := findClass_of_methodNamed B.named
  have hlocks := B.notSynchronized
  have hl := lv_entry ([Value.ref (a 2), Value.int (nI r), Value.int (nI pl)]) (n := 3) (Nat.le_of_ble_eq_true rfl)
  rw [lg_entry_eq]
  generalize (lg_sl ([Value.ref (a 2), Value.int (nI r), Value.int (nI pl)]) ++ List.replicate (3 - (lg_sl ([Value.ref (a 2), Value.int (nI r), Value.int (nI pl)])).length) Slot.unset).toArray = ls at hl ⊢
  have hl : lv_has ls 3 [(0, Value.ref (a 2)), (1, Value.int (nI r)), (2, Value.int (nI pl))] := hl
  refine lv_aload_n hx hb dX2_letterAt_0 rfl (lv_at hl 0 rfl) ?_
  refine va_get (D := D) (ci := 2) (v := Value.ref (a 12)) (C := "ReaderRows$Names") (T := TX2) (N := 4) hx hb ht inX2 hown hK hP 2 rfl rfl 0 (by decide) (ht _ m_52) (fun _ h9 => h9) rfl dX2_letterAt_1 ?_
  refine lv_iload_n hx hb dX2_letterAt_4 rfl (lv_at hl 1 rfl) ?_
  refine lv_bipush (v := (nI 12)) hx hb dX2_letterAt_5 (by decide) ?_
  refine r_imul hx hb dX2_letterAt_7 ?_
  refine lv_iload_n hx hb dX2_letterAt_8 rfl (lv_at hl 2 rfl) ?_
  refine r_iadd hx hb dX2_letterAt_9 ?_
  refine r_cald_n (f := av S 4) hx hb hK hP 12 6 rfl rfl (i := ((r * 12) + pl)) (show _ < 732 by first | omega | (simp only [Nat.lt_iff_add_one_le] at *; omega)) (by decide) dX2_letterAt_10 ?_
  have b_V4_10 : av S 4 ((r * 12) + pl) ≤ 255 := hB.2 4 ((r * 12) + pl)
  have hv9 : (nI (av S 4 ((r * 12) + pl))) = (nI (av S 4 (r * 12 + pl))) := by first | (simp only [Nat.add_zero, Nat.add_zero]; done) | (with_reducible rfl) | (simp only [Nat.add_zero, Nat.add_zero]; rfl) | rfl | (simp [Nat.add_zero, Nat.add_zero]; done)
  exact W.iret (v := (nI (av S 4 ((r * 12) + pl)))) hx hb hr (fun t ht hW => ⟨congrArg (fun z => Outcome.returned (some (Value.int z))) hv9, ht⟩) (fun _ h => by cases h) dX2_letterAt_11

set_option maxRecDepth 100000 in
set_option maxHeartbeats 4000000 in
theorem c_na_isSame (l : Launch) (D : va_G) (g : Nat → ClassId) (a : Nat → Nat)  (S : St) (hB : cbd S) (r : Nat) (hr0 : r ≤ 60) : Met l yX2_isSame wsX2_isSame ({ frames := 1, cells := 0, slots := 0, locals := 22 } : Room) (va_Pc [Value.ref (a 2), Value.int (nI r), Value.ref (a 5)] (wPre D vwCl (clW g a S) (clT g))) (k2_QcV (Value.int (nI (sm S r)))) 0 0 (fun _ => False) := by
  refine Met.ofW (cc := cX2_isSame) (maxL := 5) (ret := (some .boolean)) (by decide) rfl ?_
  intro p e s m args below meth c s₁ B hml hv
  obtain ⟨rfl, hP, hK⟩ := hv
  have hx := B.exec
  have hb := B.bytes
  have hr := B.returns
  have hts := atoms_spec (ws := wsX2_isSame) B.pre
  have ht := fun (w : Cond) (h : w ∈ lw_g) => hts w (List.mem_cons_of_mem _ h)
  have hown : s.vm.findClass "ReaderRows$Names" = some m.cls := findClass_of_methodNamed B.named
  have hlocks := B.notSynchronized
  have hl := lv_entry ([Value.ref (a 2), Value.int (nI r), Value.ref (a 5)]) (n := 5) (Nat.le_of_ble_eq_true rfl)
  rw [lg_entry_eq]
  generalize (lg_sl ([Value.ref (a 2), Value.int (nI r), Value.ref (a 5)]) ++ List.replicate (5 - (lg_sl ([Value.ref (a 2), Value.int (nI r), Value.ref (a 5)])).length) Slot.unset).toArray = ls at hl ⊢
  have hl : lv_has ls 5 [(0, Value.ref (a 2)), (1, Value.int (nI r)), (2, Value.ref (a 5))] := hl
  refine lv_aload_n hx hb dX2_isSame_0 rfl (lv_at hl 2 rfl) ?_
  refine r_callR (r := Value.int (nI (nv S 4))) (As := []) (rest := []) ⟨hx, hb, hml, hown, ht⟩ (c_ro_nameLength l D g a S hB ) (cwV 0 ht (gdV m_397 m_398 m_399 m_6 m_400) rfl rfl rfl (by decide +kernel) ⟨Nat.le_of_ble_eq_true rfl, Nat.le_of_ble_eq_true rfl⟩) (va_recv hK hP (ci := 4) (q0 := 5) rfl rfl) hP hK rfl hl.1 rfl (Nat.le_of_ble_eq_true rfl) dX2_isSame_1 ⟨Nat.zero_le _, Nat.zero_le _⟩ ?_
  have b_n4 : nv S 4 ≤ 12 := hB.1 4
  refine lv_istore_n (lv' := [(3, Value.int (nI (nv S 4))), (0, Value.ref (a 2)), (1, Value.int (nI r)), (2, Value.ref (a 5))]) hx hb dX2_isSame_4 rfl hl (by decide) rfl (fun ls hl => ?_)
  refine lv_aload_n hx hb dX2_isSame_5 rfl (lv_at hl 1 rfl) ?_
  refine va_get (D := D) (ci := 2) (v := Value.ref (a 13)) (C := "ReaderRows$Names") (T := TX2) (N := 4) hx hb ht inX2 hown hK hP 2 rfl rfl 1 (by decide) (ht _ m_53) (fun _ h9 => h9) rfl dX2_isSame_6 ?_
  refine lv_iload_n hx hb dX2_isSame_9 rfl (lv_at hl 2 rfl) ?_
  refine r_iald_n (f := av S 5) hx hb hK hP 13 7 rfl rfl (i := r) (show _ < 61 by first | omega | (simp only [Nat.lt_iff_add_one_le] at *; omega)) (by decide) dX2_isSame_10 ?_
  have b_V5_10 : av S 5 r ≤ 12 := hB.2 5 r
  refine lv_iload_n hx hb dX2_isSame_11 rfl (lv_at hl 0 rfl) ?_
  refine r_icmp_ne (tgt := 28) hx hb dX2_isSame_12 (by decide) (by omega) (by omega) (fun c12 => ?_) (fun c12 => ?_)
  · refine lv_iconst (v := (nI 0)) hx hb dX2_isSame_28 (by decide) ?_
    have hv9 : (nI 0) = (nI (sm S r)) := by simp only [sm, if_neg c12]
    have hn9 : narrow .boolean (Value.int (nI 0)) = Value.int (nI 0) := by exact r_nz (by omega)
    exact W.zret (v := (nI 0)) (ty := .boolean) hx hb hr hn9 (fun t ht hW => ⟨congrArg (fun z => Outcome.returned (some (Value.int z))) hv9, ht⟩) (fun _ h => by cases h) dX2_isSame_29
  · refine lv_aload_n hx hb dX2_isSame_15 rfl (lv_at hl 1 rfl) ?_
    refine va_get (D := D) (ci := 2) (v := Value.ref (a 14)) (C := "ReaderRows$Names") (T := TX2) (N := 4) hx hb ht inX2 hown hK hP 2 rfl rfl 2 (by decide) (ht _ m_54) (fun _ h9 => h9) rfl dX2_isSame_16 ?_
    refine lv_iload_n hx hb dX2_isSame_19 rfl (lv_at hl 2 rfl) ?_
    refine r_iald_n (f := av S 6) hx hb hK hP 14 8 rfl rfl (i := r) (show _ < 61 by first | omega | (simp only [Nat.lt_iff_add_one_le] at *; omega)) (by decide) dX2_isSame_20 ?_
    have b_V6_20 : av S 6 r ≤ 99999 := hB.2 6 r
    refine lv_aload_n hx hb dX2_isSame_21 rfl (lv_at hl 3 rfl) ?_
    refine r_callR (r := Value.int (nI (nv S 6))) (As := []) (rest := [Value.int (nI (av S 6 r))]) ⟨hx, hb, hml, hown, ht⟩ (c_ro_year l D g a S hB ) (cwV 0 ht (gdV m_401 m_402 m_403 m_6 m_404) rfl rfl rfl (by decide +kernel) ⟨Nat.le_of_ble_eq_true rfl, Nat.le_of_ble_eq_true rfl⟩) (va_recv hK hP (ci := 4) (q0 := 5) rfl rfl) hP hK rfl hl.1 rfl (Nat.le_of_ble_eq_true rfl) dX2_isSame_22 ⟨Nat.zero_le _, Nat.zero_le _⟩ ?_
    have b_n6 : nv S 6 ≤ 99999 := hB.1 6
    refine r_icmp_eq (tgt := 30) hx hb dX2_isSame_25 (by decide) (by omega) (by omega) (fun c25 => ?_) (fun c25 => ?_)
    · refine lv_iconst (v := (nI 0)) hx hb dX2_isSame_30 (by decide) ?_
      refine lv_istore (lv' := [(4, Value.int (nI 0)), (3, Value.int (nI (nv S 4))), (0, Value.ref (a 2)), (1, Value.int (nI r)), (2, Value.ref (a 5))]) hx hb dX2_isSame_31 hl (by decide) rfl (fun ls hl => ?_)
      have lp33 : ∀ (f33 : Nat) (pl : Nat), pl ≤ nv S 4 → smF S r f33 pl = sm S r → nv S 4 + 1 ≤ pl + f33 → ∀ (ls : Array Slot), lv_has ls 5 [(4, Value.int (nI pl)), (3, Value.int (nI (nv S 4))), (0, Value.ref (a 2)), (1, Value.int (nI r)), (2, Value.ref (a 5))] → W p l e (headSpec wsX2_isSame ({ frames := 1, cells := 0, slots := 0, locals := 22 } : Room)).room s m ([Value.ref (a 2), Value.int (nI r), Value.ref (a 5)] : List Value).toArray below meth c s.heap [] 0 0 (MQ below (k2_QcV (Value.int (nI (sm S r)))) ([Value.ref (a 2), Value.int (nI r), Value.ref (a 5)] : List Value).toArray s 0 0 (fun _ => False)) (F0 m 33 ls []) := by
        intro f33
        induction f33 with
        | zero =>
          intro pl hp hv hfu
          exact absurd hfu (by omega)
        | succ f33 ih33 =>
          intro pl hp hv hfu ls hl
          refine lv_iload hx hb dX2_isSame_33 (lv_at hl 0 rfl) ?_
          refine lv_iload_n hx hb dX2_isSame_35 rfl (lv_at hl 1 rfl) ?_
          refine r_icmp_ge (tgt := 63) hx hb dX2_isSame_36 (by decide) (by omega) (by omega) (fun c36 => ?_) (fun c36 => ?_)
          · refine lv_iconst (v := (nI 1)) hx hb dX2_isSame_63 (by decide) ?_
            have hv9 : (nI 1) = (nI (sm S r)) := by rw [← hv]; simp only [smF, if_pos c36]
            have hn9 : narrow .boolean (Value.int (nI 1)) = Value.int (nI 1) := by exact r_nz (by omega)
            exact W.zret (v := (nI 1)) (ty := .boolean) hx hb hr hn9 (fun t ht hW => ⟨congrArg (fun z => Outcome.returned (some (Value.int z))) hv9, ht⟩) (fun _ h => by cases h) dX2_isSame_64
          · refine lv_aload_n hx hb dX2_isSame_39 rfl (lv_at hl 2 rfl) ?_
            refine lv_iload_n hx hb dX2_isSame_40 rfl (lv_at hl 3 rfl) ?_
            refine lv_iload hx hb dX2_isSame_41 (lv_at hl 0 rfl) ?_
            refine r_callR (r := Value.int (nI (av S 4 (r * 12 + pl)))) (As := [Value.int (nI r), Value.int (nI pl)]) (rest := []) ⟨hx, hb, hml, hown, ht⟩ (c_na_letterAt l D g a S hB r pl (by omega) (by omega)) (cwV 2 ht (gdV m_405 m_407 ms_11 m_3 m_408) rfl rfl rfl (by decide +kernel) ⟨Nat.le_of_ble_eq_true rfl, Nat.le_of_ble_eq_true rfl⟩) (va_recv hK hP (ci := 2) (q0 := 2) rfl rfl) hP hK rfl hl.1 rfl (Nat.le_of_ble_eq_true rfl) dX2_isSame_43 ⟨Nat.zero_le _, Nat.zero_le _⟩ ?_
            have b_le : av S 4 (r * 12 + pl) ≤ 255 := hB.2 4 _
            refine lv_aload_n hx hb dX2_isSame_46 rfl (lv_at hl 4 rfl) ?_
            refine lv_iload hx hb dX2_isSame_47 (lv_at hl 0 rfl) ?_
            refine r_callR (r := Value.int (sg S pl)) (As := [Value.int (nI pl)]) (rest := [Value.int (nI (av S 4 (r * 12 + pl)))]) ⟨hx, hb, hml, hown, ht⟩ (c_ro_signAt l D g a S hB pl (by omega)) (cwV 1 ht (gdV m_409 m_370 m_371 m_6 m_372) rfl rfl rfl (by decide +kernel) ⟨Nat.le_of_ble_eq_true rfl, Nat.le_of_ble_eq_true rfl⟩) (va_recv hK hP (ci := 4) (q0 := 5) rfl rfl) hP hK rfl hl.1 rfl (Nat.le_of_ble_eq_true rfl) dX2_isSame_49 ⟨Nat.zero_le _, Nat.zero_le _⟩ ?_
            refine lv_icmp_eq (tgt := 57) hx hb dX2_isSame_52 (by decide) (fun c52 => ?_) (fun c52 => ?_)
            · refine lv_iinc (v := (nI (pl + 1))) (lv' := [(4, Value.int (nI (pl + 1))), (3, Value.int (nI (nv S 4))), (0, Value.ref (a 2)), (1, Value.int (nI r)), (2, Value.ref (a 5))]) hx hb dX2_isSame_57 hl (k := 0) rfl (r_inc1 _) (by decide) rfl (fun ls hl => ?_)
              refine lv_goto (tgt := 33) hx hb dX2_isSame_60 (by decide) ?_
              exact ih33 (pl + 1) (by omega) (by (simp only [smF, if_neg c36, if_pos c52] at hv; exact hv)) (by omega)  ls (lv_sub hl [0, 1, 2, 3, 4] rfl)
            · refine lv_iconst (v := (nI 0)) hx hb dX2_isSame_55 (by decide) ?_
              have hv9 : (nI 0) = (nI (sm S r)) := by rw [← hv]; simp only [smF, if_neg c36, if_neg c52]
              have hn9 : narrow .boolean (Value.int (nI 0)) = Value.int (nI 0) := by exact r_nz (by omega)
              exact W.zret (v := (nI 0)) (ty := .boolean) hx hb hr hn9 (fun t ht hW => ⟨congrArg (fun z => Outcome.returned (some (Value.int z))) hv9, ht⟩) (fun _ h => by cases h) dX2_isSame_56
      exact lp33 13 0 (by omega) (by simp only [sm, if_pos c12, if_pos c25]) (by omega)  ls (lv_sub hl [0, 1, 2, 3, 4] rfl)
    · refine lv_iconst (v := (nI 0)) hx hb dX2_isSame_28 (by decide) ?_
      have hv9 : (nI 0) = (nI (sm S r)) := by simp only [sm, if_pos c12, if_neg c25]
      have hn9 : narrow .boolean (Value.int (nI 0)) = Value.int (nI 0) := by exact r_nz (by omega)
      exact W.zret (v := (nI 0)) (ty := .boolean) hx hb hr hn9 (fun t ht hW => ⟨congrArg (fun z => Outcome.returned (some (Value.int z))) hv9, ht⟩) (fun _ h => by cases h) dX2_isSame_29

set_option maxRecDepth 100000 in
set_option maxHeartbeats 4000000 in
theorem c_na_distance (l : Launch) (D : va_G) (g : Nat → ClassId) (a : Nat → Nat) (hD : ∀ S : St, va_D (cA a) (clW g a S))  (S : St) (hB : cbd S) (r : Nat) (hr0 : r ≤ 60) : Met l yX2_distance wsX2_distance ({ frames := 1, cells := 0, slots := 0, locals := 30 } : Room) (va_Pc [Value.ref (a 2), Value.int (nI r), Value.ref (a 5)] (wPre D vwCl (clW g a S) (clT g))) (wQ (some (Value.int (nI (dsV S r)))) D vwCl (clW g a (dsS S r)) (cA a) (cbd (dsS S r))) 0 0 (cA a) := by
  refine Met.ofW (cc := cX2_distance) (maxL := 10) (ret := (some .int)) (by decide) rfl ?_
  intro p e s m args below meth c s₁ B hml hv
  obtain ⟨rfl, hP, hK⟩ := hv
  have hx := B.exec
  have hb := B.bytes
  have hr := B.returns
  have hts := atoms_spec (ws := wsX2_distance) B.pre
  have ht := fun (w : Cond) (h : w ∈ lw_g) => hts w (List.mem_cons_of_mem _ h)
  have hown : s.vm.findClass "ReaderRows$Names" = some m.cls := findClass_of_methodNamed B.named
  have hlocks := B.notSynchronized
  have hS : va_S (cA a) s.heap s.heap [] := va_S.rf
  have hl := lv_entry ([Value.ref (a 2), Value.int (nI r), Value.ref (a 5)]) (n := 10) (Nat.le_of_ble_eq_true rfl)
  rw [lg_entry_eq]
  generalize (lg_sl ([Value.ref (a 2), Value.int (nI r), Value.ref (a 5)]) ++ List.replicate (10 - (lg_sl ([Value.ref (a 2), Value.int (nI r), Value.ref (a 5)])).length) Slot.unset).toArray = ls at hl ⊢
  have hl : lv_has ls 10 [(0, Value.ref (a 2)), (1, Value.int (nI r)), (2, Value.ref (a 5))] := hl
  have b4 : nv S 4 ≤ 12 := hB.1 4
  refine lv_aload_n hx hb dX2_distance_0 rfl (lv_at hl 2 rfl) ?_
  refine r_callR (r := Value.int (nI (nv S 4))) (As := []) (rest := []) ⟨hx, hb, hml, hown, ht⟩ (c_ro_nameLength l D g a S hB ) (cwV 0 ht (gdV m_397 m_398 m_399 m_6 m_400) rfl rfl rfl (by decide +kernel) ⟨Nat.le_of_ble_eq_true rfl, Nat.le_of_ble_eq_true rfl⟩) (va_recv hK hP (ci := 4) (q0 := 5) rfl rfl) hP hK rfl hl.1 rfl (Nat.le_of_ble_eq_true rfl) dX2_distance_1 ⟨Nat.zero_le _, Nat.zero_le _⟩ ?_
  have b_n4 : nv S 4 ≤ 12 := hB.1 4
  refine lv_istore_n (lv' := [(3, Value.int (nI (nv S 4))), (0, Value.ref (a 2)), (1, Value.int (nI r)), (2, Value.ref (a 5))]) hx hb dX2_distance_4 rfl hl (by decide) rfl (fun ls hl => ?_)
  refine lv_iconst (v := (nI 0)) hx hb dX2_distance_5 (by decide) ?_
  refine lv_istore (lv' := [(4, Value.int (nI 0)), (3, Value.int (nI (nv S 4))), (0, Value.ref (a 2)), (1, Value.int (nI r)), (2, Value.ref (a 5))]) hx hb dX2_distance_6 hl (by decide) rfl (fun ls hl => ?_)
  have lp8 : ∀ (f8 : Nat) (S1 : St) (co0 : Nat), av S1 5 r = av S 5 r → co0 ≤ nv S 4 + 1 → d0F (nv S 4) f8 co0 S1 = d0T S → nv S 4 + 2 ≤ co0 + f8 → cbd S1 → ∀ (H : Heap) (locs : List Loc), va_P D vwCl (clW g a S1) H → va_S (cA a) s.heap H locs → ∀ (ls : Array Slot), lv_has ls 10 [(4, Value.int (nI co0)), (3, Value.int (nI (nv S 4))), (0, Value.ref (a 2)), (1, Value.int (nI r)), (2, Value.ref (a 5))] → W p l e (headSpec wsX2_distance ({ frames := 1, cells := 0, slots := 0, locals := 30 } : Room)).room s m ([Value.ref (a 2), Value.int (nI r), Value.ref (a 5)] : List Value).toArray below meth c H locs 0 0 (MQ below (wQ (some (Value.int (nI (dsV S r)))) D vwCl (clW g a (dsS S r)) (cA a) (cbd (dsS S r))) ([Value.ref (a 2), Value.int (nI r), Value.ref (a 5)] : List Value).toArray s 0 0 (cA a)) (F0 m 8 ls []) := by
    intro f8
    induction f8 with
    | zero =>
      intro S1 co0 h5 hp hv hfu
      exact absurd hfu (by omega)
    | succ f8 ih8 =>
      intro S1 co0 h5 hp hv hfu hB H locs hP hS ls hl
      refine lv_iload hx hb dX2_distance_8 (lv_at hl 0 rfl) ?_
      refine lv_iload_n hx hb dX2_distance_10 rfl (lv_at hl 1 rfl) ?_
      refine r_icmp_gt (tgt := 29) hx hb dX2_distance_11 (by decide) (by omega) (by omega) (fun c11 => ?_) (fun c11 => ?_)
      · refine lv_iconst (v := (nI 1)) hx hb dX2_distance_29 (by decide) ?_
        refine lv_istore (lv' := [(4, Value.int (nI 1)), (3, Value.int (nI (nv S 4))), (0, Value.ref (a 2)), (1, Value.int (nI r)), (2, Value.ref (a 5))]) hx hb dX2_distance_30 hl (by decide) rfl (fun ls hl => ?_)
        have lp32 : ∀ (f32 : Nat) (S2 : St) (ln : Nat), 1 ≤ ln → ln ≤ 13 → av S2 5 r ≤ 12 → doF r (nv S 4) f32 ln S2 = dsS S r → 14 ≤ ln + f32 → cbd S2 → ∀ (H : Heap) (locs : List Loc), va_P D vwCl (clW g a S2) H → va_S (cA a) s.heap H locs → ∀ (ls : Array Slot), lv_has ls 10 [(4, Value.int (nI ln)), (3, Value.int (nI (nv S 4))), (0, Value.ref (a 2)), (1, Value.int (nI r)), (2, Value.ref (a 5))] → W p l e (headSpec wsX2_distance ({ frames := 1, cells := 0, slots := 0, locals := 30 } : Room)).room s m ([Value.ref (a 2), Value.int (nI r), Value.ref (a 5)] : List Value).toArray below meth c H locs 0 0 (MQ below (wQ (some (Value.int (nI (dsV S r)))) D vwCl (clW g a (dsS S r)) (cA a) (cbd (dsS S r))) ([Value.ref (a 2), Value.int (nI r), Value.ref (a 5)] : List Value).toArray s 0 0 (cA a)) (F0 m 32 ls []) := by
          intro f32
          induction f32 with
          | zero =>
            intro S2 ln k1 k2 h52 hv2 hfu
            exact absurd hfu (by omega)
          | succ f32 ih32 =>
            intro S2 ln k1 k2 h52 hv2 hfu hB H locs hP hS ls hl
            refine lv_iload hx hb dX2_distance_32 (lv_at hl 0 rfl) ?_
            refine lv_aload_n hx hb dX2_distance_34 rfl (lv_at hl 2 rfl) ?_
            refine va_get (D := D) (ci := 2) (v := Value.ref (a 13)) (C := "ReaderRows$Names") (T := TX2) (N := 4) hx hb ht inX2 hown hK hP 2 rfl rfl 1 (by decide) (ht _ m_53) (fun _ h9 => h9) rfl dX2_distance_35 ?_
            refine lv_iload_n hx hb dX2_distance_38 rfl (lv_at hl 3 rfl) ?_
            refine r_iald_n (f := av S2 5) hx hb hK hP 13 7 rfl rfl (i := r) (show _ < 61 by first | omega | (simp only [Nat.lt_iff_add_one_le] at *; omega)) (by decide) dX2_distance_39 ?_
            have b_V5_39 : av S2 5 r ≤ 12 := hB.2 5 r
            refine r_icmp_gt (tgt := 161) hx hb dX2_distance_40 (by decide) (by omega) (by omega) (fun c40 => ?_) (fun c40 => ?_)
            · refine lv_aload_n hx hb dX2_distance_161 rfl (lv_at hl 2 rfl) ?_
              refine va_get (D := D) (ci := 2) (v := Value.ref (a 15)) (C := "ReaderRows$Names") (T := TX2) (N := 4) hx hb ht inX2 hown hK hP 2 rfl rfl 3 (by decide) (ht _ m_55) (fun _ h9 => h9) rfl dX2_distance_162 ?_
              refine lv_iload_n hx hb dX2_distance_165 rfl (lv_at hl 1 rfl) ?_
              refine r_iald_n (f := av S2 7) hx hb hK hP 15 9 rfl rfl (i := (nv S 4)) (show _ < 13 by first | omega | (simp only [Nat.lt_iff_add_one_le] at *; omega)) (by decide) dX2_distance_166 ?_
              have b_V7_166 : av S2 7 (nv S 4) ≤ 24 := hB.2 7 (nv S 4)
              have hv9 : (nI (av S2 7 (nv S 4))) = (nI (dsV S r)) := by rw [dsV, ← hv2]; simp only [doF, if_pos c40]
              have hs9 : S2 = (dsS S r) := by rw [← hv2]; simp only [doF, if_pos c40]
              exact W.iret (v := (nI (av S2 7 (nv S 4)))) hx hb hr (fun t ht hW => ⟨congrArg (fun z => Outcome.returned (some (Value.int z))) hv9, by rw [ht, ← hs9]; exact hP, hS.F ht, by rw [← hs9]; exact hB⟩) hS.2.2 dX2_distance_167
            · refine lv_aload_n hx hb dX2_distance_43 rfl (lv_at hl 2 rfl) ?_
              refine lv_iload_n hx hb dX2_distance_44 rfl (lv_at hl 3 rfl) ?_
              refine lv_iload hx hb dX2_distance_45 (lv_at hl 0 rfl) ?_
              refine lv_iconst (v := (nI 1)) hx hb dX2_distance_47 (by decide) ?_
              refine r_isub hx hb dX2_distance_48 (by omega) ?_
              refine r_callR (r := Value.int (nI (av S2 4 (r * 12 + (ln - 1))))) (As := [Value.int (nI r), Value.int (nI (ln - 1))]) (rest := []) ⟨hx, hb, hml, hown, ht⟩ (c_na_letterAt l D g a S2 hB r (ln - 1) (by omega) (by omega)) (cwV 2 ht (gdV m_405 m_407 ms_11 m_3 m_408) rfl rfl rfl (by decide +kernel) ⟨Nat.le_of_ble_eq_true rfl, Nat.le_of_ble_eq_true rfl⟩) (va_recv hK hP (ci := 2) (q0 := 2) rfl rfl) hP hK rfl hl.1 rfl (Nat.le_of_ble_eq_true rfl) dX2_distance_49 ⟨Nat.zero_le _, Nat.zero_le _⟩ ?_
              have b_le : av S2 4 (r * 12 + (ln - 1)) ≤ 255 := hB.2 4 _
              refine lv_istore (lv' := [(5, Value.int (nI (av S2 4 (r * 12 + (ln - 1))))), (4, Value.int (nI ln)), (3, Value.int (nI (nv S 4))), (0, Value.ref (a 2)), (1, Value.int (nI r)), (2, Value.ref (a 5))]) hx hb dX2_distance_52 hl (by decide) rfl (fun ls hl => ?_)
              refine lv_aload_n hx hb dX2_distance_54 rfl (lv_at hl 3 rfl) ?_
              refine va_get (D := D) (ci := 2) (v := Value.ref (a 15)) (C := "ReaderRows$Names") (T := TX2) (N := 4) hx hb ht inX2 hown hK hP 2 rfl rfl 3 (by decide) (ht _ m_55) (fun _ h9 => h9) rfl dX2_distance_55 ?_
              refine lv_iconst (v := (nI 0)) hx hb dX2_distance_58 (by decide) ?_
              refine r_iald_n (f := av S2 7) hx hb hK hP 15 9 rfl rfl (i := 0) (show _ < 13 by first | omega | (simp only [Nat.lt_iff_add_one_le] at *; omega)) (by decide) dX2_distance_59 ?_
              have b_V7_59 : av S2 7 0 ≤ 24 := hB.2 7 0
              refine lv_istore (lv' := [(6, Value.int (nI (av S2 7 0))), (5, Value.int (nI (av S2 4 (r * 12 + (ln - 1))))), (4, Value.int (nI ln)), (3, Value.int (nI (nv S 4))), (0, Value.ref (a 2)), (1, Value.int (nI r)), (2, Value.ref (a 5))]) hx hb dX2_distance_60 hl (by decide) rfl (fun ls hl => ?_)
              refine lv_aload_n hx hb dX2_distance_62 rfl (lv_at hl 4 rfl) ?_
              refine va_get (D := D) (ci := 2) (v := Value.ref (a 15)) (C := "ReaderRows$Names") (T := TX2) (N := 4) hx hb ht inX2 hown hK hP 2 rfl rfl 3 (by decide) (ht _ m_55) (fun _ h9 => h9) rfl dX2_distance_63 ?_
              refine lv_iconst (v := (nI 0)) hx hb dX2_distance_66 (by decide) ?_
              refine lv_iload hx hb dX2_distance_67 (lv_at hl 2 rfl) ?_
              refine r_iast_n (f := av S2 7) hx hb hK hP (hD _) hS 15 9 rfl rfl (i := 0) (x := ln) (show _ < 13 by omega) (by decide) dX2_distance_69 (fun H locs hP hD1 hS => ?_)
              have hP : va_P D vwCl (clW g a (sa S2 7 0 ln)) H := hP
              clear hD1
              have hB : cbd (sa S2 7 0 ln) := bd_sa hB (show ln ≤ 24 by first | assumption | omega)
              refine lv_iconst (v := (nI 1)) hx hb dX2_distance_70 (by decide) ?_
              refine lv_istore (lv' := [(7, Value.int (nI 1)), (6, Value.int (nI (av S2 7 0))), (5, Value.int (nI (av S2 4 (r * 12 + (ln - 1))))), (4, Value.int (nI ln)), (3, Value.int (nI (nv S 4))), (0, Value.ref (a 2)), (1, Value.int (nI r)), (2, Value.ref (a 5))]) hx hb dX2_distance_71 hl (by decide) rfl (fun ls hl => ?_)
              have lp73 : ∀ (f73 : Nat) (S3 : St) (cw : Nat) (ak : Nat), 1 ≤ cw → cw ≤ nv S 4 + 1 → ak ≤ 24 → av S3 7 (cw - 1) ≤ ln + (cw - 1) → diF (nv S 4) (av S2 4 (r * 12 + (ln - 1))) f73 cw ak S3 = diT (nv S 4) (av S2 4 (r * 12 + (ln - 1))) ln S2 → nv S 4 + 2 ≤ cw + f73 → cbd S3 → ∀ (H : Heap) (locs : List Loc), va_P D vwCl (clW g a S3) H → va_S (cA a) s.heap H locs → ∀ (ls : Array Slot), lv_has ls 10 [(7, Value.int (nI cw)), (6, Value.int (nI ak)), (5, Value.int (nI (av S2 4 (r * 12 + (ln - 1))))), (4, Value.int (nI ln)), (3, Value.int (nI (nv S 4))), (0, Value.ref (a 2)), (1, Value.int (nI r)), (2, Value.ref (a 5))] → W p l e (headSpec wsX2_distance ({ frames := 1, cells := 0, slots := 0, locals := 30 } : Room)).room s m ([Value.ref (a 2), Value.int (nI r), Value.ref (a 5)] : List Value).toArray below meth c H locs 0 0 (MQ below (wQ (some (Value.int (nI (dsV S r)))) D vwCl (clW g a (dsS S r)) (cA a) (cbd (dsS S r))) ([Value.ref (a 2), Value.int (nI r), Value.ref (a 5)] : List Value).toArray s 0 0 (cA a)) (F0 m 73 ls []) := by
                intro f73
                induction f73 with
                | zero =>
                  intro S3 cw ak m1 m2 m3 m4 hv3 hfu
                  exact absurd hfu (by omega)
                | succ f73 ih73 =>
                  intro S3 cw ak m1 m2 m3 m4 hv3 hfu hB H locs hP hS ls hl
                  refine lv_iload hx hb dX2_distance_73 (lv_at hl 0 rfl) ?_
                  refine lv_iload_n hx hb dX2_distance_75 rfl (lv_at hl 4 rfl) ?_
                  refine r_icmp_gt (tgt := 155) hx hb dX2_distance_76 (by decide) (by omega) (by omega) (fun c76 => ?_) (fun c76 => ?_)
                  · refine lv_iinc (v := (nI (ln + 1))) (lv' := [(4, Value.int (nI (ln + 1))), (7, Value.int (nI cw)), (6, Value.int (nI ak)), (5, Value.int (nI (av S2 4 (r * 12 + (ln - 1))))), (3, Value.int (nI (nv S 4))), (0, Value.ref (a 2)), (1, Value.int (nI r)), (2, Value.ref (a 5))]) hx hb dX2_distance_155 hl (k := 3) rfl (r_inc1 _) (by decide) rfl (fun ls hl => ?_)
                    refine lv_goto (tgt := 32) hx hb dX2_distance_158 (by decide) ?_
                    exact ih32 S3 (ln + 1) (by omega) (by omega) (by exact hB.2 5 r) (by (simp only [doF, if_neg c40] at hv2; rw [← hv2, ← hv3]; simp only [diF, if_pos c76])) (by omega) hB _ _ hP hS ls (lv_sub hl [0, 4, 5, 6, 7] rfl)
                  · refine lv_iload hx hb dX2_distance_79 (lv_at hl 2 rfl) ?_
                    refine lv_aload_n hx hb dX2_distance_81 rfl (lv_at hl 7 rfl) ?_
                    refine lv_iload hx hb dX2_distance_82 (lv_at hl 0 rfl) ?_
                    refine lv_iconst (v := (nI 1)) hx hb dX2_distance_84 (by decide) ?_
                    refine r_isub hx hb dX2_distance_85 (by omega) ?_
                    refine r_callR (r := Value.int (sg S3 (cw - 1))) (As := [Value.int (nI (cw - 1))]) (rest := [Value.int (nI (av S2 4 (r * 12 + (ln - 1))))]) ⟨hx, hb, hml, hown, ht⟩ (c_ro_signAt l D g a S3 hB (cw - 1) (by omega)) (cwV 1 ht (gdV m_409 m_370 m_371 m_6 m_372) rfl rfl rfl (by decide +kernel) ⟨Nat.le_of_ble_eq_true rfl, Nat.le_of_ble_eq_true rfl⟩) (va_recv hK hP (ci := 4) (q0 := 5) rfl rfl) hP hK rfl hl.1 rfl (Nat.le_of_ble_eq_true rfl) dX2_distance_86 ⟨Nat.zero_le _, Nat.zero_le _⟩ ?_
                    refine lv_icmp_ne (tgt := 97) hx hb dX2_distance_89 (by decide) (fun c89 => ?_) (fun c89 => ?_)
                    · refine lv_iload hx hb dX2_distance_97 (lv_at hl 1 rfl) ?_
                      refine lv_iconst (v := (nI 1)) hx hb dX2_distance_99 (by decide) ?_
                      refine r_iadd hx hb dX2_distance_100 ?_
                      refine lv_istore (lv' := [(8, Value.int (nI (ak + 1))), (7, Value.int (nI cw)), (6, Value.int (nI ak)), (5, Value.int (nI (av S2 4 (r * 12 + (ln - 1))))), (4, Value.int (nI ln)), (3, Value.int (nI (nv S 4))), (0, Value.ref (a 2)), (1, Value.int (nI r)), (2, Value.ref (a 5))]) hx hb dX2_distance_101 hl (by decide) rfl (fun ls hl => ?_)
                      refine lv_aload_n hx hb dX2_distance_103 rfl (lv_at hl 6 rfl) ?_
                      refine va_get (D := D) (ci := 2) (v := Value.ref (a 15)) (C := "ReaderRows$Names") (T := TX2) (N := 4) hx hb ht inX2 hown hK hP 2 rfl rfl 3 (by decide) (ht _ m_55) (fun _ h9 => h9) rfl dX2_distance_104 ?_
                      refine lv_iload hx hb dX2_distance_107 (lv_at hl 1 rfl) ?_
                      refine r_iald_n (f := av S3 7) hx hb hK hP 15 9 rfl rfl (i := cw) (show _ < 13 by first | omega | (simp only [Nat.lt_iff_add_one_le] at *; omega)) (by decide) dX2_distance_109 ?_
                      have b_V7_109 : av S3 7 cw ≤ 24 := hB.2 7 cw
                      refine lv_istore (lv' := [(6, Value.int (nI (av S3 7 cw))), (8, Value.int (nI (ak + 1))), (7, Value.int (nI cw)), (5, Value.int (nI (av S2 4 (r * 12 + (ln - 1))))), (4, Value.int (nI ln)), (3, Value.int (nI (nv S 4))), (0, Value.ref (a 2)), (1, Value.int (nI r)), (2, Value.ref (a 5))]) hx hb dX2_distance_110 hl (by decide) rfl (fun ls hl => ?_)
                      refine lv_aload_n hx hb dX2_distance_112 rfl (lv_at hl 6 rfl) ?_
                      refine va_get (D := D) (ci := 2) (v := Value.ref (a 15)) (C := "ReaderRows$Names") (T := TX2) (N := 4) hx hb ht inX2 hown hK hP 2 rfl rfl 3 (by decide) (ht _ m_55) (fun _ h9 => h9) rfl dX2_distance_113 ?_
                      refine lv_iload hx hb dX2_distance_116 (lv_at hl 2 rfl) ?_
                      refine r_iald_n (f := av S3 7) hx hb hK hP 15 9 rfl rfl (i := cw) (show _ < 13 by first | omega | (simp only [Nat.lt_iff_add_one_le] at *; omega)) (by decide) dX2_distance_118 ?_
                      have b_V7_118 : av S3 7 cw ≤ 24 := hB.2 7 cw
                      refine lv_aload_n hx hb dX2_distance_119 rfl (lv_at hl 6 rfl) ?_
                      refine va_get (D := D) (ci := 2) (v := Value.ref (a 15)) (C := "ReaderRows$Names") (T := TX2) (N := 4) hx hb ht inX2 hown hK hP 2 rfl rfl 3 (by decide) (ht _ m_55) (fun _ h9 => h9) rfl dX2_distance_120 ?_
                      refine lv_iload hx hb dX2_distance_123 (lv_at hl 2 rfl) ?_
                      refine lv_iconst (v := (nI 1)) hx hb dX2_distance_125 (by decide) ?_
                      refine r_isub hx hb dX2_distance_126 (by omega) ?_
                      refine r_iald_n (f := av S3 7) hx hb hK hP 15 9 rfl rfl (i := (cw - 1)) (show _ < 13 by first | omega | (simp only [Nat.lt_iff_add_one_le] at *; omega)) (by decide) dX2_distance_127 ?_
                      have b_V7_127 : av S3 7 (cw - 1) ≤ 24 := hB.2 7 (cw - 1)
                      refine va_mmin hx hb (by rw [hml]; exact hl.1.symm) hown (ht _ m_442) (ht _ m_443) (ht _ m_8) (ht _ m_444) (Nat.le_of_ble_eq_true rfl) (Nat.le_of_ble_eq_true rfl) (Nat.zero_le _) (Nat.zero_le _) dX2_distance_128 ?_
                      rw [r_min (by omega) (by omega)]
                      refine lv_iconst (v := (nI 1)) hx hb dX2_distance_131 (by decide) ?_
                      refine r_iadd hx hb dX2_distance_132 ?_
                      refine lv_istore (lv' := [(9, Value.int (nI ((min (av S3 7 cw) (av S3 7 (cw - 1))) + 1))), (6, Value.int (nI (av S3 7 cw))), (8, Value.int (nI (ak + 1))), (7, Value.int (nI cw)), (5, Value.int (nI (av S2 4 (r * 12 + (ln - 1))))), (4, Value.int (nI ln)), (3, Value.int (nI (nv S 4))), (0, Value.ref (a 2)), (1, Value.int (nI r)), (2, Value.ref (a 5))]) hx hb dX2_distance_133 hl (by decide) rfl (fun ls hl => ?_)
                      refine lv_aload_n hx hb dX2_distance_135 rfl (lv_at hl 7 rfl) ?_
                      refine va_get (D := D) (ci := 2) (v := Value.ref (a 15)) (C := "ReaderRows$Names") (T := TX2) (N := 4) hx hb ht inX2 hown hK hP 2 rfl rfl 3 (by decide) (ht _ m_55) (fun _ h9 => h9) rfl dX2_distance_136 ?_
                      refine lv_iload hx hb dX2_distance_139 (lv_at hl 3 rfl) ?_
                      refine lv_iload hx hb dX2_distance_141 (lv_at hl 2 rfl) ?_
                      refine lv_iload hx hb dX2_distance_143 (lv_at hl 0 rfl) ?_
                      refine va_mmin hx hb (by rw [hml]; exact hl.1.symm) hown (ht _ m_442) (ht _ m_443) (ht _ m_8) (ht _ m_444) (Nat.le_of_ble_eq_true rfl) (Nat.le_of_ble_eq_true rfl) (Nat.zero_le _) (Nat.zero_le _) dX2_distance_145 ?_
                      rw [r_min (by omega) (by omega)]
                      refine r_iast_n (f := av S3 7) hx hb hK hP (hD _) hS 15 9 rfl rfl (i := cw) (x := (min (ak + 1) ((min (av S3 7 cw) (av S3 7 (cw - 1))) + 1))) (show _ < 13 by omega) (by decide) dX2_distance_148 (fun H locs hP hD1 hS => ?_)
                      have hP : va_P D vwCl (clW g a (sa S3 7 cw (min (ak + 1) ((min (av S3 7 cw) (av S3 7 (cw - 1))) + 1)))) H := hP
                      clear hD1
                      have hB : cbd (sa S3 7 cw (min (ak + 1) ((min (av S3 7 cw) (av S3 7 (cw - 1))) + 1))) := bd_sa hB (show min (ak + 1) ((min (av S3 7 cw) (av S3 7 (cw - 1))) + 1) ≤ 24 by first | assumption | omega)
                      refine lv_iinc (v := (nI (cw + 1))) (lv' := [(7, Value.int (nI (cw + 1))), (9, Value.int (nI ((min (av S3 7 cw) (av S3 7 (cw - 1))) + 1))), (6, Value.int (nI (av S3 7 cw))), (8, Value.int (nI (ak + 1))), (5, Value.int (nI (av S2 4 (r * 12 + (ln - 1))))), (4, Value.int (nI ln)), (3, Value.int (nI (nv S 4))), (0, Value.ref (a 2)), (1, Value.int (nI r)), (2, Value.ref (a 5))]) hx hb dX2_distance_149 hl (k := 3) rfl (r_inc1 _) (by decide) rfl (fun ls hl => ?_)
                      refine lv_goto (tgt := 73) hx hb dX2_distance_152 (by decide) ?_
                      exact ih73 (sa S3 7 cw (min (ak + 1) ((min (av S3 7 cw) (av S3 7 (cw - 1))) + 1))) (cw + 1) (av S3 7 cw) (by omega) (by omega) (by omega) (by rw [av_sa, if_pos rfl]; simp only [Nat.add_sub_cancel, if_true]; omega) (by (simp only [diF, dif, if_pos c11, if_neg c40, if_neg c76, if_neg c89] at hv3; exact hv3)) (by omega) hB _ _ hP hS ls (lv_sub hl [0, 2, 4, 5, 6, 7, 8, 9] rfl)
                    · refine lv_iload hx hb dX2_distance_92 (lv_at hl 1 rfl) ?_
                      refine lv_goto (tgt := 101) hx hb dX2_distance_94 (by decide) ?_
                      refine lv_istore (lv' := [(8, Value.int (nI ak)), (7, Value.int (nI cw)), (6, Value.int (nI ak)), (5, Value.int (nI (av S2 4 (r * 12 + (ln - 1))))), (4, Value.int (nI ln)), (3, Value.int (nI (nv S 4))), (0, Value.ref (a 2)), (1, Value.int (nI r)), (2, Value.ref (a 5))]) hx hb dX2_distance_101 hl (by decide) rfl (fun ls hl => ?_)
                      refine lv_aload_n hx hb dX2_distance_103 rfl (lv_at hl 6 rfl) ?_
                      refine va_get (D := D) (ci := 2) (v := Value.ref (a 15)) (C := "ReaderRows$Names") (T := TX2) (N := 4) hx hb ht inX2 hown hK hP 2 rfl rfl 3 (by decide) (ht _ m_55) (fun _ h9 => h9) rfl dX2_distance_104 ?_
                      refine lv_iload hx hb dX2_distance_107 (lv_at hl 1 rfl) ?_
                      refine r_iald_n (f := av S3 7) hx hb hK hP 15 9 rfl rfl (i := cw) (show _ < 13 by first | omega | (simp only [Nat.lt_iff_add_one_le] at *; omega)) (by decide) dX2_distance_109 ?_
                      have b_V7_109 : av S3 7 cw ≤ 24 := hB.2 7 cw
                      refine lv_istore (lv' := [(6, Value.int (nI (av S3 7 cw))), (8, Value.int (nI ak)), (7, Value.int (nI cw)), (5, Value.int (nI (av S2 4 (r * 12 + (ln - 1))))), (4, Value.int (nI ln)), (3, Value.int (nI (nv S 4))), (0, Value.ref (a 2)), (1, Value.int (nI r)), (2, Value.ref (a 5))]) hx hb dX2_distance_110 hl (by decide) rfl (fun ls hl => ?_)
                      refine lv_aload_n hx hb dX2_distance_112 rfl (lv_at hl 6 rfl) ?_
                      refine va_get (D := D) (ci := 2) (v := Value.ref (a 15)) (C := "ReaderRows$Names") (T := TX2) (N := 4) hx hb ht inX2 hown hK hP 2 rfl rfl 3 (by decide) (ht _ m_55) (fun _ h9 => h9) rfl dX2_distance_113 ?_
                      refine lv_iload hx hb dX2_distance_116 (lv_at hl 2 rfl) ?_
                      refine r_iald_n (f := av S3 7) hx hb hK hP 15 9 rfl rfl (i := cw) (show _ < 13 by first | omega | (simp only [Nat.lt_iff_add_one_le] at *; omega)) (by decide) dX2_distance_118 ?_
                      have b_V7_118 : av S3 7 cw ≤ 24 := hB.2 7 cw
                      refine lv_aload_n hx hb dX2_distance_119 rfl (lv_at hl 6 rfl) ?_
                      refine va_get (D := D) (ci := 2) (v := Value.ref (a 15)) (C := "ReaderRows$Names") (T := TX2) (N := 4) hx hb ht inX2 hown hK hP 2 rfl rfl 3 (by decide) (ht _ m_55) (fun _ h9 => h9) rfl dX2_distance_120 ?_
                      refine lv_iload hx hb dX2_distance_123 (lv_at hl 2 rfl) ?_
                      refine lv_iconst (v := (nI 1)) hx hb dX2_distance_125 (by decide) ?_
                      refine r_isub hx hb dX2_distance_126 (by omega) ?_
                      refine r_iald_n (f := av S3 7) hx hb hK hP 15 9 rfl rfl (i := (cw - 1)) (show _ < 13 by first | omega | (simp only [Nat.lt_iff_add_one_le] at *; omega)) (by decide) dX2_distance_127 ?_
                      have b_V7_127 : av S3 7 (cw - 1) ≤ 24 := hB.2 7 (cw - 1)
                      refine va_mmin hx hb (by rw [hml]; exact hl.1.symm) hown (ht _ m_442) (ht _ m_443) (ht _ m_8) (ht _ m_444) (Nat.le_of_ble_eq_true rfl) (Nat.le_of_ble_eq_true rfl) (Nat.zero_le _) (Nat.zero_le _) dX2_distance_128 ?_
                      rw [r_min (by omega) (by omega)]
                      refine lv_iconst (v := (nI 1)) hx hb dX2_distance_131 (by decide) ?_
                      refine r_iadd hx hb dX2_distance_132 ?_
                      refine lv_istore (lv' := [(9, Value.int (nI ((min (av S3 7 cw) (av S3 7 (cw - 1))) + 1))), (6, Value.int (nI (av S3 7 cw))), (8, Value.int (nI ak)), (7, Value.int (nI cw)), (5, Value.int (nI (av S2 4 (r * 12 + (ln - 1))))), (4, Value.int (nI ln)), (3, Value.int (nI (nv S 4))), (0, Value.ref (a 2)), (1, Value.int (nI r)), (2, Value.ref (a 5))]) hx hb dX2_distance_133 hl (by decide) rfl (fun ls hl => ?_)
                      refine lv_aload_n hx hb dX2_distance_135 rfl (lv_at hl 7 rfl) ?_
                      refine va_get (D := D) (ci := 2) (v := Value.ref (a 15)) (C := "ReaderRows$Names") (T := TX2) (N := 4) hx hb ht inX2 hown hK hP 2 rfl rfl 3 (by decide) (ht _ m_55) (fun _ h9 => h9) rfl dX2_distance_136 ?_
                      refine lv_iload hx hb dX2_distance_139 (lv_at hl 3 rfl) ?_
                      refine lv_iload hx hb dX2_distance_141 (lv_at hl 2 rfl) ?_
                      refine lv_iload hx hb dX2_distance_143 (lv_at hl 0 rfl) ?_
                      refine va_mmin hx hb (by rw [hml]; exact hl.1.symm) hown (ht _ m_442) (ht _ m_443) (ht _ m_8) (ht _ m_444) (Nat.le_of_ble_eq_true rfl) (Nat.le_of_ble_eq_true rfl) (Nat.zero_le _) (Nat.zero_le _) dX2_distance_145 ?_
                      rw [r_min (by omega) (by omega)]
                      refine r_iast_n (f := av S3 7) hx hb hK hP (hD _) hS 15 9 rfl rfl (i := cw) (x := (min ak ((min (av S3 7 cw) (av S3 7 (cw - 1))) + 1))) (show _ < 13 by omega) (by decide) dX2_distance_148 (fun H locs hP hD1 hS => ?_)
                      have hP : va_P D vwCl (clW g a (sa S3 7 cw (min ak ((min (av S3 7 cw) (av S3 7 (cw - 1))) + 1)))) H := hP
                      clear hD1
                      have hB : cbd (sa S3 7 cw (min ak ((min (av S3 7 cw) (av S3 7 (cw - 1))) + 1))) := bd_sa hB (show min ak ((min (av S3 7 cw) (av S3 7 (cw - 1))) + 1) ≤ 24 by first | assumption | omega)
                      refine lv_iinc (v := (nI (cw + 1))) (lv' := [(7, Value.int (nI (cw + 1))), (9, Value.int (nI ((min (av S3 7 cw) (av S3 7 (cw - 1))) + 1))), (6, Value.int (nI (av S3 7 cw))), (8, Value.int (nI ak)), (5, Value.int (nI (av S2 4 (r * 12 + (ln - 1))))), (4, Value.int (nI ln)), (3, Value.int (nI (nv S 4))), (0, Value.ref (a 2)), (1, Value.int (nI r)), (2, Value.ref (a 5))]) hx hb dX2_distance_149 hl (k := 3) rfl (r_inc1 _) (by decide) rfl (fun ls hl => ?_)
                      refine lv_goto (tgt := 73) hx hb dX2_distance_152 (by decide) ?_
                      exact ih73 (sa S3 7 cw (min ak ((min (av S3 7 cw) (av S3 7 (cw - 1))) + 1))) (cw + 1) (av S3 7 cw) (by omega) (by omega) (by omega) (by rw [av_sa, if_pos rfl]; simp only [Nat.add_sub_cancel, if_true]; omega) (by (simp only [diF, dif, if_pos c11, if_neg c40, if_neg c76, if_pos c89] at hv3; exact hv3)) (by omega) hB _ _ hP hS ls (lv_sub hl [0, 2, 4, 5, 6, 7, 8, 9] rfl)
              exact lp73 13 (sa S2 7 0 ln) 1 (av S2 7 0) (by omega) (by omega) (by omega) (by rw [av_sa, if_pos rfl]; simp only [Nat.sub_self, if_true]; omega) (by rfl) (by omega) hB _ _ hP hS ls (lv_sub hl [0, 1, 2, 3, 4, 5, 6, 7] rfl)
        exact lp32 13 S1 1 (by omega) (by omega) (by exact hB.2 5 r) (by rw [dsS, ← hv]; simp only [d0F, if_pos c11]) (by omega) hB _ _ hP hS ls (lv_sub hl [0, 1, 2, 3, 4] rfl)
      · refine lv_aload_n hx hb dX2_distance_14 rfl (lv_at hl 2 rfl) ?_
        refine va_get (D := D) (ci := 2) (v := Value.ref (a 15)) (C := "ReaderRows$Names") (T := TX2) (N := 4) hx hb ht inX2 hown hK hP 2 rfl rfl 3 (by decide) (ht _ m_55) (fun _ h9 => h9) rfl dX2_distance_15 ?_
        refine lv_iload hx hb dX2_distance_18 (lv_at hl 0 rfl) ?_
        refine lv_iload hx hb dX2_distance_20 (lv_at hl 0 rfl) ?_
        refine r_iast_n (f := av S1 7) hx hb hK hP (hD _) hS 15 9 rfl rfl (i := co0) (x := co0) (show _ < 13 by omega) (by decide) dX2_distance_22 (fun H locs hP hD1 hS => ?_)
        have hP : va_P D vwCl (clW g a (sa S1 7 co0 co0)) H := hP
        clear hD1
        have hB : cbd (sa S1 7 co0 co0) := bd_sa hB (show co0 ≤ 24 by first | assumption | omega)
        refine lv_iinc (v := (nI (co0 + 1))) (lv' := [(4, Value.int (nI (co0 + 1))), (3, Value.int (nI (nv S 4))), (0, Value.ref (a 2)), (1, Value.int (nI r)), (2, Value.ref (a 5))]) hx hb dX2_distance_23 hl (k := 0) rfl (r_inc1 _) (by decide) rfl (fun ls hl => ?_)
        refine lv_goto (tgt := 8) hx hb dX2_distance_26 (by decide) ?_
        exact ih8 (sa S1 7 co0 co0) (co0 + 1) (by exact h5) (by omega) (by (simp only [d0F, if_neg c11] at hv; exact hv)) (by omega) hB _ _ hP hS ls (lv_sub hl [0, 1, 2, 3, 4] rfl)
  exact lp8 14 S 0 (by rfl) (by omega) (by rfl) (by omega) hB _ _ hP hS ls (lv_sub hl [0, 1, 2, 3, 4] rfl)
end
section
set_option maxRecDepth 100000 in
set_option maxHeartbeats 4000000 in
theorem c_ca_placeOf (l : Launch) (D : va_G) (g : Nat → ClassId) (a : Nat → Nat)  (S : St) (hB : cbd S) (ch : Int32) : Met l yX0_placeOf wsX0_placeOf ({ frames := 0, cells := 0, slots := 0, locals := 0 } : Room) (va_Pc [Value.ref (a 3), Value.int ch] (wPre D vwCl (clW g a S) (clT g))) (k2_QcV (Value.int (poR S ch))) 0 0 (fun _ => False) := by
  refine Met.ofW (cc := cX0_placeOf) (maxL := 3) (ret := (some .int)) (by decide) rfl ?_
  intro p e s m args below meth c s₁ B hml hv
  obtain ⟨rfl, hP, hK⟩ := hv
  have hx := B.exec
  have hb := B.bytes
  have hr := B.returns
  have hts := atoms_spec (ws := wsX0_placeOf) B.pre
  have ht := fun (w : Cond) (h : w ∈ lw_g) => hts w (List.mem_cons_of_mem _ h)
  have hown : s.vm.findClass "ReaderRows$Cards" = some m.cls := findClass_of_methodNamed B.named
  have hlocks := B.notSynchronized
  have hl := lv_entry ([Value.ref (a 3), Value.int ch]) (n := 3) (Nat.le_of_ble_eq_true rfl)
  rw [lg_entry_eq]
  generalize (lg_sl ([Value.ref (a 3), Value.int ch]) ++ List.replicate (3 - (lg_sl ([Value.ref (a 3), Value.int ch])).length) Slot.unset).toArray = ls at hl ⊢
  have hl : lv_has ls 3 [(0, Value.ref (a 3)), (1, Value.int ch)] := hl
  refine lv_iconst (v := (nI 0)) hx hb dX0_placeOf_0 (by decide) ?_
  refine lv_istore_n (lv' := [(2, Value.int (nI 0)), (0, Value.ref (a 3)), (1, Value.int ch)]) hx hb dX0_placeOf_1 rfl hl (by decide) rfl (fun ls hl => ?_)
  have lp2 : ∀ (f2 : Nat) (pl : Nat), pl ≤ nv S 1 → poF S ch f2 pl = po S ch → nv S 1 + 1 ≤ pl + f2 → ∀ (ls : Array Slot), lv_has ls 3 [(2, Value.int (nI pl)), (0, Value.ref (a 3)), (1, Value.int ch)] → W p l e (headSpec wsX0_placeOf ({ frames := 0, cells := 0, slots := 0, locals := 0 } : Room)).room s m ([Value.ref (a 3), Value.int ch] : List Value).toArray below meth c s.heap [] 0 0 (MQ below (k2_QcV (Value.int (poR S ch))) ([Value.ref (a 3), Value.int ch] : List Value).toArray s 0 0 (fun _ => False)) (F0 m 2 ls []) := by
    intro f2
    induction f2 with
    | zero =>
      intro pl hp hv hfu
      exact absurd hfu (by omega)
    | succ f2 ih2 =>
      intro pl hp hv hfu ls hl
      have b_N1 : nv S 1 ≤ 300 := hB.1 1
      refine lv_iload_n hx hb dX0_placeOf_2 rfl (lv_at hl 0 rfl) ?_
      refine lv_aload_n hx hb dX0_placeOf_3 rfl (lv_at hl 1 rfl) ?_
      refine va_get (D := D) (ci := 0) (v := Value.int (nI (nv S 1))) (C := "ReaderRows$Cards") (T := TX0) (N := 4) hx hb ht inX0 hown hK hP 3 rfl rfl 0 (by decide) (ht _ m_72) (fun _ h9 => h9) rfl dX0_placeOf_4 ?_
      have b_N1 : nv S 1 ≤ 300 := hB.1 1
      refine r_icmp_ge (tgt := 28) hx hb dX0_placeOf_7 (by decide) (by omega) (by omega) (fun c7 => ?_) (fun c7 => ?_)
      · refine lv_iconst (v := (-1)) hx hb dX0_placeOf_28 (by decide) ?_
        have hv9 : (-1) = (poR S ch) := by have e9 : po S ch = nv S 1 := (by rw [← hv]; simp only [poF, if_pos c7]); rw [poR, e9, if_neg (by omega)]
        exact W.iret (v := (-1)) hx hb hr (fun t ht hW => ⟨congrArg (fun z => Outcome.returned (some (Value.int z))) hv9, ht⟩) (fun _ h => by cases h) dX0_placeOf_29
      · refine lv_aload_n hx hb dX0_placeOf_10 rfl (lv_at hl 1 rfl) ?_
        refine va_get (D := D) (ci := 0) (v := Value.ref (a 16)) (C := "ReaderRows$Cards") (T := TX0) (N := 4) hx hb ht inX0 hown hK hP 3 rfl rfl 1 (by decide) (ht _ m_73) (fun _ h9 => h9) rfl dX0_placeOf_11 ?_
        refine lv_iload_n hx hb dX0_placeOf_14 rfl (lv_at hl 0 rfl) ?_
        refine r_iald_x (f := xv S 0) hx hb hK hP 16 10 rfl rfl (i := pl) (show _ < 300 by first | omega | (simp only [Nat.lt_iff_add_one_le] at *; omega)) (by decide) dX0_placeOf_15 ?_
        refine lv_iload_n hx hb dX0_placeOf_16 rfl (lv_at hl 2 rfl) ?_
        refine lv_icmp_ne (tgt := 22) hx hb dX0_placeOf_17 (by decide) (fun c17 => ?_) (fun c17 => ?_)
        · refine lv_iinc (v := (nI (pl + 1))) (lv' := [(2, Value.int (nI (pl + 1))), (0, Value.ref (a 3)), (1, Value.int ch)]) hx hb dX0_placeOf_22 hl (k := 0) rfl (r_inc1 _) (by decide) rfl (fun ls hl => ?_)
          refine lv_goto (tgt := 2) hx hb dX0_placeOf_25 (by decide) ?_
          exact ih2 (pl + 1) (by omega) (by (simp only [poF, if_neg c7, if_neg c17] at hv; exact hv)) (by omega)  ls (lv_sub hl [0, 1, 2] rfl)
        · refine lv_iload_n hx hb dX0_placeOf_20 rfl (lv_at hl 0 rfl) ?_
          have hv9 : (nI pl) = (poR S ch) := by have e9 : po S ch = pl := (by rw [← hv]; simp only [poF, if_neg c7, if_pos c17]); rw [poR, e9, if_pos (by omega)]
          exact W.iret (v := (nI pl)) hx hb hr (fun t ht hW => ⟨congrArg (fun z => Outcome.returned (some (Value.int z))) hv9, ht⟩) (fun _ h => by cases h) dX0_placeOf_21
  exact lp2 (nv S 1 + 1) 0 (by omega) (by rfl) (by omega)  ls (lv_sub hl [0, 1, 2] rfl)

set_option maxRecDepth 100000 in
set_option maxHeartbeats 4000000 in
theorem c_ca_isTaken (l : Launch) (D : va_G) (g : Nat → ClassId) (a : Nat → Nat)  (S : St) (hB : cbd S) (ch : Int32) : Met l yX0_isTaken wsX0_isTaken ({ frames := 1, cells := 0, slots := 0, locals := 22 } : Room) (va_Pc [Value.ref (a 3), Value.int ch] (wPre D vwCl (clW g a S) (clT g))) (k2_QcV (Value.int (nI (bN (po S ch < nv S 1))))) 0 0 (fun _ => False) := by
  refine Met.ofW (cc := cX0_isTaken) (maxL := 2) (ret := (some .boolean)) (by decide) rfl ?_
  intro p e s m args below meth c s₁ B hml hv
  obtain ⟨rfl, hP, hK⟩ := hv
  have hx := B.exec
  have hb := B.bytes
  have hr := B.returns
  have hts := atoms_spec (ws := wsX0_isTaken) B.pre
  have ht := fun (w : Cond) (h : w ∈ lw_g) => hts w (List.mem_cons_of_mem _ h)
  have hown : s.vm.findClass "ReaderRows$Cards" = some m.cls := findClass_of_methodNamed B.named
  have hlocks := B.notSynchronized
  have hl := lv_entry ([Value.ref (a 3), Value.int ch]) (n := 2) (Nat.le_of_ble_eq_true rfl)
  rw [lg_entry_eq]
  generalize (lg_sl ([Value.ref (a 3), Value.int ch]) ++ List.replicate (2 - (lg_sl ([Value.ref (a 3), Value.int ch])).length) Slot.unset).toArray = ls at hl ⊢
  have hl : lv_has ls 2 [(0, Value.ref (a 3)), (1, Value.int ch)] := hl
  refine lv_aload_n hx hb dX0_isTaken_0 rfl (lv_at hl 0 rfl) ?_
  refine lv_iload_n hx hb dX0_isTaken_1 rfl (lv_at hl 1 rfl) ?_
  refine r_callR (r := Value.int (poR S ch)) (As := [Value.int ch]) (rest := []) ⟨hx, hb, hml, hown, ht⟩ (c_ca_placeOf l D g a S hB ch) (cwV 1 ht (gdV m_188 m_190 ms_0 m_4 m_191) rfl rfl rfl (by decide +kernel) ⟨Nat.le_of_ble_eq_true rfl, Nat.le_of_ble_eq_true rfl⟩) (va_recv hK hP (ci := 0) (q0 := 3) rfl rfl) hP hK rfl hl.1 rfl (Nat.le_of_ble_eq_true rfl) dX0_isTaken_2 ⟨Nat.zero_le _, Nat.zero_le _⟩ ?_
  refine lv_iconst (v := (-1)) hx hb dX0_isTaken_5 (by decide) ?_
  refine lv_icmp_eq (tgt := 13) hx hb dX0_isTaken_6 (by decide) (fun c6 => ?_) (fun c6 => ?_)
  · refine lv_iconst (v := (nI 0)) hx hb dX0_isTaken_13 (by decide) ?_
    have hv9 : (nI 0) = (nI (bN (po S ch < nv S 1))) := by first | exact r_one (poR_in c6).1 | exact r_zero (poR_out hB c6)
    have hn9 : narrow .boolean (Value.int (nI 0)) = Value.int (nI 0) := by exact r_nz (by omega)
    exact W.zret (v := (nI 0)) (ty := .boolean) hx hb hr hn9 (fun t ht hW => ⟨congrArg (fun z => Outcome.returned (some (Value.int z))) hv9, ht⟩) (fun _ h => by cases h) dX0_isTaken_14
  · refine lv_iconst (v := (nI 1)) hx hb dX0_isTaken_9 (by decide) ?_
    refine lv_goto (tgt := 14) hx hb dX0_isTaken_10 (by decide) ?_
    have hv9 : (nI 1) = (nI (bN (po S ch < nv S 1))) := by first | exact r_one (poR_in c6).1 | exact r_zero (poR_out hB c6)
    have hn9 : narrow .boolean (Value.int (nI 1)) = Value.int (nI 1) := by exact r_nz (by omega)
    exact W.zret (v := (nI 1)) (ty := .boolean) hx hb hr hn9 (fun t ht hW => ⟨congrArg (fun z => Outcome.returned (some (Value.int z))) hv9, ht⟩) (fun _ h => by cases h) dX0_isTaken_14

set_option maxRecDepth 100000 in
set_option maxHeartbeats 4000000 in
theorem c_ca_holderOfGood (l : Launch) (D : va_G) (g : Nat → ClassId) (a : Nat → Nat)  (S : St) (hB : cbd S) (ch : Int32) : Met l yX0_holderOfGood wsX0_holderOfGood ({ frames := 1, cells := 0, slots := 0, locals := 22 } : Room) (va_Pc [Value.ref (a 3), Value.int ch] (wPre D vwCl (clW g a S) (clT g))) (k2_QcV (Value.int (nI (hg S ch)))) 0 0 (fun _ => False) := by
  refine Met.ofW (cc := cX0_holderOfGood) (maxL := 3) (ret := (some .int)) (by decide) rfl ?_
  intro p e s m args below meth c s₁ B hml hv
  obtain ⟨rfl, hP, hK⟩ := hv
  have hx := B.exec
  have hb := B.bytes
  have hr := B.returns
  have hts := atoms_spec (ws := wsX0_holderOfGood) B.pre
  have ht := fun (w : Cond) (h : w ∈ lw_g) => hts w (List.mem_cons_of_mem _ h)
  have hown : s.vm.findClass "ReaderRows$Cards" = some m.cls := findClass_of_methodNamed B.named
  have hlocks := B.notSynchronized
  have hl := lv_entry ([Value.ref (a 3), Value.int ch]) (n := 3) (Nat.le_of_ble_eq_true rfl)
  rw [lg_entry_eq]
  generalize (lg_sl ([Value.ref (a 3), Value.int ch]) ++ List.replicate (3 - (lg_sl ([Value.ref (a 3), Value.int ch])).length) Slot.unset).toArray = ls at hl ⊢
  have hl : lv_has ls 3 [(0, Value.ref (a 3)), (1, Value.int ch)] := hl
  refine lv_aload_n hx hb dX0_holderOfGood_0 rfl (lv_at hl 0 rfl) ?_
  refine lv_iload_n hx hb dX0_holderOfGood_1 rfl (lv_at hl 1 rfl) ?_
  refine r_callR (r := Value.int (poR S ch)) (As := [Value.int ch]) (rest := []) ⟨hx, hb, hml, hown, ht⟩ (c_ca_placeOf l D g a S hB ch) (cwV 1 ht (gdV m_188 m_190 ms_0 m_4 m_191) rfl rfl rfl (by decide +kernel) ⟨Nat.le_of_ble_eq_true rfl, Nat.le_of_ble_eq_true rfl⟩) (va_recv hK hP (ci := 0) (q0 := 3) rfl rfl) hP hK rfl hl.1 rfl (Nat.le_of_ble_eq_true rfl) dX0_holderOfGood_2 ⟨Nat.zero_le _, Nat.zero_le _⟩ ?_
  refine lv_istore_n (lv' := [(2, Value.int (poR S ch)), (0, Value.ref (a 3)), (1, Value.int ch)]) hx hb dX0_holderOfGood_5 rfl hl (by decide) rfl (fun ls hl => ?_)
  refine lv_iload_n hx hb dX0_holderOfGood_6 rfl (lv_at hl 0 rfl) ?_
  refine lv_iconst (v := (-1)) hx hb dX0_holderOfGood_7 (by decide) ?_
  refine lv_icmp_eq (tgt := 20) hx hb dX0_holderOfGood_8 (by decide) (fun c8 => ?_) (fun c8 => ?_)
  · refine lv_iconst (v := (nI 0)) hx hb dX0_holderOfGood_20 (by decide) ?_
    refine lv_goto (tgt := 30) hx hb dX0_holderOfGood_21 (by decide) ?_
    have hv9 : (nI 0) = (nI (hg S ch)) := by first | (simp only [hg, if_neg (poR_out hB c8)]; done) | (simp only [hg, if_pos c9, if_neg c17]; done) | (simp only [hg, if_pos c9, if_pos c17]; done)
    exact W.iret (v := (nI 0)) hx hb hr (fun t ht hW => ⟨congrArg (fun z => Outcome.returned (some (Value.int z))) hv9, ht⟩) (fun _ h => by cases h) dX0_holderOfGood_30
  · have c9 := (poR_in c8).1
    have b_N1 : nv S 1 ≤ 300 := hB.1 1
    rw [(poR_in c8).2] at hl
    refine lv_aload_n hx hb dX0_holderOfGood_11 rfl (lv_at hl 1 rfl) ?_
    refine va_get (D := D) (ci := 0) (v := Value.ref (a 18)) (C := "ReaderRows$Cards") (T := TX0) (N := 4) hx hb ht inX0 hown hK hP 3 rfl rfl 3 (by decide) (ht _ m_75) (fun _ h9 => h9) rfl dX0_holderOfGood_12 ?_
    refine lv_iload_n hx hb dX0_holderOfGood_15 rfl (lv_at hl 0 rfl) ?_
    refine r_zald_n (f := av S 9) hx hb hK hP 18 12 rfl rfl (i := (po S ch)) (show _ < 300 by first | omega | (simp only [Nat.lt_iff_add_one_le] at *; omega)) (by decide) dX0_holderOfGood_16 ?_
    have b_V9_16 : av S 9 (po S ch) ≤ 1 := hB.2 9 (po S ch)
    refine r_if_eq_n (tgt := 24) hx hb dX0_holderOfGood_17 (by decide) (by omega) (fun c17 => ?_) (fun c17 => ?_)
    · refine lv_aload_n hx hb dX0_holderOfGood_24 rfl (lv_at hl 1 rfl) ?_
      refine va_get (D := D) (ci := 0) (v := Value.ref (a 17)) (C := "ReaderRows$Cards") (T := TX0) (N := 4) hx hb ht inX0 hown hK hP 3 rfl rfl 2 (by decide) (ht _ m_74) (fun _ h9 => h9) rfl dX0_holderOfGood_25 ?_
      refine lv_iload_n hx hb dX0_holderOfGood_28 rfl (lv_at hl 0 rfl) ?_
      refine r_iald_n (f := av S 8) hx hb hK hP 17 11 rfl rfl (i := (po S ch)) (show _ < 300 by first | omega | (simp only [Nat.lt_iff_add_one_le] at *; omega)) (by decide) dX0_holderOfGood_29 ?_
      have b_V8_29 : av S 8 (po S ch) ≤ 60 := hB.2 8 (po S ch)
      have hv9 : (nI (av S 8 (po S ch))) = (nI (hg S ch)) := by first | (simp only [hg, if_neg (poR_out hB c8)]; done) | (simp only [hg, if_pos c9, if_neg c17]; done) | (simp only [hg, if_pos c9, if_pos c17]; done)
      exact W.iret (v := (nI (av S 8 (po S ch)))) hx hb hr (fun t ht hW => ⟨congrArg (fun z => Outcome.returned (some (Value.int z))) hv9, ht⟩) (fun _ h => by cases h) dX0_holderOfGood_30
    · refine lv_iconst (v := (nI 0)) hx hb dX0_holderOfGood_20 (by decide) ?_
      refine lv_goto (tgt := 30) hx hb dX0_holderOfGood_21 (by decide) ?_
      have hv9 : (nI 0) = (nI (hg S ch)) := by first | (simp only [hg, if_neg (poR_out hB c8)]; done) | (simp only [hg, if_pos c9, if_neg c17]; done) | (simp only [hg, if_pos c9, if_pos c17]; done)
      exact W.iret (v := (nI 0)) hx hb hr (fun t ht hW => ⟨congrArg (fun z => Outcome.returned (some (Value.int z))) hv9, ht⟩) (fun _ h => by cases h) dX0_holderOfGood_30

set_option maxRecDepth 100000 in
set_option maxHeartbeats 4000000 in
theorem c_ca_lose (l : Launch) (D : va_G) (g : Nat → ClassId) (a : Nat → Nat) (hD : ∀ S : St, va_D (cA a) (clW g a S))  (S : St) (hB : cbd S) (ch : Int32) : Met l yX0_lose wsX0_lose ({ frames := 1, cells := 0, slots := 0, locals := 22 } : Room) (va_Pc [Value.ref (a 3), Value.int ch] (wPre D vwCl (clW g a S) (clT g))) (wQ none D vwCl (clW g a (loS S ch)) (cA a) (cbd (loS S ch))) 0 0 (cA a) := by
  refine Met.ofW (cc := cX0_lose) (maxL := 3) (ret := none) (by decide) rfl ?_
  intro p e s m args below meth c s₁ B hml hv
  obtain ⟨rfl, hP, hK⟩ := hv
  have hx := B.exec
  have hb := B.bytes
  have hr := B.returns
  have hts := atoms_spec (ws := wsX0_lose) B.pre
  have ht := fun (w : Cond) (h : w ∈ lw_g) => hts w (List.mem_cons_of_mem _ h)
  have hown : s.vm.findClass "ReaderRows$Cards" = some m.cls := findClass_of_methodNamed B.named
  have hlocks := B.notSynchronized
  have hS : va_S (cA a) s.heap s.heap [] := va_S.rf
  have hl := lv_entry ([Value.ref (a 3), Value.int ch]) (n := 3) (Nat.le_of_ble_eq_true rfl)
  rw [lg_entry_eq]
  generalize (lg_sl ([Value.ref (a 3), Value.int ch]) ++ List.replicate (3 - (lg_sl ([Value.ref (a 3), Value.int ch])).length) Slot.unset).toArray = ls at hl ⊢
  have hl : lv_has ls 3 [(0, Value.ref (a 3)), (1, Value.int ch)] := hl
  refine lv_aload_n hx hb dX0_lose_0 rfl (lv_at hl 0 rfl) ?_
  refine lv_iload_n hx hb dX0_lose_1 rfl (lv_at hl 1 rfl) ?_
  refine r_callR (r := Value.int (poR S ch)) (As := [Value.int ch]) (rest := []) ⟨hx, hb, hml, hown, ht⟩ (c_ca_placeOf l D g a S hB ch) (cwV 1 ht (gdV m_188 m_190 ms_0 m_4 m_191) rfl rfl rfl (by decide +kernel) ⟨Nat.le_of_ble_eq_true rfl, Nat.le_of_ble_eq_true rfl⟩) (va_recv hK hP (ci := 0) (q0 := 3) rfl rfl) hP hK rfl hl.1 rfl (Nat.le_of_ble_eq_true rfl) dX0_lose_2 ⟨Nat.zero_le _, Nat.zero_le _⟩ ?_
  refine lv_istore_n (lv' := [(2, Value.int (poR S ch)), (0, Value.ref (a 3)), (1, Value.int ch)]) hx hb dX0_lose_5 rfl hl (by decide) rfl (fun ls hl => ?_)
  refine lv_iload_n hx hb dX0_lose_6 rfl (lv_at hl 0 rfl) ?_
  refine lv_iconst (v := (-1)) hx hb dX0_lose_7 (by decide) ?_
  refine lv_icmp_eq (tgt := 18) hx hb dX0_lose_8 (by decide) (fun c8 => ?_) (fun c8 => ?_)
  · have hs9 : S = (loS S ch) := by first | (simp only [loS, if_neg (poR_out hB c8)]; done) | (simp only [loS, if_pos c9]; done)
    exact W.vret hx hb hr (fun t ht hW => ⟨rfl, by rw [ht, ← hs9]; exact hP, hS.F ht, by rw [← hs9]; exact hB⟩) hS.2.2 dX0_lose_18
  · have c9 := (poR_in c8).1
    have b_N1 : nv S 1 ≤ 300 := hB.1 1
    rw [(poR_in c8).2] at hl
    refine lv_aload_n hx hb dX0_lose_11 rfl (lv_at hl 1 rfl) ?_
    refine va_get (D := D) (ci := 0) (v := Value.ref (a 18)) (C := "ReaderRows$Cards") (T := TX0) (N := 4) hx hb ht inX0 hown hK hP 3 rfl rfl 3 (by decide) (ht _ m_75) (fun _ h9 => h9) rfl dX0_lose_12 ?_
    refine lv_iload_n hx hb dX0_lose_15 rfl (lv_at hl 0 rfl) ?_
    refine lv_iconst (v := (nI 1)) hx hb dX0_lose_16 (by decide) ?_
    refine r_zast_n (f := av S 9) hx hb hK hP (hD _) hS 18 12 rfl rfl (i := (po S ch)) (x := 1) (show _ < 300 by omega) (by decide) (show _ ≤ 1 by omega) dX0_lose_17 (fun H locs hP hD1 hS => ?_)
    have hP : va_P D vwCl (clW g a (sa S 9 (po S ch) 1)) H := hP
    clear hD1
    have hB : cbd (sa S 9 (po S ch) 1) := bd_sa hB (show 1 ≤ 1 by first | assumption | omega)
    have hs9 : (sa S 9 (po S ch) 1) = (loS S ch) := by first | (simp only [loS, if_neg (poR_out hB c8)]; done) | (simp only [loS, if_pos c9]; done)
    exact W.vret hx hb hr (fun t ht hW => ⟨rfl, by rw [ht, ← hs9]; exact hP, hS.F ht, by rw [← hs9]; exact hB⟩) hS.2.2 dX0_lose_18

set_option maxRecDepth 100000 in
set_option maxHeartbeats 4000000 in
theorem c_ca_add (l : Launch) (D : va_G) (g : Nat → ClassId) (a : Nat → Nat) (hD : ∀ S : St, va_D (cA a) (clW g a S))  (S : St) (hB : cbd S) (r : Nat) (ch : Int32) (hr0 : r ≤ 60) : Met l yX0_add wsX0_add ({ frames := 0, cells := 0, slots := 0, locals := 0 } : Room) (va_Pc [Value.ref (a 3), Value.int (nI r), Value.int ch] (wPre D vwCl (clW g a S) (clT g))) (wQ none D vwCl (clW g a (caS S r ch)) (cA a) (cbd (caS S r ch))) 0 0 (cA a) := by
  refine Met.ofW (cc := cX0_add) (maxL := 3) (ret := none) (by decide) rfl ?_
  intro p e s m args below meth c s₁ B hml hv
  obtain ⟨rfl, hP, hK⟩ := hv
  have hx := B.exec
  have hb := B.bytes
  have hr := B.returns
  have hts := atoms_spec (ws := wsX0_add) B.pre
  have ht := fun (w : Cond) (h : w ∈ lw_g) => hts w (List.mem_cons_of_mem _ h)
  have hown : s.vm.findClass "ReaderRows$Cards" = some m.cls := findClass_of_methodNamed B.named
  have hlocks := B.notSynchronized
  have hS : va_S (cA a) s.heap s.heap [] := va_S.rf
  have hl := lv_entry ([Value.ref (a 3), Value.int (nI r), Value.int ch]) (n := 3) (Nat.le_of_ble_eq_true rfl)
  rw [lg_entry_eq]
  generalize (lg_sl ([Value.ref (a 3), Value.int (nI r), Value.int ch]) ++ List.replicate (3 - (lg_sl ([Value.ref (a 3), Value.int (nI r), Value.int ch])).length) Slot.unset).toArray = ls at hl ⊢
  have hl : lv_has ls 3 [(0, Value.ref (a 3)), (1, Value.int (nI r)), (2, Value.int ch)] := hl
  refine lv_aload_n hx hb dX0_add_0 rfl (lv_at hl 0 rfl) ?_
  refine va_get (D := D) (ci := 0) (v := Value.int (nI (nv S 1))) (C := "ReaderRows$Cards") (T := TX0) (N := 4) hx hb ht inX0 hown hK hP 3 rfl rfl 0 (by decide) (ht _ m_72) (fun _ h9 => h9) rfl dX0_add_1 ?_
  have b_N1 : nv S 1 ≤ 300 := hB.1 1
  refine lv_sipush (v := (nI 300)) hx hb dX0_add_4 (by decide) ?_
  refine r_icmp_ge (tgt := 40) hx hb dX0_add_7 (by decide) (by omega) (by omega) (fun c7 => ?_) (fun c7 => ?_)
  · have hs9 : S = (caS S r ch) := by first | (simp only [caS, if_pos c7]; done) | (with_reducible rfl) | (simp only [caS, if_pos c7]; rfl) | rfl | (simp [caS, c7]; done)
    exact W.vret hx hb hr (fun t ht hW => ⟨rfl, by rw [ht, ← hs9]; exact hP, hS.F ht, by rw [← hs9]; exact hB⟩) hS.2.2 dX0_add_40
  · refine lv_aload_n hx hb dX0_add_10 rfl (lv_at hl 0 rfl) ?_
    refine va_get (D := D) (ci := 0) (v := Value.ref (a 16)) (C := "ReaderRows$Cards") (T := TX0) (N := 4) hx hb ht inX0 hown hK hP 3 rfl rfl 1 (by decide) (ht _ m_73) (fun _ h9 => h9) rfl dX0_add_11 ?_
    refine lv_aload_n hx hb dX0_add_14 rfl (lv_at hl 0 rfl) ?_
    refine va_get (D := D) (ci := 0) (v := Value.int (nI (nv S 1))) (C := "ReaderRows$Cards") (T := TX0) (N := 4) hx hb ht inX0 hown hK hP 3 rfl rfl 0 (by decide) (ht _ m_72) (fun _ h9 => h9) rfl dX0_add_15 ?_
    have b_N1 : nv S 1 ≤ 300 := hB.1 1
    refine lv_iload_n hx hb dX0_add_18 rfl (lv_at hl 2 rfl) ?_
    refine r_iast_x (f := xv S 0) hx hb hK hP (hD _) hS 16 10 rfl rfl (i := (nv S 1)) (x := ch) (show _ < 300 by omega) (by decide) dX0_add_19 (fun H locs hP hD1 hS => ?_)
    have hP : va_P D vwCl (clW g a (sx S 0 (nv S 1) ch)) H := hP
    clear hD1
    have hB : cbd (sx S 0 (nv S 1) ch) := bd_sx hB
    refine lv_aload_n hx hb dX0_add_20 rfl (lv_at hl 0 rfl) ?_
    refine va_get (D := D) (ci := 0) (v := Value.ref (a 17)) (C := "ReaderRows$Cards") (T := TX0) (N := 4) hx hb ht inX0 hown hK hP 3 rfl rfl 2 (by decide) (ht _ m_74) (fun _ h9 => h9) rfl dX0_add_21 ?_
    refine lv_aload_n hx hb dX0_add_24 rfl (lv_at hl 0 rfl) ?_
    refine va_get (D := D) (ci := 0) (v := Value.int (nI (nv S 1))) (C := "ReaderRows$Cards") (T := TX0) (N := 4) hx hb ht inX0 hown hK hP 3 rfl rfl 0 (by decide) (ht _ m_72) (fun _ h9 => h9) rfl dX0_add_25 ?_
    have b_N1 : nv S 1 ≤ 300 := hB.1 1
    refine lv_iload_n hx hb dX0_add_28 rfl (lv_at hl 1 rfl) ?_
    refine r_iast_n (f := av S 8) hx hb hK hP (hD _) hS 17 11 rfl rfl (i := (nv S 1)) (x := r) (show _ < 300 by omega) (by decide) dX0_add_29 (fun H locs hP hD1 hS => ?_)
    have hP : va_P D vwCl (clW g a (sa (sx S 0 (nv S 1) ch) 8 (nv S 1) r)) H := hP
    clear hD1
    have hB : cbd (sa (sx S 0 (nv S 1) ch) 8 (nv S 1) r) := bd_sa hB (show r ≤ 60 by first | assumption | omega)
    refine lv_aload_n hx hb dX0_add_30 rfl (lv_at hl 0 rfl) ?_
    refine lv_dup hx hb dX0_add_31 rfl ?_
    refine va_get (D := D) (ci := 0) (v := Value.int (nI (nv S 1))) (C := "ReaderRows$Cards") (T := TX0) (N := 4) hx hb ht inX0 hown hK hP 3 rfl rfl 0 (by decide) (ht _ m_72) (fun _ h9 => h9) rfl dX0_add_32 ?_
    have b_N1 : nv S 1 ≤ 300 := hB.1 1
    refine lv_iconst (v := (nI 1)) hx hb dX0_add_35 (by decide) ?_
    refine r_iadd hx hb dX0_add_36 ?_
    refine va_put (D := D) (ci := 0) (v := Value.int (nI ((nv S 1) + 1))) (ty := .int) (C := "ReaderRows$Cards") (T := TX0) (N := 4) hx hb ht inX0 tyX0 tyX0_ok nmX0 hown hK hP (hD _) hS 3 rfl rfl 0 (by decide) (ht _ m_72) (fun _ h9 => h9) rfl (by decide +kernel) rfl rfl (Nat.le_of_ble_eq_true rfl) dX0_add_37 (fun H locs hP hD1 hS => ?_)
    have hP : va_P D vwCl (clW g a (sn (sa (sx S 0 (nv S 1) ch) 8 (nv S 1) r) 1 ((nv S 1) + 1))) H := hP
    clear hD1
    have hB : cbd (sn (sa (sx S 0 (nv S 1) ch) 8 (nv S 1) r) 1 ((nv S 1) + 1)) := bd_sn hB (show (nv S 1) + 1 ≤ 300 by first | assumption | omega)
    have hs9 : (sn (sa (sx S 0 (nv S 1) ch) 8 (nv S 1) r) 1 ((nv S 1) + 1)) = (caS S r ch) := by first | (simp only [caS, if_neg c7]; done) | (with_reducible rfl) | (simp only [caS, if_neg c7]; rfl) | rfl | (simp [caS, c7]; done)
    exact W.vret hx hb hr (fun t ht hW => ⟨rfl, by rw [ht, ← hs9]; exact hP, hS.F ht, by rw [← hs9]; exact hB⟩) hS.2.2 dX0_add_40

set_option maxRecDepth 100000 in
set_option maxHeartbeats 4000000 in
theorem c_ca_countOf (l : Launch) (D : va_G) (g : Nat → ClassId) (a : Nat → Nat)  (S : St) (hB : cbd S) (r : Nat) (hr0 : r ≤ 60) : Met l yX0_countOf wsX0_countOf ({ frames := 0, cells := 0, slots := 0, locals := 0 } : Room) (va_Pc [Value.ref (a 3), Value.int (nI r)] (wPre D vwCl (clW g a S) (clT g))) (k2_QcV (Value.int (nI (co S r)))) 0 0 (fun _ => False) := by
  refine Met.ofW (cc := cX0_countOf) (maxL := 4) (ret := (some .int)) (by decide) rfl ?_
  intro p e s m args below meth c s₁ B hml hv
  obtain ⟨rfl, hP, hK⟩ := hv
  have hx := B.exec
  have hb := B.bytes
  have hr := B.returns
  have hts := atoms_spec (ws := wsX0_countOf) B.pre
  have ht := fun (w : Cond) (h : w ∈ lw_g) => hts w (List.mem_cons_of_mem _ h)
  have hown : s.vm.findClass "ReaderRows$Cards" = some m.cls := findClass_of_methodNamed B.named
  have hlocks := B.notSynchronized
  have hl := lv_entry ([Value.ref (a 3), Value.int (nI r)]) (n := 4) (Nat.le_of_ble_eq_true rfl)
  rw [lg_entry_eq]
  generalize (lg_sl ([Value.ref (a 3), Value.int (nI r)]) ++ List.replicate (4 - (lg_sl ([Value.ref (a 3), Value.int (nI r)])).length) Slot.unset).toArray = ls at hl ⊢
  have hl : lv_has ls 4 [(0, Value.ref (a 3)), (1, Value.int (nI r))] := hl
  refine lv_iconst (v := (nI 0)) hx hb dX0_countOf_0 (by decide) ?_
  refine lv_istore_n (lv' := [(2, Value.int (nI 0)), (0, Value.ref (a 3)), (1, Value.int (nI r))]) hx hb dX0_countOf_1 rfl hl (by decide) rfl (fun ls hl => ?_)
  refine lv_iconst (v := (nI 0)) hx hb dX0_countOf_2 (by decide) ?_
  refine lv_istore_n (lv' := [(3, Value.int (nI 0)), (2, Value.int (nI 0)), (0, Value.ref (a 3)), (1, Value.int (nI r))]) hx hb dX0_countOf_3 rfl hl (by decide) rfl (fun ls hl => ?_)
  have lp4 : ∀ (f4 : Nat) (z : Nat) (pl : Nat), pl ≤ nv S 1 → z = ct (fun j => av S 8 j = r) pl → nv S 1 + 1 ≤ pl + f4 → ∀ (ls : Array Slot), lv_has ls 4 [(3, Value.int (nI pl)), (2, Value.int (nI z)), (0, Value.ref (a 3)), (1, Value.int (nI r))] → W p l e (headSpec wsX0_countOf ({ frames := 0, cells := 0, slots := 0, locals := 0 } : Room)).room s m ([Value.ref (a 3), Value.int (nI r)] : List Value).toArray below meth c s.heap [] 0 0 (MQ below (k2_QcV (Value.int (nI (co S r)))) ([Value.ref (a 3), Value.int (nI r)] : List Value).toArray s 0 0 (fun _ => False)) (F0 m 4 ls []) := by
    intro f4
    induction f4 with
    | zero =>
      intro z pl hp hz hfu
      exact absurd hfu (by omega)
    | succ f4 ih4 =>
      intro z pl hp hz hfu ls hl
      have b_N1 : nv S 1 ≤ 300 := hB.1 1
      refine lv_iload_n hx hb dX0_countOf_4 rfl (lv_at hl 0 rfl) ?_
      refine lv_aload_n hx hb dX0_countOf_5 rfl (lv_at hl 2 rfl) ?_
      refine va_get (D := D) (ci := 0) (v := Value.int (nI (nv S 1))) (C := "ReaderRows$Cards") (T := TX0) (N := 4) hx hb ht inX0 hown hK hP 3 rfl rfl 0 (by decide) (ht _ m_72) (fun _ h9 => h9) rfl dX0_countOf_6 ?_
      have b_N1 : nv S 1 ≤ 300 := hB.1 1
      refine r_icmp_ge (tgt := 31) hx hb dX0_countOf_9 (by decide) (by omega) (by omega) (fun c9 => ?_) (fun c9 => ?_)
      · refine lv_iload_n hx hb dX0_countOf_31 rfl (lv_at hl 1 rfl) ?_
        have hv9 : (nI z) = (nI (co S r)) := by rw [hz, co, show pl = nv S 1 by omega]
        exact W.iret (v := (nI z)) hx hb hr (fun t ht hW => ⟨congrArg (fun z => Outcome.returned (some (Value.int z))) hv9, ht⟩) (fun _ h => by cases h) dX0_countOf_32
      · refine lv_aload_n hx hb dX0_countOf_12 rfl (lv_at hl 2 rfl) ?_
        refine va_get (D := D) (ci := 0) (v := Value.ref (a 17)) (C := "ReaderRows$Cards") (T := TX0) (N := 4) hx hb ht inX0 hown hK hP 3 rfl rfl 2 (by decide) (ht _ m_74) (fun _ h9 => h9) rfl dX0_countOf_13 ?_
        refine lv_iload_n hx hb dX0_countOf_16 rfl (lv_at hl 0 rfl) ?_
        refine r_iald_n (f := av S 8) hx hb hK hP 17 11 rfl rfl (i := pl) (show _ < 300 by first | omega | (simp only [Nat.lt_iff_add_one_le] at *; omega)) (by decide) dX0_countOf_17 ?_
        have b_V8_17 : av S 8 pl ≤ 60 := hB.2 8 pl
        refine lv_iload_n hx hb dX0_countOf_18 rfl (lv_at hl 3 rfl) ?_
        refine r_icmp_ne (tgt := 25) hx hb dX0_countOf_19 (by decide) (by omega) (by omega) (fun c19 => ?_) (fun c19 => ?_)
        · refine lv_iinc (v := (nI (pl + 1))) (lv' := [(3, Value.int (nI (pl + 1))), (2, Value.int (nI z)), (0, Value.ref (a 3)), (1, Value.int (nI r))]) hx hb dX0_countOf_25 hl (k := 0) rfl (r_inc1 _) (by decide) rfl (fun ls hl => ?_)
          refine lv_goto (tgt := 4) hx hb dX0_countOf_28 (by decide) ?_
          exact ih4 z (pl + 1) (by omega) (by rw [hz]; first | (refine (ct_1 ?_).symm; exact c19) | (refine (ct_0 ?_).symm; exact c19)) (by omega)  ls (lv_sub hl [0, 1, 2, 3] rfl)
        · refine lv_iinc (v := (nI (z + 1))) (lv' := [(2, Value.int (nI (z + 1))), (3, Value.int (nI pl)), (0, Value.ref (a 3)), (1, Value.int (nI r))]) hx hb dX0_countOf_22 hl (k := 1) rfl (r_inc1 _) (by decide) rfl (fun ls hl => ?_)
          refine lv_iinc (v := (nI (pl + 1))) (lv' := [(3, Value.int (nI (pl + 1))), (2, Value.int (nI (z + 1))), (0, Value.ref (a 3)), (1, Value.int (nI r))]) hx hb dX0_countOf_25 hl (k := 1) rfl (r_inc1 _) (by decide) rfl (fun ls hl => ?_)
          refine lv_goto (tgt := 4) hx hb dX0_countOf_28 (by decide) ?_
          exact ih4 (z + 1) (pl + 1) (by omega) (by rw [hz]; first | (refine (ct_1 ?_).symm; exact c19) | (refine (ct_0 ?_).symm; exact c19)) (by omega)  ls (lv_sub hl [0, 1, 2, 3] rfl)
  exact lp4 (nv S 1 + 1) 0 0 (by omega) (by rfl) (by omega)  ls (lv_sub hl [0, 1, 2, 3] rfl)

set_option maxRecDepth 100000 in
set_option maxHeartbeats 4000000 in
theorem c_ca_moveAll (l : Launch) (D : va_G) (g : Nat → ClassId) (a : Nat → Nat) (hD : ∀ S : St, va_D (cA a) (clW g a S))  (S : St) (hB : cbd S) (u w : Nat) (hu : u ≤ 60) (hw : w ≤ 60) : Met l yX0_moveAll wsX0_moveAll ({ frames := 0, cells := 0, slots := 0, locals := 0 } : Room) (va_Pc [Value.ref (a 3), Value.int (nI u), Value.int (nI w)] (wPre D vwCl (clW g a S) (clT g))) (wQ none D vwCl (clW g a (mcS S u w)) (cA a) (cbd (mcS S u w))) 0 0 (cA a) := by
  refine Met.ofW (cc := cX0_moveAll) (maxL := 4) (ret := none) (by decide) rfl ?_
  intro p e s m args below meth c s₁ B hml hv
  obtain ⟨rfl, hP, hK⟩ := hv
  have hx := B.exec
  have hb := B.bytes
  have hr := B.returns
  have hts := atoms_spec (ws := wsX0_moveAll) B.pre
  have ht := fun (w : Cond) (h : w ∈ lw_g) => hts w (List.mem_cons_of_mem _ h)
  have hown : s.vm.findClass "ReaderRows$Cards" = some m.cls := findClass_of_methodNamed B.named
  have hlocks := B.notSynchronized
  have hS : va_S (cA a) s.heap s.heap [] := va_S.rf
  have hl := lv_entry ([Value.ref (a 3), Value.int (nI u), Value.int (nI w)]) (n := 4) (Nat.le_of_ble_eq_true rfl)
  rw [lg_entry_eq]
  generalize (lg_sl ([Value.ref (a 3), Value.int (nI u), Value.int (nI w)]) ++ List.replicate (4 - (lg_sl ([Value.ref (a 3), Value.int (nI u), Value.int (nI w)])).length) Slot.unset).toArray = ls at hl ⊢
  have hl : lv_has ls 4 [(0, Value.ref (a 3)), (1, Value.int (nI u)), (2, Value.int (nI w))] := hl
  refine lv_iconst (v := (nI 0)) hx hb dX0_moveAll_0 (by decide) ?_
  refine lv_istore_n (lv' := [(3, Value.int (nI 0)), (0, Value.ref (a 3)), (1, Value.int (nI u)), (2, Value.int (nI w))]) hx hb dX0_moveAll_1 rfl hl (by decide) rfl (fun ls hl => ?_)
  have lp2 : ∀ (f2 : Nat) (S1 : St) (pl : Nat), nv S1 1 = nv S 1 → pl ≤ nv S 1 → mcF u w f2 pl S1 = mcS S u w → nv S 1 + 1 ≤ pl + f2 → cbd S1 → ∀ (H : Heap) (locs : List Loc), va_P D vwCl (clW g a S1) H → va_S (cA a) s.heap H locs → ∀ (ls : Array Slot), lv_has ls 4 [(3, Value.int (nI pl)), (0, Value.ref (a 3)), (1, Value.int (nI u)), (2, Value.int (nI w))] → W p l e (headSpec wsX0_moveAll ({ frames := 0, cells := 0, slots := 0, locals := 0 } : Room)).room s m ([Value.ref (a 3), Value.int (nI u), Value.int (nI w)] : List Value).toArray below meth c H locs 0 0 (MQ below (wQ none D vwCl (clW g a (mcS S u w)) (cA a) (cbd (mcS S u w))) ([Value.ref (a 3), Value.int (nI u), Value.int (nI w)] : List Value).toArray s 0 0 (cA a)) (F0 m 2 ls []) := by
    intro f2
    induction f2 with
    | zero =>
      intro S1 pl hc hp hv hfu
      exact absurd hfu (by omega)
    | succ f2 ih2 =>
      intro S1 pl hc hp hv hfu hB H locs hP hS ls hl
      have b_N1 : nv S1 1 ≤ 300 := hB.1 1
      refine lv_iload_n hx hb dX0_moveAll_2 rfl (lv_at hl 0 rfl) ?_
      refine lv_aload_n hx hb dX0_moveAll_3 rfl (lv_at hl 1 rfl) ?_
      refine va_get (D := D) (ci := 0) (v := Value.int (nI (nv S1 1))) (C := "ReaderRows$Cards") (T := TX0) (N := 4) hx hb ht inX0 hown hK hP 3 rfl rfl 0 (by decide) (ht _ m_72) (fun _ h9 => h9) rfl dX0_moveAll_4 ?_
      have b_N1 : nv S1 1 ≤ 300 := hB.1 1
      refine r_icmp_ge (tgt := 33) hx hb dX0_moveAll_7 (by decide) (by omega) (by omega) (fun c7 => ?_) (fun c7 => ?_)
      · have hs9 : S1 = (mcS S u w) := by rw [← hv]; simp only [mcF, mv8, if_pos c7]
        exact W.vret hx hb hr (fun t ht hW => ⟨rfl, by rw [ht, ← hs9]; exact hP, hS.F ht, by rw [← hs9]; exact hB⟩) hS.2.2 dX0_moveAll_33
      · refine lv_aload_n hx hb dX0_moveAll_10 rfl (lv_at hl 1 rfl) ?_
        refine va_get (D := D) (ci := 0) (v := Value.ref (a 17)) (C := "ReaderRows$Cards") (T := TX0) (N := 4) hx hb ht inX0 hown hK hP 3 rfl rfl 2 (by decide) (ht _ m_74) (fun _ h9 => h9) rfl dX0_moveAll_11 ?_
        refine lv_iload_n hx hb dX0_moveAll_14 rfl (lv_at hl 0 rfl) ?_
        refine r_iald_n (f := av S1 8) hx hb hK hP 17 11 rfl rfl (i := pl) (show _ < 300 by first | omega | (simp only [Nat.lt_iff_add_one_le] at *; omega)) (by decide) dX0_moveAll_15 ?_
        have b_V8_15 : av S1 8 pl ≤ 60 := hB.2 8 pl
        refine lv_iload_n hx hb dX0_moveAll_16 rfl (lv_at hl 2 rfl) ?_
        refine r_icmp_ne (tgt := 27) hx hb dX0_moveAll_17 (by decide) (by omega) (by omega) (fun c17 => ?_) (fun c17 => ?_)
        · refine lv_iinc (v := (nI (pl + 1))) (lv' := [(3, Value.int (nI (pl + 1))), (0, Value.ref (a 3)), (1, Value.int (nI u)), (2, Value.int (nI w))]) hx hb dX0_moveAll_27 hl (k := 0) rfl (r_inc1 _) (by decide) rfl (fun ls hl => ?_)
          refine lv_goto (tgt := 2) hx hb dX0_moveAll_30 (by decide) ?_
          exact ih2 S1 (pl + 1) (by exact hc) (by omega) (by (simp only [mcF, mv8, if_neg c7, if_neg c17] at hv; exact hv)) (by omega) hB _ _ hP hS ls (lv_sub hl [0, 1, 2, 3] rfl)
        · refine lv_aload_n hx hb dX0_moveAll_20 rfl (lv_at hl 1 rfl) ?_
          refine va_get (D := D) (ci := 0) (v := Value.ref (a 17)) (C := "ReaderRows$Cards") (T := TX0) (N := 4) hx hb ht inX0 hown hK hP 3 rfl rfl 2 (by decide) (ht _ m_74) (fun _ h9 => h9) rfl dX0_moveAll_21 ?_
          refine lv_iload_n hx hb dX0_moveAll_24 rfl (lv_at hl 0 rfl) ?_
          refine lv_iload_n hx hb dX0_moveAll_25 rfl (lv_at hl 3 rfl) ?_
          refine r_iast_n (f := av S1 8) hx hb hK hP (hD _) hS 17 11 rfl rfl (i := pl) (x := w) (show _ < 300 by omega) (by decide) dX0_moveAll_26 (fun H locs hP hD1 hS => ?_)
          have hP : va_P D vwCl (clW g a (sa S1 8 pl w)) H := hP
          clear hD1
          have hB : cbd (sa S1 8 pl w) := bd_sa hB (show w ≤ 60 by first | assumption | omega)
          refine lv_iinc (v := (nI (pl + 1))) (lv' := [(3, Value.int (nI (pl + 1))), (0, Value.ref (a 3)), (1, Value.int (nI u)), (2, Value.int (nI w))]) hx hb dX0_moveAll_27 hl (k := 0) rfl (r_inc1 _) (by decide) rfl (fun ls hl => ?_)
          refine lv_goto (tgt := 2) hx hb dX0_moveAll_30 (by decide) ?_
          exact ih2 (sa S1 8 pl w) (pl + 1) (by exact hc) (by omega) (by (simp only [mcF, mv8, if_neg c7, if_pos c17] at hv; exact hv)) (by omega) hB _ _ hP hS ls (lv_sub hl [0, 1, 2, 3] rfl)
  exact lp2 (nv S 1 + 1) S 0 (by rfl) (by omega) (by rfl) (by omega) hB _ _ hP hS ls (lv_sub hl [0, 1, 2, 3] rfl)
end
section
set_option maxRecDepth 100000 in
set_option maxHeartbeats 4000000 in
theorem c_lo_count (l : Launch) (D : va_G) (g : Nat → ClassId) (a : Nat → Nat)  (S : St) (hB : cbd S)  : Met l yX1_count wsX1_count ({ frames := 0, cells := 0, slots := 0, locals := 0 } : Room) (va_Pc [Value.ref (a 4)] (wPre D vwCl (clW g a S) (clT g))) (k2_QcV (Value.int (nI (nv S 2)))) 0 0 (fun _ => False) := by
  refine Met.ofW (cc := cX1_count) (maxL := 1) (ret := (some .int)) (by decide) rfl ?_
  intro p e s m args below meth c s₁ B hml hv
  obtain ⟨rfl, hP, hK⟩ := hv
  have hx := B.exec
  have hb := B.bytes
  have hr := B.returns
  have hts := atoms_spec (ws := wsX1_count) B.pre
  have ht := fun (w : Cond) (h : w ∈ lw_g) => hts w (List.mem_cons_of_mem _ h)
  have hown : s.vm.findClass "ReaderRows$Loans" = some m.cls := findClass_of_methodNamed B.named
  have hlocks := B.notSynchronized
  have hl := lv_entry ([Value.ref (a 4)]) (n := 1) (Nat.le_of_ble_eq_true rfl)
  rw [lg_entry_eq]
  generalize (lg_sl ([Value.ref (a 4)]) ++ List.replicate (1 - (lg_sl ([Value.ref (a 4)])).length) Slot.unset).toArray = ls at hl ⊢
  have hl : lv_has ls 1 [(0, Value.ref (a 4))] := hl
  refine lv_aload_n hx hb dX1_count_0 rfl (lv_at hl 0 rfl) ?_
  refine va_get (D := D) (ci := 1) (v := Value.int (nI (nv S 2))) (C := "ReaderRows$Loans") (T := TX1) (N := 8) hx hb ht inX1 hown hK hP 4 rfl rfl 0 (by decide) (ht _ m_91) (fun _ h9 => h9) rfl dX1_count_1 ?_
  have b_N2 : nv S 2 ≤ 200 := hB.1 2
  have hv9 : (nI (nv S 2)) = (nI (nv S 2)) := by first | (simp only [Nat.add_zero, Nat.add_zero]; done) | (with_reducible rfl) | (simp only [Nat.add_zero, Nat.add_zero]; rfl) | rfl | (simp [Nat.add_zero, Nat.add_zero]; done)
  exact W.iret (v := (nI (nv S 2))) hx hb hr (fun t ht hW => ⟨congrArg (fun z => Outcome.returned (some (Value.int z))) hv9, ht⟩) (fun _ h => by cases h) dX1_count_4

set_option maxRecDepth 100000 in
set_option maxHeartbeats 4000000 in
theorem c_lo_putInOrder (l : Launch) (D : va_G) (g : Nat → ClassId) (a : Nat → Nat) (hD : ∀ S : St, va_D (cA a) (clW g a S))  (S : St) (hB : cbd S) (ln : Nat) (hl0 : ln ≤ 199) : Met l yX1_putInOrder wsX1_putInOrder ({ frames := 0, cells := 0, slots := 0, locals := 0 } : Room) (va_Pc [Value.ref (a 4), Value.int (nI ln)] (wPre D vwCl (clW g a S) (clT g))) (wQ none D vwCl (clW g a (piS S ln)) (cA a) (cbd (piS S ln))) 0 0 (cA a) := by
  refine Met.ofW (cc := cX1_putInOrder) (maxL := 3) (ret := none) (by decide) rfl ?_
  intro p e s m args below meth c s₁ B hml hv
  obtain ⟨rfl, hP, hK⟩ := hv
  have hx := B.exec
  have hb := B.bytes
  have hr := B.returns
  have hts := atoms_spec (ws := wsX1_putInOrder) B.pre
  have ht := fun (w : Cond) (h : w ∈ lw_g) => hts w (List.mem_cons_of_mem _ h)
  have hown : s.vm.findClass "ReaderRows$Loans" = some m.cls := findClass_of_methodNamed B.named
  have hlocks := B.notSynchronized
  have hS : va_S (cA a) s.heap s.heap [] := va_S.rf
  have hl := lv_entry ([Value.ref (a 4), Value.int (nI ln)]) (n := 3) (Nat.le_of_ble_eq_true rfl)
  rw [lg_entry_eq]
  generalize (lg_sl ([Value.ref (a 4), Value.int (nI ln)]) ++ List.replicate (3 - (lg_sl ([Value.ref (a 4), Value.int (nI ln)])).length) Slot.unset).toArray = ls at hl ⊢
  have hl : lv_has ls 3 [(0, Value.ref (a 4)), (1, Value.int (nI ln))] := hl
  refine lv_iload_n hx hb dX1_putInOrder_0 rfl (lv_at hl 1 rfl) ?_
  refine lv_istore_n (lv' := [(2, Value.int (nI ln)), (0, Value.ref (a 4)), (1, Value.int (nI ln))]) hx hb dX1_putInOrder_1 rfl hl (by decide) rfl (fun ls hl => ?_)
  have lp2 : ∀ (f2 : Nat) (S1 : St) (pl : Nat), pl ≤ ln → piF ln f2 pl S1 = piS S ln → pl + 1 ≤ f2 → cbd S1 → ∀ (H : Heap) (locs : List Loc), va_P D vwCl (clW g a S1) H → va_S (cA a) s.heap H locs → ∀ (ls : Array Slot), lv_has ls 3 [(2, Value.int (nI pl)), (0, Value.ref (a 4)), (1, Value.int (nI ln))] → W p l e (headSpec wsX1_putInOrder ({ frames := 0, cells := 0, slots := 0, locals := 0 } : Room)).room s m ([Value.ref (a 4), Value.int (nI ln)] : List Value).toArray below meth c H locs 0 0 (MQ below (wQ none D vwCl (clW g a (piS S ln)) (cA a) (cbd (piS S ln))) ([Value.ref (a 4), Value.int (nI ln)] : List Value).toArray s 0 0 (cA a)) (F0 m 2 ls []) := by
    intro f2
    induction f2 with
    | zero =>
      intro S1 pl hp hv hfu
      exact absurd hfu (by omega)
    | succ f2 ih2 =>
      intro S1 pl hp hv hfu hB H locs hP hS ls hl
      refine lv_iload_n hx hb dX1_putInOrder_2 rfl (lv_at hl 0 rfl) ?_
      refine r_if_le_n (tgt := 49) hx hb dX1_putInOrder_3 (by decide) (by omega) (fun c3 => ?_) (fun c3 => ?_)
      · refine lv_aload_n hx hb dX1_putInOrder_49 rfl (lv_at hl 1 rfl) ?_
        refine va_get (D := D) (ci := 1) (v := Value.ref (a 25)) (C := "ReaderRows$Loans") (T := TX1) (N := 8) hx hb ht inX1 hown hK hP 4 rfl rfl 7 (by decide) (ht _ m_98) (fun _ h9 => h9) rfl dX1_putInOrder_50 ?_
        refine lv_iload_n hx hb dX1_putInOrder_53 rfl (lv_at hl 0 rfl) ?_
        refine lv_iload_n hx hb dX1_putInOrder_54 rfl (lv_at hl 2 rfl) ?_
        refine r_iast_n (f := av S1 13) hx hb hK hP (hD _) hS 25 19 rfl rfl (i := pl) (x := ln) (show _ < 200 by omega) (by decide) dX1_putInOrder_55 (fun H locs hP hD1 hS => ?_)
        have hP : va_P D vwCl (clW g a (sa S1 13 pl ln)) H := hP
        clear hD1
        have hB : cbd (sa S1 13 pl ln) := bd_sa hB (show ln ≤ 199 by first | assumption | omega)
        have hs9 : (sa S1 13 pl ln) = (piS S ln) := by rw [← hv]; simp only [piF, if_pos c3]
        exact W.vret hx hb hr (fun t ht hW => ⟨rfl, by rw [ht, ← hs9]; exact hP, hS.F ht, by rw [← hs9]; exact hB⟩) hS.2.2 dX1_putInOrder_56
      · refine lv_aload_n hx hb dX1_putInOrder_6 rfl (lv_at hl 1 rfl) ?_
        refine va_get (D := D) (ci := 1) (v := Value.ref (a 23)) (C := "ReaderRows$Loans") (T := TX1) (N := 8) hx hb ht inX1 hown hK hP 4 rfl rfl 5 (by decide) (ht _ m_96) (fun _ h9 => h9) rfl dX1_putInOrder_7 ?_
        refine lv_aload_n hx hb dX1_putInOrder_10 rfl (lv_at hl 1 rfl) ?_
        refine va_get (D := D) (ci := 1) (v := Value.ref (a 25)) (C := "ReaderRows$Loans") (T := TX1) (N := 8) hx hb ht inX1 hown hK hP 4 rfl rfl 7 (by decide) (ht _ m_98) (fun _ h9 => h9) rfl dX1_putInOrder_11 ?_
        refine lv_iload_n hx hb dX1_putInOrder_14 rfl (lv_at hl 0 rfl) ?_
        refine lv_iconst (v := (nI 1)) hx hb dX1_putInOrder_15 (by decide) ?_
        refine r_isub hx hb dX1_putInOrder_16 (by omega) ?_
        refine r_iald_n (f := av S1 13) hx hb hK hP 25 19 rfl rfl (i := (pl - 1)) (show _ < 200 by first | omega | (simp only [Nat.lt_iff_add_one_le] at *; omega)) (by decide) dX1_putInOrder_17 ?_
        have b_V13_17 : av S1 13 (pl - 1) ≤ 199 := hB.2 13 (pl - 1)
        refine r_lald_y (f := yv S1 2) hx hb hK hP 23 17 rfl rfl (i := (av S1 13 (pl - 1))) (show _ < 200 by first | omega | (simp only [Nat.lt_iff_add_one_le] at *; omega)) (by decide) dX1_putInOrder_18 ?_
        refine lv_aload_n hx hb dX1_putInOrder_19 rfl (lv_at hl 1 rfl) ?_
        refine va_get (D := D) (ci := 1) (v := Value.ref (a 23)) (C := "ReaderRows$Loans") (T := TX1) (N := 8) hx hb ht inX1 hown hK hP 4 rfl rfl 5 (by decide) (ht _ m_96) (fun _ h9 => h9) rfl dX1_putInOrder_20 ?_
        refine lv_iload_n hx hb dX1_putInOrder_23 rfl (lv_at hl 2 rfl) ?_
        refine r_lald_y (f := yv S1 2) hx hb hK hP 23 17 rfl rfl (i := ln) (show _ < 200 by first | omega | (simp only [Nat.lt_iff_add_one_le] at *; omega)) (by decide) dX1_putInOrder_24 ?_
        refine W.lcmp hx hb dX1_putInOrder_25 ?_
        refine r_lc_le (tgt := 49) hx hb dX1_putInOrder_26 (by decide) (fun c26 => ?_) (fun c26 => ?_)
        · refine lv_aload_n hx hb dX1_putInOrder_49 rfl (lv_at hl 1 rfl) ?_
          refine va_get (D := D) (ci := 1) (v := Value.ref (a 25)) (C := "ReaderRows$Loans") (T := TX1) (N := 8) hx hb ht inX1 hown hK hP 4 rfl rfl 7 (by decide) (ht _ m_98) (fun _ h9 => h9) rfl dX1_putInOrder_50 ?_
          refine lv_iload_n hx hb dX1_putInOrder_53 rfl (lv_at hl 0 rfl) ?_
          refine lv_iload_n hx hb dX1_putInOrder_54 rfl (lv_at hl 2 rfl) ?_
          refine r_iast_n (f := av S1 13) hx hb hK hP (hD _) hS 25 19 rfl rfl (i := pl) (x := ln) (show _ < 200 by omega) (by decide) dX1_putInOrder_55 (fun H locs hP hD1 hS => ?_)
          have hP : va_P D vwCl (clW g a (sa S1 13 pl ln)) H := hP
          clear hD1
          have hB : cbd (sa S1 13 pl ln) := bd_sa hB (show ln ≤ 199 by first | assumption | omega)
          have hs9 : (sa S1 13 pl ln) = (piS S ln) := by rw [← hv]; simp only [piF, if_neg c3, if_pos c26]
          exact W.vret hx hb hr (fun t ht hW => ⟨rfl, by rw [ht, ← hs9]; exact hP, hS.F ht, by rw [← hs9]; exact hB⟩) hS.2.2 dX1_putInOrder_56
        · refine lv_aload_n hx hb dX1_putInOrder_29 rfl (lv_at hl 1 rfl) ?_
          refine va_get (D := D) (ci := 1) (v := Value.ref (a 25)) (C := "ReaderRows$Loans") (T := TX1) (N := 8) hx hb ht inX1 hown hK hP 4 rfl rfl 7 (by decide) (ht _ m_98) (fun _ h9 => h9) rfl dX1_putInOrder_30 ?_
          refine lv_iload_n hx hb dX1_putInOrder_33 rfl (lv_at hl 0 rfl) ?_
          refine lv_aload_n hx hb dX1_putInOrder_34 rfl (lv_at hl 1 rfl) ?_
          refine va_get (D := D) (ci := 1) (v := Value.ref (a 25)) (C := "ReaderRows$Loans") (T := TX1) (N := 8) hx hb ht inX1 hown hK hP 4 rfl rfl 7 (by decide) (ht _ m_98) (fun _ h9 => h9) rfl dX1_putInOrder_35 ?_
          refine lv_iload_n hx hb dX1_putInOrder_38 rfl (lv_at hl 0 rfl) ?_
          refine lv_iconst (v := (nI 1)) hx hb dX1_putInOrder_39 (by decide) ?_
          refine r_isub hx hb dX1_putInOrder_40 (by omega) ?_
          refine r_iald_n (f := av S1 13) hx hb hK hP 25 19 rfl rfl (i := (pl - 1)) (show _ < 200 by first | omega | (simp only [Nat.lt_iff_add_one_le] at *; omega)) (by decide) dX1_putInOrder_41 ?_
          have b_V13_41 : av S1 13 (pl - 1) ≤ 199 := hB.2 13 (pl - 1)
          refine r_iast_n (f := av S1 13) hx hb hK hP (hD _) hS 25 19 rfl rfl (i := pl) (x := (av S1 13 (pl - 1))) (show _ < 200 by omega) (by decide) dX1_putInOrder_42 (fun H locs hP hD1 hS => ?_)
          have hP : va_P D vwCl (clW g a (sa S1 13 pl (av S1 13 (pl - 1)))) H := hP
          clear hD1
          have hB : cbd (sa S1 13 pl (av S1 13 (pl - 1))) := bd_sa hB (show av S1 13 (pl - 1) ≤ 199 by first | assumption | omega)
          refine lv_iinc (v := (nI (pl - 1))) (lv' := [(2, Value.int (nI (pl - 1))), (0, Value.ref (a 4)), (1, Value.int (nI ln))]) hx hb dX1_putInOrder_43 hl (k := 0) rfl (r_dec1 (by omega)) (by decide) rfl (fun ls hl => ?_)
          refine lv_goto (tgt := 2) hx hb dX1_putInOrder_46 (by decide) ?_
          exact ih2 (sa S1 13 pl (av S1 13 (pl - 1))) (pl - 1) (by omega) (by (simp only [piF, if_neg c3, if_neg c26] at hv; exact hv)) (by omega) hB _ _ hP hS ls (lv_sub hl [0, 1, 2] rfl)
  exact lp2 (ln + 1) S ln (by omega) (by rfl) (by omega) hB _ _ hP hS ls (lv_sub hl [0, 1, 2] rfl)

set_option maxRecDepth 100000 in
set_option maxHeartbeats 4000000 in
theorem c_lo_add (l : Launch) (D : va_G) (g : Nat → ClassId) (a : Nat → Nat) (hD : ∀ S : St, va_D (cA a) (clW g a S))  (S : St) (hB : cbd S) (r k : Nat) (it : Int32) (fr to : Int64) (hr0 : r ≤ 60) (hk : k ≤ 4) : Met l yX1_add wsX1_add ({ frames := 1, cells := 0, slots := 0, locals := 22 } : Room) (va_Pc [Value.ref (a 4), Value.int (nI r), Value.int (nI k), Value.int it, Value.long fr, Value.long to] (wPre D vwCl (clW g a S) (clT g))) (wQ (some (Value.int (nI (laV S)))) D vwCl (clW g a (laS S r k it fr to)) (cA a) (cbd (laS S r k it fr to))) 0 0 (cA a) := by
  refine Met.ofW (cc := cX1_add) (maxL := 8) (ret := (some .int)) (by decide) rfl ?_
  intro p e s m args below meth c s₁ B hml hv
  obtain ⟨rfl, hP, hK⟩ := hv
  have hx := B.exec
  have hb := B.bytes
  have hr := B.returns
  have hts := atoms_spec (ws := wsX1_add) B.pre
  have ht := fun (w : Cond) (h : w ∈ lw_g) => hts w (List.mem_cons_of_mem _ h)
  have hown : s.vm.findClass "ReaderRows$Loans" = some m.cls := findClass_of_methodNamed B.named
  have hlocks := B.notSynchronized
  have hS : va_S (cA a) s.heap s.heap [] := va_S.rf
  have hl := lv_entry ([Value.ref (a 4), Value.int (nI r), Value.int (nI k), Value.int it, Value.long fr, Value.long to]) (n := 8) (Nat.le_of_ble_eq_true rfl)
  rw [lg_entry_eq]
  generalize (lg_sl ([Value.ref (a 4), Value.int (nI r), Value.int (nI k), Value.int it, Value.long fr, Value.long to]) ++ List.replicate (8 - (lg_sl ([Value.ref (a 4), Value.int (nI r), Value.int (nI k), Value.int it, Value.long fr, Value.long to])).length) Slot.unset).toArray = ls at hl ⊢
  have hl : lv_has ls 8 [(0, Value.ref (a 4)), (1, Value.int (nI r)), (2, Value.int (nI k)), (3, Value.int it), (4, Value.long fr), (6, Value.long to)] := hl
  refine lv_aload_n hx hb dX1_add_0 rfl (lv_at hl 0 rfl) ?_
  refine va_get (D := D) (ci := 1) (v := Value.int (nI (nv S 2))) (C := "ReaderRows$Loans") (T := TX1) (N := 8) hx hb ht inX1 hown hK hP 4 rfl rfl 0 (by decide) (ht _ m_91) (fun _ h9 => h9) rfl dX1_add_1 ?_
  have b_N2 : nv S 2 ≤ 200 := hB.1 2
  refine lv_sipush (v := (nI 200)) hx hb dX1_add_4 (by decide) ?_
  refine r_icmp_lt (tgt := 12) hx hb dX1_add_7 (by decide) (by omega) (by omega) (fun c7 => ?_) (fun c7 => ?_)
  · refine lv_aload_n hx hb dX1_add_12 rfl (lv_at hl 0 rfl) ?_
    refine va_get (D := D) (ci := 1) (v := Value.ref (a 19)) (C := "ReaderRows$Loans") (T := TX1) (N := 8) hx hb ht inX1 hown hK hP 4 rfl rfl 1 (by decide) (ht _ m_92) (fun _ h9 => h9) rfl dX1_add_13 ?_
    refine lv_aload_n hx hb dX1_add_16 rfl (lv_at hl 0 rfl) ?_
    refine va_get (D := D) (ci := 1) (v := Value.int (nI (nv S 2))) (C := "ReaderRows$Loans") (T := TX1) (N := 8) hx hb ht inX1 hown hK hP 4 rfl rfl 0 (by decide) (ht _ m_91) (fun _ h9 => h9) rfl dX1_add_17 ?_
    have b_N2 : nv S 2 ≤ 200 := hB.1 2
    refine lv_iload_n hx hb dX1_add_20 rfl (lv_at hl 1 rfl) ?_
    refine r_iast_n (f := av S 10) hx hb hK hP (hD _) hS 19 13 rfl rfl (i := (nv S 2)) (x := r) (show _ < 200 by omega) (by decide) dX1_add_21 (fun H locs hP hD1 hS => ?_)
    have hP : va_P D vwCl (clW g a (sa S 10 (nv S 2) r)) H := hP
    clear hD1
    have hB : cbd (sa S 10 (nv S 2) r) := bd_sa hB (show r ≤ 60 by first | assumption | omega)
    refine lv_aload_n hx hb dX1_add_22 rfl (lv_at hl 0 rfl) ?_
    refine va_get (D := D) (ci := 1) (v := Value.ref (a 20)) (C := "ReaderRows$Loans") (T := TX1) (N := 8) hx hb ht inX1 hown hK hP 4 rfl rfl 2 (by decide) (ht _ m_93) (fun _ h9 => h9) rfl dX1_add_23 ?_
    refine lv_aload_n hx hb dX1_add_26 rfl (lv_at hl 0 rfl) ?_
    refine va_get (D := D) (ci := 1) (v := Value.int (nI (nv S 2))) (C := "ReaderRows$Loans") (T := TX1) (N := 8) hx hb ht inX1 hown hK hP 4 rfl rfl 0 (by decide) (ht _ m_91) (fun _ h9 => h9) rfl dX1_add_27 ?_
    have b_N2 : nv S 2 ≤ 200 := hB.1 2
    refine lv_iload_n hx hb dX1_add_30 rfl (lv_at hl 2 rfl) ?_
    refine r_iast_n (f := av S 11) hx hb hK hP (hD _) hS 20 14 rfl rfl (i := (nv S 2)) (x := k) (show _ < 200 by omega) (by decide) dX1_add_31 (fun H locs hP hD1 hS => ?_)
    have hP : va_P D vwCl (clW g a (sa (sa S 10 (nv S 2) r) 11 (nv S 2) k)) H := hP
    clear hD1
    have hB : cbd (sa (sa S 10 (nv S 2) r) 11 (nv S 2) k) := bd_sa hB (show k ≤ 4 by first | assumption | omega)
    refine lv_aload_n hx hb dX1_add_32 rfl (lv_at hl 0 rfl) ?_
    refine va_get (D := D) (ci := 1) (v := Value.ref (a 21)) (C := "ReaderRows$Loans") (T := TX1) (N := 8) hx hb ht inX1 hown hK hP 4 rfl rfl 3 (by decide) (ht _ m_94) (fun _ h9 => h9) rfl dX1_add_33 ?_
    refine lv_aload_n hx hb dX1_add_36 rfl (lv_at hl 0 rfl) ?_
    refine va_get (D := D) (ci := 1) (v := Value.int (nI (nv S 2))) (C := "ReaderRows$Loans") (T := TX1) (N := 8) hx hb ht inX1 hown hK hP 4 rfl rfl 0 (by decide) (ht _ m_91) (fun _ h9 => h9) rfl dX1_add_37 ?_
    have b_N2 : nv S 2 ≤ 200 := hB.1 2
    refine lv_iload_n hx hb dX1_add_40 rfl (lv_at hl 3 rfl) ?_
    refine r_iast_x (f := xv S 1) hx hb hK hP (hD _) hS 21 15 rfl rfl (i := (nv S 2)) (x := it) (show _ < 200 by omega) (by decide) dX1_add_41 (fun H locs hP hD1 hS => ?_)
    have hP : va_P D vwCl (clW g a (sx (sa (sa S 10 (nv S 2) r) 11 (nv S 2) k) 1 (nv S 2) it)) H := hP
    clear hD1
    have hB : cbd (sx (sa (sa S 10 (nv S 2) r) 11 (nv S 2) k) 1 (nv S 2) it) := bd_sx hB
    refine lv_aload_n hx hb dX1_add_42 rfl (lv_at hl 0 rfl) ?_
    refine va_get (D := D) (ci := 1) (v := Value.ref (a 22)) (C := "ReaderRows$Loans") (T := TX1) (N := 8) hx hb ht inX1 hown hK hP 4 rfl rfl 4 (by decide) (ht _ m_95) (fun _ h9 => h9) rfl dX1_add_43 ?_
    refine lv_aload_n hx hb dX1_add_46 rfl (lv_at hl 0 rfl) ?_
    refine va_get (D := D) (ci := 1) (v := Value.int (nI (nv S 2))) (C := "ReaderRows$Loans") (T := TX1) (N := 8) hx hb ht inX1 hown hK hP 4 rfl rfl 0 (by decide) (ht _ m_91) (fun _ h9 => h9) rfl dX1_add_47 ?_
    have b_N2 : nv S 2 ≤ 200 := hB.1 2
    refine lv_lload hx hb dX1_add_50 (lv_at hl 4 rfl) ?_
    refine r_last_y (f := yv S 1) hx hb hK hP (hD _) hS 22 16 rfl rfl (i := (nv S 2)) (x := fr) (show _ < 200 by omega) (by decide) dX1_add_52 (fun H locs hP hD1 hS => ?_)
    have hP : va_P D vwCl (clW g a (sy (sx (sa (sa S 10 (nv S 2) r) 11 (nv S 2) k) 1 (nv S 2) it) 1 (nv S 2) fr)) H := hP
    clear hD1
    have hB : cbd (sy (sx (sa (sa S 10 (nv S 2) r) 11 (nv S 2) k) 1 (nv S 2) it) 1 (nv S 2) fr) := bd_sy hB
    refine lv_aload_n hx hb dX1_add_53 rfl (lv_at hl 0 rfl) ?_
    refine va_get (D := D) (ci := 1) (v := Value.ref (a 23)) (C := "ReaderRows$Loans") (T := TX1) (N := 8) hx hb ht inX1 hown hK hP 4 rfl rfl 5 (by decide) (ht _ m_96) (fun _ h9 => h9) rfl dX1_add_54 ?_
    refine lv_aload_n hx hb dX1_add_57 rfl (lv_at hl 0 rfl) ?_
    refine va_get (D := D) (ci := 1) (v := Value.int (nI (nv S 2))) (C := "ReaderRows$Loans") (T := TX1) (N := 8) hx hb ht inX1 hown hK hP 4 rfl rfl 0 (by decide) (ht _ m_91) (fun _ h9 => h9) rfl dX1_add_58 ?_
    have b_N2 : nv S 2 ≤ 200 := hB.1 2
    refine lv_lload hx hb dX1_add_61 (lv_at hl 5 rfl) ?_
    refine r_last_y (f := yv S 2) hx hb hK hP (hD _) hS 23 17 rfl rfl (i := (nv S 2)) (x := to) (show _ < 200 by omega) (by decide) dX1_add_63 (fun H locs hP hD1 hS => ?_)
    have hP : va_P D vwCl (clW g a (sy (sy (sx (sa (sa S 10 (nv S 2) r) 11 (nv S 2) k) 1 (nv S 2) it) 1 (nv S 2) fr) 2 (nv S 2) to)) H := hP
    clear hD1
    have hB : cbd (sy (sy (sx (sa (sa S 10 (nv S 2) r) 11 (nv S 2) k) 1 (nv S 2) it) 1 (nv S 2) fr) 2 (nv S 2) to) := bd_sy hB
    refine lv_aload_n hx hb dX1_add_64 rfl (lv_at hl 0 rfl) ?_
    refine lv_aload_n hx hb dX1_add_65 rfl (lv_at hl 0 rfl) ?_
    refine va_get (D := D) (ci := 1) (v := Value.int (nI (nv S 2))) (C := "ReaderRows$Loans") (T := TX1) (N := 8) hx hb ht inX1 hown hK hP 4 rfl rfl 0 (by decide) (ht _ m_91) (fun _ h9 => h9) rfl dX1_add_66 ?_
    have b_N2 : nv S 2 ≤ 200 := hB.1 2
    refine r_callW (st' := []) (As := [Value.int (nI (nv S 2))]) (rest := []) ⟨hx, hb, hml, hown, ht⟩ (c_lo_putInOrder l D g a hD (sy (sy (sx (sa (sa S 10 (nv S 2) r) 11 (nv S 2) k) 1 (nv S 2) it) 1 (nv S 2) fr) 2 (nv S 2) to) hB (nv S 2) (by omega)) (cwV 1 ht (gdV m_293 m_295 ms_4 m_5 m_296) rfl rfl rfl (by decide +kernel) ⟨Nat.le_of_ble_eq_true rfl, Nat.le_of_ble_eq_true rfl⟩) (va_recv hK hP (ci := 1) (q0 := 4) rfl rfl) hP hK rfl hS rfl hl.1 rfl (Nat.le_of_ble_eq_true rfl) dX1_add_69 ⟨Nat.zero_le _, Nat.zero_le _⟩ (fun H locs hP hS hB => ?_)
    refine lv_aload_n hx hb dX1_add_72 rfl (lv_at hl 0 rfl) ?_
    refine lv_dup hx hb dX1_add_73 rfl ?_
    have e2 : nv (piS (sy (sy (sx (sa (sa S 10 (nv S 2) r) 11 (nv S 2) k) 1 (nv S 2) it) 1 (nv S 2) fr) 2 (nv S 2) to) (nv S 2)) 2 = nv S 2 := piS_nv _ _ _
    refine va_get (D := D) (ci := 1) (v := Value.int (nI (nv (piS (sy (sy (sx (sa (sa S 10 (nv S 2) r) 11 (nv S 2) k) 1 (nv S 2) it) 1 (nv S 2) fr) 2 (nv S 2) to) (nv S 2)) 2))) (C := "ReaderRows$Loans") (T := TX1) (N := 8) hx hb ht inX1 hown hK hP 4 rfl rfl 0 (by decide) (ht _ m_91) (fun _ h9 => h9) rfl dX1_add_74 ?_
    have b_N2 : nv (piS (sy (sy (sx (sa (sa S 10 (nv S 2) r) 11 (nv S 2) k) 1 (nv S 2) it) 1 (nv S 2) fr) 2 (nv S 2) to) (nv S 2)) 2 ≤ 200 := hB.1 2
    refine lv_iconst (v := (nI 1)) hx hb dX1_add_77 (by decide) ?_
    refine r_iadd hx hb dX1_add_78 ?_
    refine va_put (D := D) (ci := 1) (v := Value.int (nI ((nv (piS (sy (sy (sx (sa (sa S 10 (nv S 2) r) 11 (nv S 2) k) 1 (nv S 2) it) 1 (nv S 2) fr) 2 (nv S 2) to) (nv S 2)) 2) + 1))) (ty := .int) (C := "ReaderRows$Loans") (T := TX1) (N := 8) hx hb ht inX1 tyX1 tyX1_ok nmX1 hown hK hP (hD _) hS 4 rfl rfl 0 (by decide) (ht _ m_91) (fun _ h9 => h9) rfl (by decide +kernel) rfl rfl (Nat.le_of_ble_eq_true rfl) dX1_add_79 (fun H locs hP hD1 hS => ?_)
    have hP : va_P D vwCl (clW g a (sn (piS (sy (sy (sx (sa (sa S 10 (nv S 2) r) 11 (nv S 2) k) 1 (nv S 2) it) 1 (nv S 2) fr) 2 (nv S 2) to) (nv S 2)) 2 ((nv (piS (sy (sy (sx (sa (sa S 10 (nv S 2) r) 11 (nv S 2) k) 1 (nv S 2) it) 1 (nv S 2) fr) 2 (nv S 2) to) (nv S 2)) 2) + 1))) H := hP
    clear hD1
    have hB : cbd (sn (piS (sy (sy (sx (sa (sa S 10 (nv S 2) r) 11 (nv S 2) k) 1 (nv S 2) it) 1 (nv S 2) fr) 2 (nv S 2) to) (nv S 2)) 2 ((nv (piS (sy (sy (sx (sa (sa S 10 (nv S 2) r) 11 (nv S 2) k) 1 (nv S 2) it) 1 (nv S 2) fr) 2 (nv S 2) to) (nv S 2)) 2) + 1)) := bd_sn hB (show (nv (piS (sy (sy (sx (sa (sa S 10 (nv S 2) r) 11 (nv S 2) k) 1 (nv S 2) it) 1 (nv S 2) fr) 2 (nv S 2) to) (nv S 2)) 2) + 1 ≤ 200 by first | assumption | omega)
    refine lv_aload_n hx hb dX1_add_82 rfl (lv_at hl 0 rfl) ?_
    refine va_get (D := D) (ci := 1) (v := Value.int (nI ((nv (piS (sy (sy (sx (sa (sa S 10 (nv S 2) r) 11 (nv S 2) k) 1 (nv S 2) it) 1 (nv S 2) fr) 2 (nv S 2) to) (nv S 2)) 2) + 1))) (C := "ReaderRows$Loans") (T := TX1) (N := 8) hx hb ht inX1 hown hK hP 4 rfl rfl 0 (by decide) (ht _ m_91) (fun _ h9 => h9) rfl dX1_add_83 ?_
    have b_N2 : (nv (piS (sy (sy (sx (sa (sa S 10 (nv S 2) r) 11 (nv S 2) k) 1 (nv S 2) it) 1 (nv S 2) fr) 2 (nv S 2) to) (nv S 2)) 2) + 1 ≤ 200 := hB.1 2
    have hv9 : (nI ((nv (piS (sy (sy (sx (sa (sa S 10 (nv S 2) r) 11 (nv S 2) k) 1 (nv S 2) it) 1 (nv S 2) fr) 2 (nv S 2) to) (nv S 2)) 2) + 1)) = (nI (laV S)) := by first | (simp only [laV, laS, lS1, piS_nv, if_pos c7]; done) | (with_reducible rfl) | (simp only [laV, laS, lS1, piS_nv, if_pos c7]; rfl) | rfl | (simp [laV, laS, lS1, piS_nv, c7]; done)
    have hs9 : (sn (piS (sy (sy (sx (sa (sa S 10 (nv S 2) r) 11 (nv S 2) k) 1 (nv S 2) it) 1 (nv S 2) fr) 2 (nv S 2) to) (nv S 2)) 2 ((nv (piS (sy (sy (sx (sa (sa S 10 (nv S 2) r) 11 (nv S 2) k) 1 (nv S 2) it) 1 (nv S 2) fr) 2 (nv S 2) to) (nv S 2)) 2) + 1)) = (laS S r k it fr to) := by first | (simp only [laV, laS, lS1, piS_nv, if_pos c7]; done) | (with_reducible rfl) | (simp only [laV, laS, lS1, piS_nv, if_pos c7]; rfl) | rfl | (simp [laV, laS, lS1, piS_nv, c7]; done)
    exact W.iret (v := (nI ((nv (piS (sy (sy (sx (sa (sa S 10 (nv S 2) r) 11 (nv S 2) k) 1 (nv S 2) it) 1 (nv S 2) fr) 2 (nv S 2) to) (nv S 2)) 2) + 1))) hx hb hr (fun t ht hW => ⟨congrArg (fun z => Outcome.returned (some (Value.int z))) hv9, by rw [ht, ← hs9]; exact hP, hS.F ht, by rw [← hs9]; exact hB⟩) hS.2.2 dX1_add_86
  · refine lv_iconst (v := (nI 0)) hx hb dX1_add_10 (by decide) ?_
    have hv9 : (nI 0) = (nI (laV S)) := by first | (simp only [laV, laS, lS1, piS_nv, if_neg c7]; done) | (with_reducible rfl) | (simp only [laV, laS, lS1, piS_nv, if_neg c7]; rfl) | rfl | (simp [laV, laS, lS1, piS_nv, c7]; done)
    have hs9 : S = (laS S r k it fr to) := by first | (simp only [laV, laS, lS1, piS_nv, if_neg c7]; done) | (with_reducible rfl) | (simp only [laV, laS, lS1, piS_nv, if_neg c7]; rfl) | rfl | (simp [laV, laS, lS1, piS_nv, c7]; done)
    exact W.iret (v := (nI 0)) hx hb hr (fun t ht hW => ⟨congrArg (fun z => Outcome.returned (some (Value.int z))) hv9, by rw [ht, ← hs9]; exact hP, hS.F ht, by rw [← hs9]; exact hB⟩) hS.2.2 dX1_add_11

set_option maxRecDepth 100000 in
set_option maxHeartbeats 4000000 in
theorem c_lo_atPlace (l : Launch) (D : va_G) (g : Nat → ClassId) (a : Nat → Nat)  (S : St) (hB : cbd S) (j : Nat) (hj : j ≤ 199) : Met l yX1_atPlace wsX1_atPlace ({ frames := 0, cells := 0, slots := 0, locals := 0 } : Room) (va_Pc [Value.ref (a 4), Value.int (nI j)] (wPre D vwCl (clW g a S) (clT g))) (k2_QcV (Value.int (nI (av S 13 j)))) 0 0 (fun _ => False) := by
  refine Met.ofW (cc := cX1_atPlace) (maxL := 2) (ret := (some .int)) (by decide) rfl ?_
  intro p e s m args below meth c s₁ B hml hv
  obtain ⟨rfl, hP, hK⟩ := hv
  have hx := B.exec
  have hb := B.bytes
  have hr := B.returns
  have hts := atoms_spec (ws := wsX1_atPlace) B.pre
  have ht := fun (w : Cond) (h : w ∈ lw_g) => hts w (List.mem_cons_of_mem _ h)
  have hown : s.vm.findClass "ReaderRows$Loans" = some m.cls := findClass_of_methodNamed B.named
  have hlocks := B.notSynchronized
  have hl := lv_entry ([Value.ref (a 4), Value.int (nI j)]) (n := 2) (Nat.le_of_ble_eq_true rfl)
  rw [lg_entry_eq]
  generalize (lg_sl ([Value.ref (a 4), Value.int (nI j)]) ++ List.replicate (2 - (lg_sl ([Value.ref (a 4), Value.int (nI j)])).length) Slot.unset).toArray = ls at hl ⊢
  have hl : lv_has ls 2 [(0, Value.ref (a 4)), (1, Value.int (nI j))] := hl
  refine lv_aload_n hx hb dX1_atPlace_0 rfl (lv_at hl 0 rfl) ?_
  refine va_get (D := D) (ci := 1) (v := Value.ref (a 25)) (C := "ReaderRows$Loans") (T := TX1) (N := 8) hx hb ht inX1 hown hK hP 4 rfl rfl 7 (by decide) (ht _ m_98) (fun _ h9 => h9) rfl dX1_atPlace_1 ?_
  refine lv_iload_n hx hb dX1_atPlace_4 rfl (lv_at hl 1 rfl) ?_
  refine r_iald_n (f := av S 13) hx hb hK hP 25 19 rfl rfl (i := j) (show _ < 200 by first | omega | (simp only [Nat.lt_iff_add_one_le] at *; omega)) (by decide) dX1_atPlace_5 ?_
  have b_V13_5 : av S 13 j ≤ 199 := hB.2 13 j
  have hv9 : (nI (av S 13 j)) = (nI (av S 13 j)) := by first | (simp only [Nat.add_zero, Nat.add_zero]; done) | (with_reducible rfl) | (simp only [Nat.add_zero, Nat.add_zero]; rfl) | rfl | (simp [Nat.add_zero, Nat.add_zero]; done)
  exact W.iret (v := (nI (av S 13 j))) hx hb hr (fun t ht hW => ⟨congrArg (fun z => Outcome.returned (some (Value.int z))) hv9, ht⟩) (fun _ h => by cases h) dX1_atPlace_6

set_option maxRecDepth 100000 in
set_option maxHeartbeats 4000000 in
theorem c_lo_holderOf (l : Launch) (D : va_G) (g : Nat → ClassId) (a : Nat → Nat)  (S : St) (hB : cbd S) (j : Nat) (hj : j ≤ 199) : Met l yX1_holderOf wsX1_holderOf ({ frames := 0, cells := 0, slots := 0, locals := 0 } : Room) (va_Pc [Value.ref (a 4), Value.int (nI j)] (wPre D vwCl (clW g a S) (clT g))) (k2_QcV (Value.int (nI (av S 10 j)))) 0 0 (fun _ => False) := by
  refine Met.ofW (cc := cX1_holderOf) (maxL := 2) (ret := (some .int)) (by decide) rfl ?_
  intro p e s m args below meth c s₁ B hml hv
  obtain ⟨rfl, hP, hK⟩ := hv
  have hx := B.exec
  have hb := B.bytes
  have hr := B.returns
  have hts := atoms_spec (ws := wsX1_holderOf) B.pre
  have ht := fun (w : Cond) (h : w ∈ lw_g) => hts w (List.mem_cons_of_mem _ h)
  have hown : s.vm.findClass "ReaderRows$Loans" = some m.cls := findClass_of_methodNamed B.named
  have hlocks := B.notSynchronized
  have hl := lv_entry ([Value.ref (a 4), Value.int (nI j)]) (n := 2) (Nat.le_of_ble_eq_true rfl)
  rw [lg_entry_eq]
  generalize (lg_sl ([Value.ref (a 4), Value.int (nI j)]) ++ List.replicate (2 - (lg_sl ([Value.ref (a 4), Value.int (nI j)])).length) Slot.unset).toArray = ls at hl ⊢
  have hl : lv_has ls 2 [(0, Value.ref (a 4)), (1, Value.int (nI j))] := hl
  refine lv_aload_n hx hb dX1_holderOf_0 rfl (lv_at hl 0 rfl) ?_
  refine va_get (D := D) (ci := 1) (v := Value.ref (a 19)) (C := "ReaderRows$Loans") (T := TX1) (N := 8) hx hb ht inX1 hown hK hP 4 rfl rfl 1 (by decide) (ht _ m_92) (fun _ h9 => h9) rfl dX1_holderOf_1 ?_
  refine lv_iload_n hx hb dX1_holderOf_4 rfl (lv_at hl 1 rfl) ?_
  refine r_iald_n (f := av S 10) hx hb hK hP 19 13 rfl rfl (i := j) (show _ < 200 by first | omega | (simp only [Nat.lt_iff_add_one_le] at *; omega)) (by decide) dX1_holderOf_5 ?_
  have b_V10_5 : av S 10 j ≤ 60 := hB.2 10 j
  have hv9 : (nI (av S 10 j)) = (nI (av S 10 j)) := by first | (simp only [Nat.add_zero, Nat.add_zero]; done) | (with_reducible rfl) | (simp only [Nat.add_zero, Nat.add_zero]; rfl) | rfl | (simp [Nat.add_zero, Nat.add_zero]; done)
  exact W.iret (v := (nI (av S 10 j))) hx hb hr (fun t ht hW => ⟨congrArg (fun z => Outcome.returned (some (Value.int z))) hv9, ht⟩) (fun _ h => by cases h) dX1_holderOf_6

set_option maxRecDepth 100000 in
set_option maxHeartbeats 4000000 in
theorem c_lo_isAnonymous (l : Launch) (D : va_G) (g : Nat → ClassId) (a : Nat → Nat)  (S : St) (hB : cbd S) (j : Nat) (hj : j ≤ 199) : Met l yX1_isAnonymous wsX1_isAnonymous ({ frames := 0, cells := 0, slots := 0, locals := 0 } : Room) (va_Pc [Value.ref (a 4), Value.int (nI j)] (wPre D vwCl (clW g a S) (clT g))) (k2_QcV (Value.int (nI (av S 12 j)))) 0 0 (fun _ => False) := by
  refine Met.ofW (cc := cX1_isAnonymous) (maxL := 2) (ret := (some .boolean)) (by decide) rfl ?_
  intro p e s m args below meth c s₁ B hml hv
  obtain ⟨rfl, hP, hK⟩ := hv
  have hx := B.exec
  have hb := B.bytes
  have hr := B.returns
  have hts := atoms_spec (ws := wsX1_isAnonymous) B.pre
  have ht := fun (w : Cond) (h : w ∈ lw_g) => hts w (List.mem_cons_of_mem _ h)
  have hown : s.vm.findClass "ReaderRows$Loans" = some m.cls := findClass_of_methodNamed B.named
  have hlocks := B.notSynchronized
  have hl := lv_entry ([Value.ref (a 4), Value.int (nI j)]) (n := 2) (Nat.le_of_ble_eq_true rfl)
  rw [lg_entry_eq]
  generalize (lg_sl ([Value.ref (a 4), Value.int (nI j)]) ++ List.replicate (2 - (lg_sl ([Value.ref (a 4), Value.int (nI j)])).length) Slot.unset).toArray = ls at hl ⊢
  have hl : lv_has ls 2 [(0, Value.ref (a 4)), (1, Value.int (nI j))] := hl
  refine lv_aload_n hx hb dX1_isAnonymous_0 rfl (lv_at hl 0 rfl) ?_
  refine va_get (D := D) (ci := 1) (v := Value.ref (a 24)) (C := "ReaderRows$Loans") (T := TX1) (N := 8) hx hb ht inX1 hown hK hP 4 rfl rfl 6 (by decide) (ht _ m_97) (fun _ h9 => h9) rfl dX1_isAnonymous_1 ?_
  refine lv_iload_n hx hb dX1_isAnonymous_4 rfl (lv_at hl 1 rfl) ?_
  refine r_zald_n (f := av S 12) hx hb hK hP 24 18 rfl rfl (i := j) (show _ < 200 by first | omega | (simp only [Nat.lt_iff_add_one_le] at *; omega)) (by decide) dX1_isAnonymous_5 ?_
  have b_V12_5 : av S 12 j ≤ 1 := hB.2 12 j
  have hv9 : (nI (av S 12 j)) = (nI (av S 12 j)) := by first | (simp only [Nat.add_zero, Nat.add_zero]; done) | (with_reducible rfl) | (simp only [Nat.add_zero, Nat.add_zero]; rfl) | rfl | (simp [Nat.add_zero, Nat.add_zero]; done)
  have hn9 : narrow .boolean (Value.int (nI (av S 12 j))) = Value.int (nI (av S 12 j)) := by exact r_nz (by omega)
  exact W.zret (v := (nI (av S 12 j))) (ty := .boolean) hx hb hr hn9 (fun t ht hW => ⟨congrArg (fun z => Outcome.returned (some (Value.int z))) hv9, ht⟩) (fun _ h => by cases h) dX1_isAnonymous_6

set_option maxRecDepth 100000 in
set_option maxHeartbeats 4000000 in
theorem c_lo_itemOf (l : Launch) (D : va_G) (g : Nat → ClassId) (a : Nat → Nat)  (S : St) (hB : cbd S) (j : Nat) (hj : j ≤ 199) : Met l yX1_itemOf wsX1_itemOf ({ frames := 0, cells := 0, slots := 0, locals := 0 } : Room) (va_Pc [Value.ref (a 4), Value.int (nI j)] (wPre D vwCl (clW g a S) (clT g))) (k2_QcV (Value.int (xv S 1 j))) 0 0 (fun _ => False) := by
  refine Met.ofW (cc := cX1_itemOf) (maxL := 2) (ret := (some .int)) (by decide) rfl ?_
  intro p e s m args below meth c s₁ B hml hv
  obtain ⟨rfl, hP, hK⟩ := hv
  have hx := B.exec
  have hb := B.bytes
  have hr := B.returns
  have hts := atoms_spec (ws := wsX1_itemOf) B.pre
  have ht := fun (w : Cond) (h : w ∈ lw_g) => hts w (List.mem_cons_of_mem _ h)
  have hown : s.vm.findClass "ReaderRows$Loans" = some m.cls := findClass_of_methodNamed B.named
  have hlocks := B.notSynchronized
  have hl := lv_entry ([Value.ref (a 4), Value.int (nI j)]) (n := 2) (Nat.le_of_ble_eq_true rfl)
  rw [lg_entry_eq]
  generalize (lg_sl ([Value.ref (a 4), Value.int (nI j)]) ++ List.replicate (2 - (lg_sl ([Value.ref (a 4), Value.int (nI j)])).length) Slot.unset).toArray = ls at hl ⊢
  have hl : lv_has ls 2 [(0, Value.ref (a 4)), (1, Value.int (nI j))] := hl
  refine lv_aload_n hx hb dX1_itemOf_0 rfl (lv_at hl 0 rfl) ?_
  refine va_get (D := D) (ci := 1) (v := Value.ref (a 21)) (C := "ReaderRows$Loans") (T := TX1) (N := 8) hx hb ht inX1 hown hK hP 4 rfl rfl 3 (by decide) (ht _ m_94) (fun _ h9 => h9) rfl dX1_itemOf_1 ?_
  refine lv_iload_n hx hb dX1_itemOf_4 rfl (lv_at hl 1 rfl) ?_
  refine r_iald_x (f := xv S 1) hx hb hK hP 21 15 rfl rfl (i := j) (show _ < 200 by first | omega | (simp only [Nat.lt_iff_add_one_le] at *; omega)) (by decide) dX1_itemOf_5 ?_
  have hv9 : (xv S 1 j) = (xv S 1 j) := by first | (simp only [Nat.add_zero, Nat.add_zero]; done) | (with_reducible rfl) | (simp only [Nat.add_zero, Nat.add_zero]; rfl) | rfl | (simp [Nat.add_zero, Nat.add_zero]; done)
  exact W.iret (v := (xv S 1 j)) hx hb hr (fun t ht hW => ⟨congrArg (fun z => Outcome.returned (some (Value.int z))) hv9, ht⟩) (fun _ h => by cases h) dX1_itemOf_6

set_option maxRecDepth 100000 in
set_option maxHeartbeats 4000000 in
theorem c_lo_lastDayOf (l : Launch) (D : va_G) (g : Nat → ClassId) (a : Nat → Nat)  (S : St) (hB : cbd S) (j : Nat) (hj : j ≤ 199) : Met l yX1_lastDayOf wsX1_lastDayOf ({ frames := 0, cells := 0, slots := 0, locals := 0 } : Room) (va_Pc [Value.ref (a 4), Value.int (nI j)] (wPre D vwCl (clW g a S) (clT g))) (k2_QcV (Value.long (yv S 2 j))) 0 0 (fun _ => False) := by
  refine Met.ofW (cc := cX1_lastDayOf) (maxL := 2) (ret := (some .long)) (by decide) rfl ?_
  intro p e s m args below meth c s₁ B hml hv
  obtain ⟨rfl, hP, hK⟩ := hv
  have hx := B.exec
  have hb := B.bytes
  have hr := B.returns
  have hts := atoms_spec (ws := wsX1_lastDayOf) B.pre
  have ht := fun (w : Cond) (h : w ∈ lw_g) => hts w (List.mem_cons_of_mem _ h)
  have hown : s.vm.findClass "ReaderRows$Loans" = some m.cls := findClass_of_methodNamed B.named
  have hlocks := B.notSynchronized
  have hl := lv_entry ([Value.ref (a 4), Value.int (nI j)]) (n := 2) (Nat.le_of_ble_eq_true rfl)
  rw [lg_entry_eq]
  generalize (lg_sl ([Value.ref (a 4), Value.int (nI j)]) ++ List.replicate (2 - (lg_sl ([Value.ref (a 4), Value.int (nI j)])).length) Slot.unset).toArray = ls at hl ⊢
  have hl : lv_has ls 2 [(0, Value.ref (a 4)), (1, Value.int (nI j))] := hl
  refine lv_aload_n hx hb dX1_lastDayOf_0 rfl (lv_at hl 0 rfl) ?_
  refine va_get (D := D) (ci := 1) (v := Value.ref (a 23)) (C := "ReaderRows$Loans") (T := TX1) (N := 8) hx hb ht inX1 hown hK hP 4 rfl rfl 5 (by decide) (ht _ m_96) (fun _ h9 => h9) rfl dX1_lastDayOf_1 ?_
  refine lv_iload_n hx hb dX1_lastDayOf_4 rfl (lv_at hl 1 rfl) ?_
  refine r_lald_y (f := yv S 2) hx hb hK hP 23 17 rfl rfl (i := j) (show _ < 200 by first | omega | (simp only [Nat.lt_iff_add_one_le] at *; omega)) (by decide) dX1_lastDayOf_5 ?_
  have hv9 : (yv S 2 j) = (yv S 2 j) := by first | (simp only [Nat.add_zero, Nat.add_zero]; done) | (with_reducible rfl) | (simp only [Nat.add_zero, Nat.add_zero]; rfl) | rfl | (simp [Nat.add_zero, Nat.add_zero]; done)
  exact W.lret (v := (yv S 2 j)) hx hb hr (fun t ht hW => ⟨congrArg (fun z => Outcome.returned (some (Value.long z))) hv9, ht⟩) (fun _ h => by cases h) dX1_lastDayOf_6

set_option maxRecDepth 100000 in
set_option maxHeartbeats 4000000 in
theorem c_lo_makeAnonymous (l : Launch) (D : va_G) (g : Nat → ClassId) (a : Nat → Nat) (hD : ∀ S : St, va_D (cA a) (clW g a S))  (S : St) (hB : cbd S) (j : Nat) (hj : j ≤ 199) : Met l yX1_makeAnonymous wsX1_makeAnonymous ({ frames := 0, cells := 0, slots := 0, locals := 0 } : Room) (va_Pc [Value.ref (a 4), Value.int (nI j)] (wPre D vwCl (clW g a S) (clT g))) (wQ none D vwCl (clW g a (sa S 12 j 1)) (cA a) (cbd (sa S 12 j 1))) 0 0 (cA a) := by
  refine Met.ofW (cc := cX1_makeAnonymous) (maxL := 2) (ret := none) (by decide) rfl ?_
  intro p e s m args below meth c s₁ B hml hv
  obtain ⟨rfl, hP, hK⟩ := hv
  have hx := B.exec
  have hb := B.bytes
  have hr := B.returns
  have hts := atoms_spec (ws := wsX1_makeAnonymous) B.pre
  have ht := fun (w : Cond) (h : w ∈ lw_g) => hts w (List.mem_cons_of_mem _ h)
  have hown : s.vm.findClass "ReaderRows$Loans" = some m.cls := findClass_of_methodNamed B.named
  have hlocks := B.notSynchronized
  have hS : va_S (cA a) s.heap s.heap [] := va_S.rf
  have hl := lv_entry ([Value.ref (a 4), Value.int (nI j)]) (n := 2) (Nat.le_of_ble_eq_true rfl)
  rw [lg_entry_eq]
  generalize (lg_sl ([Value.ref (a 4), Value.int (nI j)]) ++ List.replicate (2 - (lg_sl ([Value.ref (a 4), Value.int (nI j)])).length) Slot.unset).toArray = ls at hl ⊢
  have hl : lv_has ls 2 [(0, Value.ref (a 4)), (1, Value.int (nI j))] := hl
  refine lv_aload_n hx hb dX1_makeAnonymous_0 rfl (lv_at hl 0 rfl) ?_
  refine va_get (D := D) (ci := 1) (v := Value.ref (a 24)) (C := "ReaderRows$Loans") (T := TX1) (N := 8) hx hb ht inX1 hown hK hP 4 rfl rfl 6 (by decide) (ht _ m_97) (fun _ h9 => h9) rfl dX1_makeAnonymous_1 ?_
  refine lv_iload_n hx hb dX1_makeAnonymous_4 rfl (lv_at hl 1 rfl) ?_
  refine lv_iconst (v := (nI 1)) hx hb dX1_makeAnonymous_5 (by decide) ?_
  refine r_zast_n (f := av S 12) hx hb hK hP (hD _) hS 24 18 rfl rfl (i := j) (x := 1) (show _ < 200 by omega) (by decide) (show _ ≤ 1 by omega) dX1_makeAnonymous_6 (fun H locs hP hD1 hS => ?_)
  have hP : va_P D vwCl (clW g a (sa S 12 j 1)) H := hP
  clear hD1
  have hB : cbd (sa S 12 j 1) := bd_sa hB (show 1 ≤ 1 by first | assumption | omega)
  have hs9 : (sa S 12 j 1) = (sa S 12 j 1) := by first | (simp only [Nat.add_zero, Nat.add_zero]; done) | (with_reducible rfl) | (simp only [Nat.add_zero, Nat.add_zero]; rfl) | rfl | (simp [Nat.add_zero, Nat.add_zero]; done)
  exact W.vret hx hb hr (fun t ht hW => ⟨rfl, by rw [ht, ← hs9]; exact hP, hS.F ht, by rw [← hs9]; exact hB⟩) hS.2.2 dX1_makeAnonymous_7

set_option maxRecDepth 100000 in
set_option maxHeartbeats 4000000 in
theorem c_lo_countNamed (l : Launch) (D : va_G) (g : Nat → ClassId) (a : Nat → Nat)  (S : St) (hB : cbd S) (r : Nat) (hr0 : r ≤ 60) : Met l yX1_countNamed wsX1_countNamed ({ frames := 0, cells := 0, slots := 0, locals := 0 } : Room) (va_Pc [Value.ref (a 4), Value.int (nI r)] (wPre D vwCl (clW g a S) (clT g))) (k2_QcV (Value.int (nI (cnm S r)))) 0 0 (fun _ => False) := by
  refine Met.ofW (cc := cX1_countNamed) (maxL := 4) (ret := (some .int)) (by decide) rfl ?_
  intro p e s m args below meth c s₁ B hml hv
  obtain ⟨rfl, hP, hK⟩ := hv
  have hx := B.exec
  have hb := B.bytes
  have hr := B.returns
  have hts := atoms_spec (ws := wsX1_countNamed) B.pre
  have ht := fun (w : Cond) (h : w ∈ lw_g) => hts w (List.mem_cons_of_mem _ h)
  have hown : s.vm.findClass "ReaderRows$Loans" = some m.cls := findClass_of_methodNamed B.named
  have hlocks := B.notSynchronized
  have hl := lv_entry ([Value.ref (a 4), Value.int (nI r)]) (n := 4) (Nat.le_of_ble_eq_true rfl)
  rw [lg_entry_eq]
  generalize (lg_sl ([Value.ref (a 4), Value.int (nI r)]) ++ List.replicate (4 - (lg_sl ([Value.ref (a 4), Value.int (nI r)])).length) Slot.unset).toArray = ls at hl ⊢
  have hl : lv_has ls 4 [(0, Value.ref (a 4)), (1, Value.int (nI r))] := hl
  refine lv_iconst (v := (nI 0)) hx hb dX1_countNamed_0 (by decide) ?_
  refine lv_istore_n (lv' := [(2, Value.int (nI 0)), (0, Value.ref (a 4)), (1, Value.int (nI r))]) hx hb dX1_countNamed_1 rfl hl (by decide) rfl (fun ls hl => ?_)
  refine lv_iconst (v := (nI 0)) hx hb dX1_countNamed_2 (by decide) ?_
  refine lv_istore_n (lv' := [(3, Value.int (nI 0)), (2, Value.int (nI 0)), (0, Value.ref (a 4)), (1, Value.int (nI r))]) hx hb dX1_countNamed_3 rfl hl (by decide) rfl (fun ls hl => ?_)
  have lp4 : ∀ (f4 : Nat) (z : Nat) (j : Nat), j ≤ nv S 2 → z = ct (fun j => av S 10 j = r ∧ av S 12 j = 0) j → nv S 2 + 1 ≤ j + f4 → ∀ (ls : Array Slot), lv_has ls 4 [(3, Value.int (nI j)), (2, Value.int (nI z)), (0, Value.ref (a 4)), (1, Value.int (nI r))] → W p l e (headSpec wsX1_countNamed ({ frames := 0, cells := 0, slots := 0, locals := 0 } : Room)).room s m ([Value.ref (a 4), Value.int (nI r)] : List Value).toArray below meth c s.heap [] 0 0 (MQ below (k2_QcV (Value.int (nI (cnm S r)))) ([Value.ref (a 4), Value.int (nI r)] : List Value).toArray s 0 0 (fun _ => False)) (F0 m 4 ls []) := by
    intro f4
    induction f4 with
    | zero =>
      intro z j hp hz hfu
      exact absurd hfu (by omega)
    | succ f4 ih4 =>
      intro z j hp hz hfu ls hl
      have b_N2 : nv S 2 ≤ 200 := hB.1 2
      refine lv_iload_n hx hb dX1_countNamed_4 rfl (lv_at hl 0 rfl) ?_
      refine lv_aload_n hx hb dX1_countNamed_5 rfl (lv_at hl 2 rfl) ?_
      refine va_get (D := D) (ci := 1) (v := Value.int (nI (nv S 2))) (C := "ReaderRows$Loans") (T := TX1) (N := 8) hx hb ht inX1 hown hK hP 4 rfl rfl 0 (by decide) (ht _ m_91) (fun _ h9 => h9) rfl dX1_countNamed_6 ?_
      have b_N2 : nv S 2 ≤ 200 := hB.1 2
      refine r_icmp_ge (tgt := 40) hx hb dX1_countNamed_9 (by decide) (by omega) (by omega) (fun c9 => ?_) (fun c9 => ?_)
      · refine lv_iload_n hx hb dX1_countNamed_40 rfl (lv_at hl 1 rfl) ?_
        have hv9 : (nI z) = (nI (cnm S r)) := by rw [hz, cnm, show j = nv S 2 by omega]
        exact W.iret (v := (nI z)) hx hb hr (fun t ht hW => ⟨congrArg (fun z => Outcome.returned (some (Value.int z))) hv9, ht⟩) (fun _ h => by cases h) dX1_countNamed_41
      · refine lv_aload_n hx hb dX1_countNamed_12 rfl (lv_at hl 2 rfl) ?_
        refine va_get (D := D) (ci := 1) (v := Value.ref (a 19)) (C := "ReaderRows$Loans") (T := TX1) (N := 8) hx hb ht inX1 hown hK hP 4 rfl rfl 1 (by decide) (ht _ m_92) (fun _ h9 => h9) rfl dX1_countNamed_13 ?_
        refine lv_iload_n hx hb dX1_countNamed_16 rfl (lv_at hl 0 rfl) ?_
        refine r_iald_n (f := av S 10) hx hb hK hP 19 13 rfl rfl (i := j) (show _ < 200 by first | omega | (simp only [Nat.lt_iff_add_one_le] at *; omega)) (by decide) dX1_countNamed_17 ?_
        have b_V10_17 : av S 10 j ≤ 60 := hB.2 10 j
        refine lv_iload_n hx hb dX1_countNamed_18 rfl (lv_at hl 3 rfl) ?_
        refine r_icmp_ne (tgt := 34) hx hb dX1_countNamed_19 (by decide) (by omega) (by omega) (fun c19 => ?_) (fun c19 => ?_)
        · refine lv_iinc (v := (nI (j + 1))) (lv' := [(3, Value.int (nI (j + 1))), (2, Value.int (nI z)), (0, Value.ref (a 4)), (1, Value.int (nI r))]) hx hb dX1_countNamed_34 hl (k := 0) rfl (r_inc1 _) (by decide) rfl (fun ls hl => ?_)
          refine lv_goto (tgt := 4) hx hb dX1_countNamed_37 (by decide) ?_
          exact ih4 z (j + 1) (by omega) (by rw [hz]; first | (refine (ct_1 ?_).symm; exact ⟨c19, c28⟩) | (refine (ct_0 ?_).symm; exact (fun q => c19 q.1)) | (refine (ct_0 ?_).symm; exact (fun q => c28 q.2))) (by omega)  ls (lv_sub hl [0, 1, 2, 3] rfl)
        · refine lv_aload_n hx hb dX1_countNamed_22 rfl (lv_at hl 2 rfl) ?_
          refine va_get (D := D) (ci := 1) (v := Value.ref (a 24)) (C := "ReaderRows$Loans") (T := TX1) (N := 8) hx hb ht inX1 hown hK hP 4 rfl rfl 6 (by decide) (ht _ m_97) (fun _ h9 => h9) rfl dX1_countNamed_23 ?_
          refine lv_iload_n hx hb dX1_countNamed_26 rfl (lv_at hl 0 rfl) ?_
          refine r_zald_n (f := av S 12) hx hb hK hP 24 18 rfl rfl (i := j) (show _ < 200 by first | omega | (simp only [Nat.lt_iff_add_one_le] at *; omega)) (by decide) dX1_countNamed_27 ?_
          have b_V12_27 : av S 12 j ≤ 1 := hB.2 12 j
          refine r_if_ne_n (tgt := 34) hx hb dX1_countNamed_28 (by decide) (by omega) (fun c28 => ?_) (fun c28 => ?_)
          · refine lv_iinc (v := (nI (j + 1))) (lv' := [(3, Value.int (nI (j + 1))), (2, Value.int (nI z)), (0, Value.ref (a 4)), (1, Value.int (nI r))]) hx hb dX1_countNamed_34 hl (k := 0) rfl (r_inc1 _) (by decide) rfl (fun ls hl => ?_)
            refine lv_goto (tgt := 4) hx hb dX1_countNamed_37 (by decide) ?_
            exact ih4 z (j + 1) (by omega) (by rw [hz]; first | (refine (ct_1 ?_).symm; exact ⟨c19, c28⟩) | (refine (ct_0 ?_).symm; exact (fun q => c19 q.1)) | (refine (ct_0 ?_).symm; exact (fun q => c28 q.2))) (by omega)  ls (lv_sub hl [0, 1, 2, 3] rfl)
          · refine lv_iinc (v := (nI (z + 1))) (lv' := [(2, Value.int (nI (z + 1))), (3, Value.int (nI j)), (0, Value.ref (a 4)), (1, Value.int (nI r))]) hx hb dX1_countNamed_31 hl (k := 1) rfl (r_inc1 _) (by decide) rfl (fun ls hl => ?_)
            refine lv_iinc (v := (nI (j + 1))) (lv' := [(3, Value.int (nI (j + 1))), (2, Value.int (nI (z + 1))), (0, Value.ref (a 4)), (1, Value.int (nI r))]) hx hb dX1_countNamed_34 hl (k := 1) rfl (r_inc1 _) (by decide) rfl (fun ls hl => ?_)
            refine lv_goto (tgt := 4) hx hb dX1_countNamed_37 (by decide) ?_
            exact ih4 (z + 1) (j + 1) (by omega) (by rw [hz]; first | (refine (ct_1 ?_).symm; exact ⟨c19, c28⟩) | (refine (ct_0 ?_).symm; exact (fun q => c19 q.1)) | (refine (ct_0 ?_).symm; exact (fun q => c28 q.2))) (by omega)  ls (lv_sub hl [0, 1, 2, 3] rfl)
  exact lp4 (nv S 2 + 1) 0 0 (by omega) (by rfl) (by omega)  ls (lv_sub hl [0, 1, 2, 3] rfl)

set_option maxRecDepth 100000 in
set_option maxHeartbeats 4000000 in
theorem c_lo_countBegun (l : Launch) (D : va_G) (g : Nat → ClassId) (a : Nat → Nat)  (S : St) (hB : cbd S) (k : Nat) (fr to : Int64) (hk : k ≤ 4) : Met l yX1_countBegun wsX1_countBegun ({ frames := 0, cells := 0, slots := 0, locals := 0 } : Room) (va_Pc [Value.ref (a 4), Value.int (nI k), Value.long fr, Value.long to] (wPre D vwCl (clW g a S) (clT g))) (k2_QcV (Value.int (nI (cbg S k fr to)))) 0 0 (fun _ => False) := by
  refine Met.ofW (cc := cX1_countBegun) (maxL := 8) (ret := (some .int)) (by decide) rfl ?_
  intro p e s m args below meth c s₁ B hml hv
  obtain ⟨rfl, hP, hK⟩ := hv
  have hx := B.exec
  have hb := B.bytes
  have hr := B.returns
  have hts := atoms_spec (ws := wsX1_countBegun) B.pre
  have ht := fun (w : Cond) (h : w ∈ lw_g) => hts w (List.mem_cons_of_mem _ h)
  have hown : s.vm.findClass "ReaderRows$Loans" = some m.cls := findClass_of_methodNamed B.named
  have hlocks := B.notSynchronized
  have hl := lv_entry ([Value.ref (a 4), Value.int (nI k), Value.long fr, Value.long to]) (n := 8) (Nat.le_of_ble_eq_true rfl)
  rw [lg_entry_eq]
  generalize (lg_sl ([Value.ref (a 4), Value.int (nI k), Value.long fr, Value.long to]) ++ List.replicate (8 - (lg_sl ([Value.ref (a 4), Value.int (nI k), Value.long fr, Value.long to])).length) Slot.unset).toArray = ls at hl ⊢
  have hl : lv_has ls 8 [(0, Value.ref (a 4)), (1, Value.int (nI k)), (2, Value.long fr), (4, Value.long to)] := hl
  refine lv_iconst (v := (nI 0)) hx hb dX1_countBegun_0 (by decide) ?_
  refine lv_istore (lv' := [(6, Value.int (nI 0)), (0, Value.ref (a 4)), (1, Value.int (nI k)), (2, Value.long fr), (4, Value.long to)]) hx hb dX1_countBegun_1 hl (by decide) rfl (fun ls hl => ?_)
  refine lv_iconst (v := (nI 0)) hx hb dX1_countBegun_3 (by decide) ?_
  refine lv_istore (lv' := [(7, Value.int (nI 0)), (6, Value.int (nI 0)), (0, Value.ref (a 4)), (1, Value.int (nI k)), (2, Value.long fr), (4, Value.long to)]) hx hb dX1_countBegun_4 hl (by decide) rfl (fun ls hl => ?_)
  have lp6 : ∀ (f6 : Nat) (z : Nat) (j : Nat), j ≤ nv S 2 → z = ct (fun j => av S 11 j = k ∧ ¬ yv S 1 j < fr ∧ ¬ to < yv S 1 j) j → nv S 2 + 1 ≤ j + f6 → ∀ (ls : Array Slot), lv_has ls 8 [(7, Value.int (nI j)), (6, Value.int (nI z)), (0, Value.ref (a 4)), (1, Value.int (nI k)), (2, Value.long fr), (4, Value.long to)] → W p l e (headSpec wsX1_countBegun ({ frames := 0, cells := 0, slots := 0, locals := 0 } : Room)).room s m ([Value.ref (a 4), Value.int (nI k), Value.long fr, Value.long to] : List Value).toArray below meth c s.heap [] 0 0 (MQ below (k2_QcV (Value.int (nI (cbg S k fr to)))) ([Value.ref (a 4), Value.int (nI k), Value.long fr, Value.long to] : List Value).toArray s 0 0 (fun _ => False)) (F0 m 6 ls []) := by
    intro f6
    induction f6 with
    | zero =>
      intro z j hp hz hfu
      exact absurd hfu (by omega)
    | succ f6 ih6 =>
      intro z j hp hz hfu ls hl
      have b_N2 : nv S 2 ≤ 200 := hB.1 2
      refine lv_iload hx hb dX1_countBegun_6 (lv_at hl 0 rfl) ?_
      refine lv_aload_n hx hb dX1_countBegun_8 rfl (lv_at hl 2 rfl) ?_
      refine va_get (D := D) (ci := 1) (v := Value.int (nI (nv S 2))) (C := "ReaderRows$Loans") (T := TX1) (N := 8) hx hb ht inX1 hown hK hP 4 rfl rfl 0 (by decide) (ht _ m_91) (fun _ h9 => h9) rfl dX1_countBegun_9 ?_
      have b_N2 : nv S 2 ≤ 200 := hB.1 2
      refine r_icmp_ge (tgt := 60) hx hb dX1_countBegun_12 (by decide) (by omega) (by omega) (fun c12 => ?_) (fun c12 => ?_)
      · refine lv_iload hx hb dX1_countBegun_60 (lv_at hl 1 rfl) ?_
        have hv9 : (nI z) = (nI (cbg S k fr to)) := by rw [hz, cbg, show j = nv S 2 by omega]
        exact W.iret (v := (nI z)) hx hb hr (fun t ht hW => ⟨congrArg (fun z => Outcome.returned (some (Value.int z))) hv9, ht⟩) (fun _ h => by cases h) dX1_countBegun_62
      · refine lv_aload_n hx hb dX1_countBegun_15 rfl (lv_at hl 2 rfl) ?_
        refine va_get (D := D) (ci := 1) (v := Value.ref (a 20)) (C := "ReaderRows$Loans") (T := TX1) (N := 8) hx hb ht inX1 hown hK hP 4 rfl rfl 2 (by decide) (ht _ m_93) (fun _ h9 => h9) rfl dX1_countBegun_16 ?_
        refine lv_iload hx hb dX1_countBegun_19 (lv_at hl 0 rfl) ?_
        refine r_iald_n (f := av S 11) hx hb hK hP 20 14 rfl rfl (i := j) (show _ < 200 by first | omega | (simp only [Nat.lt_iff_add_one_le] at *; omega)) (by decide) dX1_countBegun_21 ?_
        have b_V11_21 : av S 11 j ≤ 4 := hB.2 11 j
        refine lv_iload_n hx hb dX1_countBegun_22 rfl (lv_at hl 3 rfl) ?_
        refine r_icmp_ne (tgt := 54) hx hb dX1_countBegun_23 (by decide) (by omega) (by omega) (fun c23 => ?_) (fun c23 => ?_)
        · refine lv_iinc (v := (nI (j + 1))) (lv' := [(7, Value.int (nI (j + 1))), (6, Value.int (nI z)), (0, Value.ref (a 4)), (1, Value.int (nI k)), (2, Value.long fr), (4, Value.long to)]) hx hb dX1_countBegun_54 hl (k := 0) rfl (r_inc1 _) (by decide) rfl (fun ls hl => ?_)
          refine lv_goto (tgt := 6) hx hb dX1_countBegun_57 (by decide) ?_
          exact ih6 z (j + 1) (by omega) (by rw [hz]; first | (refine (ct_1 ?_).symm; exact ⟨c23, c35, c48⟩) | (refine (ct_0 ?_).symm; exact (fun q => c23 q.1)) | (refine (ct_0 ?_).symm; exact (fun q => q.2.1 c35)) | (refine (ct_0 ?_).symm; exact (fun q => q.2.2 c48))) (by omega)  ls (lv_sub hl [0, 1, 2, 3, 4, 5] rfl)
        · refine lv_aload_n hx hb dX1_countBegun_26 rfl (lv_at hl 2 rfl) ?_
          refine va_get (D := D) (ci := 1) (v := Value.ref (a 22)) (C := "ReaderRows$Loans") (T := TX1) (N := 8) hx hb ht inX1 hown hK hP 4 rfl rfl 4 (by decide) (ht _ m_95) (fun _ h9 => h9) rfl dX1_countBegun_27 ?_
          refine lv_iload hx hb dX1_countBegun_30 (lv_at hl 0 rfl) ?_
          refine r_lald_y (f := yv S 1) hx hb hK hP 22 16 rfl rfl (i := j) (show _ < 200 by first | omega | (simp only [Nat.lt_iff_add_one_le] at *; omega)) (by decide) dX1_countBegun_32 ?_
          refine lv_lload_n hx hb dX1_countBegun_33 rfl (lv_at hl 4 rfl) ?_
          refine W.lcmp hx hb dX1_countBegun_34 ?_
          refine r_lc_lt (tgt := 54) hx hb dX1_countBegun_35 (by decide) (fun c35 => ?_) (fun c35 => ?_)
          · refine lv_iinc (v := (nI (j + 1))) (lv' := [(7, Value.int (nI (j + 1))), (6, Value.int (nI z)), (0, Value.ref (a 4)), (1, Value.int (nI k)), (2, Value.long fr), (4, Value.long to)]) hx hb dX1_countBegun_54 hl (k := 0) rfl (r_inc1 _) (by decide) rfl (fun ls hl => ?_)
            refine lv_goto (tgt := 6) hx hb dX1_countBegun_57 (by decide) ?_
            exact ih6 z (j + 1) (by omega) (by rw [hz]; first | (refine (ct_1 ?_).symm; exact ⟨c23, c35, c48⟩) | (refine (ct_0 ?_).symm; exact (fun q => c23 q.1)) | (refine (ct_0 ?_).symm; exact (fun q => q.2.1 c35)) | (refine (ct_0 ?_).symm; exact (fun q => q.2.2 c48))) (by omega)  ls (lv_sub hl [0, 1, 2, 3, 4, 5] rfl)
          · refine lv_aload_n hx hb dX1_countBegun_38 rfl (lv_at hl 2 rfl) ?_
            refine va_get (D := D) (ci := 1) (v := Value.ref (a 22)) (C := "ReaderRows$Loans") (T := TX1) (N := 8) hx hb ht inX1 hown hK hP 4 rfl rfl 4 (by decide) (ht _ m_95) (fun _ h9 => h9) rfl dX1_countBegun_39 ?_
            refine lv_iload hx hb dX1_countBegun_42 (lv_at hl 0 rfl) ?_
            refine r_lald_y (f := yv S 1) hx hb hK hP 22 16 rfl rfl (i := j) (show _ < 200 by first | omega | (simp only [Nat.lt_iff_add_one_le] at *; omega)) (by decide) dX1_countBegun_44 ?_
            refine lv_lload hx hb dX1_countBegun_45 (lv_at hl 5 rfl) ?_
            refine W.lcmp hx hb dX1_countBegun_47 ?_
            refine r_lc_gt (tgt := 54) hx hb dX1_countBegun_48 (by decide) (fun c48 => ?_) (fun c48 => ?_)
            · refine lv_iinc (v := (nI (j + 1))) (lv' := [(7, Value.int (nI (j + 1))), (6, Value.int (nI z)), (0, Value.ref (a 4)), (1, Value.int (nI k)), (2, Value.long fr), (4, Value.long to)]) hx hb dX1_countBegun_54 hl (k := 0) rfl (r_inc1 _) (by decide) rfl (fun ls hl => ?_)
              refine lv_goto (tgt := 6) hx hb dX1_countBegun_57 (by decide) ?_
              exact ih6 z (j + 1) (by omega) (by rw [hz]; first | (refine (ct_1 ?_).symm; exact ⟨c23, c35, c48⟩) | (refine (ct_0 ?_).symm; exact (fun q => c23 q.1)) | (refine (ct_0 ?_).symm; exact (fun q => q.2.1 c35)) | (refine (ct_0 ?_).symm; exact (fun q => q.2.2 c48))) (by omega)  ls (lv_sub hl [0, 1, 2, 3, 4, 5] rfl)
            · refine lv_iinc (v := (nI (z + 1))) (lv' := [(6, Value.int (nI (z + 1))), (7, Value.int (nI j)), (0, Value.ref (a 4)), (1, Value.int (nI k)), (2, Value.long fr), (4, Value.long to)]) hx hb dX1_countBegun_51 hl (k := 1) rfl (r_inc1 _) (by decide) rfl (fun ls hl => ?_)
              refine lv_iinc (v := (nI (j + 1))) (lv' := [(7, Value.int (nI (j + 1))), (6, Value.int (nI (z + 1))), (0, Value.ref (a 4)), (1, Value.int (nI k)), (2, Value.long fr), (4, Value.long to)]) hx hb dX1_countBegun_54 hl (k := 1) rfl (r_inc1 _) (by decide) rfl (fun ls hl => ?_)
              refine lv_goto (tgt := 6) hx hb dX1_countBegun_57 (by decide) ?_
              exact ih6 (z + 1) (j + 1) (by omega) (by rw [hz]; first | (refine (ct_1 ?_).symm; exact ⟨c23, c35, c48⟩) | (refine (ct_0 ?_).symm; exact (fun q => c23 q.1)) | (refine (ct_0 ?_).symm; exact (fun q => q.2.1 c35)) | (refine (ct_0 ?_).symm; exact (fun q => q.2.2 c48))) (by omega)  ls (lv_sub hl [0, 1, 2, 3, 4, 5] rfl)
  exact lp6 (nv S 2 + 1) 0 0 (by omega) (by rfl) (by omega)  ls (lv_sub hl [0, 1, 2, 3, 4, 5] rfl)

set_option maxRecDepth 100000 in
set_option maxHeartbeats 4000000 in
theorem c_lo_moveAll (l : Launch) (D : va_G) (g : Nat → ClassId) (a : Nat → Nat) (hD : ∀ S : St, va_D (cA a) (clW g a S))  (S : St) (hB : cbd S) (u w : Nat) (hu : u ≤ 60) (hw : w ≤ 60) : Met l yX1_moveAll wsX1_moveAll ({ frames := 0, cells := 0, slots := 0, locals := 0 } : Room) (va_Pc [Value.ref (a 4), Value.int (nI u), Value.int (nI w)] (wPre D vwCl (clW g a S) (clT g))) (wQ none D vwCl (clW g a (mlS S u w)) (cA a) (cbd (mlS S u w))) 0 0 (cA a) := by
  refine Met.ofW (cc := cX1_moveAll) (maxL := 4) (ret := none) (by decide) rfl ?_
  intro p e s m args below meth c s₁ B hml hv
  obtain ⟨rfl, hP, hK⟩ := hv
  have hx := B.exec
  have hb := B.bytes
  have hr := B.returns
  have hts := atoms_spec (ws := wsX1_moveAll) B.pre
  have ht := fun (w : Cond) (h : w ∈ lw_g) => hts w (List.mem_cons_of_mem _ h)
  have hown : s.vm.findClass "ReaderRows$Loans" = some m.cls := findClass_of_methodNamed B.named
  have hlocks := B.notSynchronized
  have hS : va_S (cA a) s.heap s.heap [] := va_S.rf
  have hl := lv_entry ([Value.ref (a 4), Value.int (nI u), Value.int (nI w)]) (n := 4) (Nat.le_of_ble_eq_true rfl)
  rw [lg_entry_eq]
  generalize (lg_sl ([Value.ref (a 4), Value.int (nI u), Value.int (nI w)]) ++ List.replicate (4 - (lg_sl ([Value.ref (a 4), Value.int (nI u), Value.int (nI w)])).length) Slot.unset).toArray = ls at hl ⊢
  have hl : lv_has ls 4 [(0, Value.ref (a 4)), (1, Value.int (nI u)), (2, Value.int (nI w))] := hl
  refine lv_iconst (v := (nI 0)) hx hb dX1_moveAll_0 (by decide) ?_
  refine lv_istore_n (lv' := [(3, Value.int (nI 0)), (0, Value.ref (a 4)), (1, Value.int (nI u)), (2, Value.int (nI w))]) hx hb dX1_moveAll_1 rfl hl (by decide) rfl (fun ls hl => ?_)
  have lp2 : ∀ (f2 : Nat) (S1 : St) (pl : Nat), nv S1 2 = nv S 2 → pl ≤ nv S 2 → mlF u w f2 pl S1 = mlS S u w → nv S 2 + 1 ≤ pl + f2 → cbd S1 → ∀ (H : Heap) (locs : List Loc), va_P D vwCl (clW g a S1) H → va_S (cA a) s.heap H locs → ∀ (ls : Array Slot), lv_has ls 4 [(3, Value.int (nI pl)), (0, Value.ref (a 4)), (1, Value.int (nI u)), (2, Value.int (nI w))] → W p l e (headSpec wsX1_moveAll ({ frames := 0, cells := 0, slots := 0, locals := 0 } : Room)).room s m ([Value.ref (a 4), Value.int (nI u), Value.int (nI w)] : List Value).toArray below meth c H locs 0 0 (MQ below (wQ none D vwCl (clW g a (mlS S u w)) (cA a) (cbd (mlS S u w))) ([Value.ref (a 4), Value.int (nI u), Value.int (nI w)] : List Value).toArray s 0 0 (cA a)) (F0 m 2 ls []) := by
    intro f2
    induction f2 with
    | zero =>
      intro S1 pl hc hp hv hfu
      exact absurd hfu (by omega)
    | succ f2 ih2 =>
      intro S1 pl hc hp hv hfu hB H locs hP hS ls hl
      have b_N2 : nv S1 2 ≤ 200 := hB.1 2
      refine lv_iload_n hx hb dX1_moveAll_2 rfl (lv_at hl 0 rfl) ?_
      refine lv_aload_n hx hb dX1_moveAll_3 rfl (lv_at hl 1 rfl) ?_
      refine va_get (D := D) (ci := 1) (v := Value.int (nI (nv S1 2))) (C := "ReaderRows$Loans") (T := TX1) (N := 8) hx hb ht inX1 hown hK hP 4 rfl rfl 0 (by decide) (ht _ m_91) (fun _ h9 => h9) rfl dX1_moveAll_4 ?_
      have b_N2 : nv S1 2 ≤ 200 := hB.1 2
      refine r_icmp_ge (tgt := 33) hx hb dX1_moveAll_7 (by decide) (by omega) (by omega) (fun c7 => ?_) (fun c7 => ?_)
      · have hs9 : S1 = (mlS S u w) := by rw [← hv]; simp only [mlF, mv10, if_pos c7]
        exact W.vret hx hb hr (fun t ht hW => ⟨rfl, by rw [ht, ← hs9]; exact hP, hS.F ht, by rw [← hs9]; exact hB⟩) hS.2.2 dX1_moveAll_33
      · refine lv_aload_n hx hb dX1_moveAll_10 rfl (lv_at hl 1 rfl) ?_
        refine va_get (D := D) (ci := 1) (v := Value.ref (a 19)) (C := "ReaderRows$Loans") (T := TX1) (N := 8) hx hb ht inX1 hown hK hP 4 rfl rfl 1 (by decide) (ht _ m_92) (fun _ h9 => h9) rfl dX1_moveAll_11 ?_
        refine lv_iload_n hx hb dX1_moveAll_14 rfl (lv_at hl 0 rfl) ?_
        refine r_iald_n (f := av S1 10) hx hb hK hP 19 13 rfl rfl (i := pl) (show _ < 200 by first | omega | (simp only [Nat.lt_iff_add_one_le] at *; omega)) (by decide) dX1_moveAll_15 ?_
        have b_V10_15 : av S1 10 pl ≤ 60 := hB.2 10 pl
        refine lv_iload_n hx hb dX1_moveAll_16 rfl (lv_at hl 2 rfl) ?_
        refine r_icmp_ne (tgt := 27) hx hb dX1_moveAll_17 (by decide) (by omega) (by omega) (fun c17 => ?_) (fun c17 => ?_)
        · refine lv_iinc (v := (nI (pl + 1))) (lv' := [(3, Value.int (nI (pl + 1))), (0, Value.ref (a 4)), (1, Value.int (nI u)), (2, Value.int (nI w))]) hx hb dX1_moveAll_27 hl (k := 0) rfl (r_inc1 _) (by decide) rfl (fun ls hl => ?_)
          refine lv_goto (tgt := 2) hx hb dX1_moveAll_30 (by decide) ?_
          exact ih2 S1 (pl + 1) (by exact hc) (by omega) (by (simp only [mlF, mv10, if_neg c7, if_neg c17] at hv; exact hv)) (by omega) hB _ _ hP hS ls (lv_sub hl [0, 1, 2, 3] rfl)
        · refine lv_aload_n hx hb dX1_moveAll_20 rfl (lv_at hl 1 rfl) ?_
          refine va_get (D := D) (ci := 1) (v := Value.ref (a 19)) (C := "ReaderRows$Loans") (T := TX1) (N := 8) hx hb ht inX1 hown hK hP 4 rfl rfl 1 (by decide) (ht _ m_92) (fun _ h9 => h9) rfl dX1_moveAll_21 ?_
          refine lv_iload_n hx hb dX1_moveAll_24 rfl (lv_at hl 0 rfl) ?_
          refine lv_iload_n hx hb dX1_moveAll_25 rfl (lv_at hl 3 rfl) ?_
          refine r_iast_n (f := av S1 10) hx hb hK hP (hD _) hS 19 13 rfl rfl (i := pl) (x := w) (show _ < 200 by omega) (by decide) dX1_moveAll_26 (fun H locs hP hD1 hS => ?_)
          have hP : va_P D vwCl (clW g a (sa S1 10 pl w)) H := hP
          clear hD1
          have hB : cbd (sa S1 10 pl w) := bd_sa hB (show w ≤ 60 by first | assumption | omega)
          refine lv_iinc (v := (nI (pl + 1))) (lv' := [(3, Value.int (nI (pl + 1))), (0, Value.ref (a 4)), (1, Value.int (nI u)), (2, Value.int (nI w))]) hx hb dX1_moveAll_27 hl (k := 0) rfl (r_inc1 _) (by decide) rfl (fun ls hl => ?_)
          refine lv_goto (tgt := 2) hx hb dX1_moveAll_30 (by decide) ?_
          exact ih2 (sa S1 10 pl w) (pl + 1) (by exact hc) (by omega) (by (simp only [mlF, mv10, if_neg c7, if_pos c17] at hv; exact hv)) (by omega) hB _ _ hP hS ls (lv_sub hl [0, 1, 2, 3] rfl)
  exact lp2 (nv S 2 + 1) S 0 (by rfl) (by omega) (by rfl) (by omega) hB _ _ hP hS ls (lv_sub hl [0, 1, 2, 3] rfl)
end
section
set_option maxRecDepth 100000 in
set_option maxHeartbeats 4000000 in
theorem c_rr_isKind (l : Launch)  (x : Int32) : Met l yX5_isKind wsX5_isKind ({ frames := 0, cells := 0, slots := 0, locals := 0 } : Room) (va_Pc [Value.int x] (fun _ => True)) (k2_QcV (Value.int (nI (bN (ikP x))))) 0 0 (fun _ => False) := by
  refine Met.ofW (cc := cX5_isKind) (maxL := 1) (ret := (some .boolean)) (by decide) rfl ?_
  intro p e s m args below meth c s₁ B hml hv
  obtain ⟨rfl, -⟩ := hv
  have hx := B.exec
  have hb := B.bytes
  have hr := B.returns
  have hts := atoms_spec (ws := wsX5_isKind) B.pre
  have ht := fun (w : Cond) (h : w ∈ lw_g) => hts w (List.mem_cons_of_mem _ h)
  have hown : s.vm.findClass "ReaderRows" = some m.cls := findClass_of_methodNamed B.named
  have hlocks := B.notSynchronized
  have hl := lv_entry ([Value.int x]) (n := 1) (Nat.le_of_ble_eq_true rfl)
  rw [lg_entry_eq]
  generalize (lg_sl ([Value.int x]) ++ List.replicate (1 - (lg_sl ([Value.int x])).length) Slot.unset).toArray = ls at hl ⊢
  have hl : lv_has ls 1 [(0, Value.int x)] := hl
  refine lv_iload_n hx hb dX5_isKind_0 rfl (lv_at hl 0 rfl) ?_
  refine lv_if_lt (tgt := 13) hx hb dX5_isKind_1 (by decide) (fun c1 => ?_) (fun c1 => ?_)
  · refine lv_iconst (v := (nI 0)) hx hb dX5_isKind_13 (by decide) ?_
    have hv9 : (nI 0) = (nI (bN (ikP x))) := by first | exact r_one ⟨c1, c6⟩ | exact r_zero (fun q => q.1 c1) | exact r_zero (fun q => q.2 c6)
    have hn9 : narrow .boolean (Value.int (nI 0)) = Value.int (nI 0) := by exact r_nz (by omega)
    exact W.zret (v := (nI 0)) (ty := .boolean) hx hb hr hn9 (fun t ht hW => ⟨congrArg (fun z => Outcome.returned (some (Value.int z))) hv9, ht⟩) (fun _ h => by cases h) dX5_isKind_14
  · refine lv_iload_n hx hb dX5_isKind_4 rfl (lv_at hl 0 rfl) ?_
    refine lv_iconst (v := (nI 5)) hx hb dX5_isKind_5 (by decide) ?_
    refine lv_icmp_ge (tgt := 13) hx hb dX5_isKind_6 (by decide) (fun c6 => ?_) (fun c6 => ?_)
    · refine lv_iconst (v := (nI 0)) hx hb dX5_isKind_13 (by decide) ?_
      have hv9 : (nI 0) = (nI (bN (ikP x))) := by first | exact r_one ⟨c1, c6⟩ | exact r_zero (fun q => q.1 c1) | exact r_zero (fun q => q.2 c6)
      have hn9 : narrow .boolean (Value.int (nI 0)) = Value.int (nI 0) := by exact r_nz (by omega)
      exact W.zret (v := (nI 0)) (ty := .boolean) hx hb hr hn9 (fun t ht hW => ⟨congrArg (fun z => Outcome.returned (some (Value.int z))) hv9, ht⟩) (fun _ h => by cases h) dX5_isKind_14
    · refine lv_iconst (v := (nI 1)) hx hb dX5_isKind_9 (by decide) ?_
      refine lv_goto (tgt := 14) hx hb dX5_isKind_10 (by decide) ?_
      have hv9 : (nI 1) = (nI (bN (ikP x))) := by first | exact r_one ⟨c1, c6⟩ | exact r_zero (fun q => q.1 c1) | exact r_zero (fun q => q.2 c6)
      have hn9 : narrow .boolean (Value.int (nI 1)) = Value.int (nI 1) := by exact r_nz (by omega)
      exact W.zret (v := (nI 1)) (ty := .boolean) hx hb hr hn9 (fun t ht hW => ⟨congrArg (fun z => Outcome.returned (some (Value.int z))) hv9, ht⟩) (fun _ h => by cases h) dX5_isKind_14

set_option maxRecDepth 100000 in
set_option maxHeartbeats 4000000 in
theorem c_rr_isDay (l : Launch)  (d : Int64) : Met l yX5_isDay wsX5_isDay ({ frames := 0, cells := 0, slots := 0, locals := 0 } : Room) (va_Pc [Value.long d] (fun _ => True)) (k2_QcV (Value.int (nI (bN (idP d))))) 0 0 (fun _ => False) := by
  refine Met.ofW (cc := cX5_isDay) (maxL := 2) (ret := (some .boolean)) (by decide) rfl ?_
  intro p e s m args below meth c s₁ B hml hv
  obtain ⟨rfl, -⟩ := hv
  have hx := B.exec
  have hb := B.bytes
  have hr := B.returns
  have hts := atoms_spec (ws := wsX5_isDay) B.pre
  have ht := fun (w : Cond) (h : w ∈ lw_g) => hts w (List.mem_cons_of_mem _ h)
  have hown : s.vm.findClass "ReaderRows" = some m.cls := findClass_of_methodNamed B.named
  have hlocks := B.notSynchronized
  have hl := lv_entry ([Value.long d]) (n := 2) (Nat.le_of_ble_eq_true rfl)
  rw [lg_entry_eq]
  generalize (lg_sl ([Value.long d]) ++ List.replicate (2 - (lg_sl ([Value.long d])).length) Slot.unset).toArray = ls at hl ⊢
  have hl : lv_has ls 2 [(0, Value.long d)] := hl
  refine lv_lload_n hx hb dX5_isDay_0 rfl (lv_at hl 0 rfl) ?_
  refine lv_lconst (v := 0) hx hb dX5_isDay_1 (by decide) ?_
  refine W.lcmp hx hb dX5_isDay_2 ?_
  refine r_lc_lt (tgt := 18) hx hb dX5_isDay_3 (by decide) (fun c3 => ?_) (fun c3 => ?_)
  · refine lv_iconst (v := (nI 0)) hx hb dX5_isDay_18 (by decide) ?_
    have hv9 : (nI 0) = (nI (bN (idP d))) := by first | exact r_one ⟨c3, c11⟩ | exact r_zero (fun q => q.1 c3) | exact r_zero (fun q => q.2 c11)
    have hn9 : narrow .boolean (Value.int (nI 0)) = Value.int (nI 0) := by exact r_nz (by omega)
    exact W.zret (v := (nI 0)) (ty := .boolean) hx hb hr hn9 (fun t ht hW => ⟨congrArg (fun z => Outcome.returned (some (Value.int z))) hv9, ht⟩) (fun _ h => by cases h) dX5_isDay_19
  · refine lv_lload_n hx hb dX5_isDay_6 rfl (lv_at hl 0 rfl) ?_
    refine lv_ldc2 (v := 1000000000) hx hb hown (ht _ m_219) dX5_isDay_7 ?_
    refine W.lcmp hx hb dX5_isDay_10 ?_
    refine r_lc_gt (tgt := 18) hx hb dX5_isDay_11 (by decide) (fun c11 => ?_) (fun c11 => ?_)
    · refine lv_iconst (v := (nI 0)) hx hb dX5_isDay_18 (by decide) ?_
      have hv9 : (nI 0) = (nI (bN (idP d))) := by first | exact r_one ⟨c3, c11⟩ | exact r_zero (fun q => q.1 c3) | exact r_zero (fun q => q.2 c11)
      have hn9 : narrow .boolean (Value.int (nI 0)) = Value.int (nI 0) := by exact r_nz (by omega)
      exact W.zret (v := (nI 0)) (ty := .boolean) hx hb hr hn9 (fun t ht hW => ⟨congrArg (fun z => Outcome.returned (some (Value.int z))) hv9, ht⟩) (fun _ h => by cases h) dX5_isDay_19
    · refine lv_iconst (v := (nI 1)) hx hb dX5_isDay_14 (by decide) ?_
      refine lv_goto (tgt := 19) hx hb dX5_isDay_15 (by decide) ?_
      have hv9 : (nI 1) = (nI (bN (idP d))) := by first | exact r_one ⟨c3, c11⟩ | exact r_zero (fun q => q.1 c3) | exact r_zero (fun q => q.2 c11)
      have hn9 : narrow .boolean (Value.int (nI 1)) = Value.int (nI 1) := by exact r_nz (by omega)
      exact W.zret (v := (nI 1)) (ty := .boolean) hx hb hr hn9 (fun t ht hW => ⟨congrArg (fun z => Outcome.returned (some (Value.int z))) hv9, ht⟩) (fun _ h => by cases h) dX5_isDay_19

set_option maxRecDepth 100000 in
set_option maxHeartbeats 4000000 in
theorem c_rr_isKept (l : Launch) (D : va_G) (g : Nat → ClassId) (a : Nat → Nat)  (S : St) (hB : cbd S) (j : Nat) (d : Int64) (hj : j ≤ 199) : Met l yX5_isKept wsX5_isKept ({ frames := 1, cells := 0, slots := 0, locals := 21 } : Room) (va_Pc [Value.ref (a 0), Value.int (nI j), Value.long d] (wPre D vwCl (clW g a S) (clT g))) (k2_QcV (Value.int (nI (kp S j d)))) 0 0 (fun _ => False) := by
  refine Met.ofW (cc := cX5_isKept) (maxL := 5) (ret := (some .boolean)) (by decide) rfl ?_
  intro p e s m args below meth c s₁ B hml hv
  obtain ⟨rfl, hP, hK⟩ := hv
  have hx := B.exec
  have hb := B.bytes
  have hr := B.returns
  have hts := atoms_spec (ws := wsX5_isKept) B.pre
  have ht := fun (w : Cond) (h : w ∈ lw_g) => hts w (List.mem_cons_of_mem _ h)
  have hown : s.vm.findClass "ReaderRows" = some m.cls := findClass_of_methodNamed B.named
  have hlocks := B.notSynchronized
  have hl := lv_entry ([Value.ref (a 0), Value.int (nI j), Value.long d]) (n := 5) (Nat.le_of_ble_eq_true rfl)
  rw [lg_entry_eq]
  generalize (lg_sl ([Value.ref (a 0), Value.int (nI j), Value.long d]) ++ List.replicate (5 - (lg_sl ([Value.ref (a 0), Value.int (nI j), Value.long d])).length) Slot.unset).toArray = ls at hl ⊢
  have hl : lv_has ls 5 [(0, Value.ref (a 0)), (1, Value.int (nI j)), (2, Value.long d)] := hl
  refine lv_aload_n hx hb dX5_isKept_0 rfl (lv_at hl 0 rfl) ?_
  refine va_get (D := D) (ci := 5) (v := Value.ref (a 4)) (C := "ReaderRows") (T := TX5) (N := 6) hx hb ht inX5 hown hK hP 0 rfl rfl 3 (by decide) (ht _ m_141) (fun _ h9 => h9) rfl dX5_isKept_1 ?_
  refine lv_iload_n hx hb dX5_isKept_4 rfl (lv_at hl 1 rfl) ?_
  refine r_callR (r := Value.int (nI (av S 12 j))) (As := [Value.int (nI j)]) (rest := []) ⟨hx, hb, hml, hown, ht⟩ (c_lo_isAnonymous l D g a S hB j (by omega)) (cwV 1 ht (gdV m_260 m_261 m_262 m_5 m_263) rfl rfl rfl (by decide +kernel) ⟨Nat.le_of_ble_eq_true rfl, Nat.le_of_ble_eq_true rfl⟩) (va_recv hK hP (ci := 1) (q0 := 4) rfl rfl) hP hK rfl hl.1 rfl (Nat.le_of_ble_eq_true rfl) dX5_isKept_5 ⟨Nat.zero_le _, Nat.zero_le _⟩ ?_
  have b_isAnonymous17 : av S 12 j ≤ 1 := hB.2 12 _
  refine r_if_eq_n (tgt := 13) hx hb dX5_isKept_8 (by decide) (by omega) (fun c8 => ?_) (fun c8 => ?_)
  · refine lv_aload_n hx hb dX5_isKept_13 rfl (lv_at hl 0 rfl) ?_
    refine va_get (D := D) (ci := 5) (v := Value.ref (a 4)) (C := "ReaderRows") (T := TX5) (N := 6) hx hb ht inX5 hown hK hP 0 rfl rfl 3 (by decide) (ht _ m_141) (fun _ h9 => h9) rfl dX5_isKept_14 ?_
    refine lv_iload_n hx hb dX5_isKept_17 rfl (lv_at hl 1 rfl) ?_
    refine r_callR (r := Value.int (nI (av S 10 j))) (As := [Value.int (nI j)]) (rest := []) ⟨hx, hb, hml, hown, ht⟩ (c_lo_holderOf l D g a S hB j (by omega)) (cwV 1 ht (gdV m_252 m_253 m_254 m_5 m_255) rfl rfl rfl (by decide +kernel) ⟨Nat.le_of_ble_eq_true rfl, Nat.le_of_ble_eq_true rfl⟩) (va_recv hK hP (ci := 1) (q0 := 4) rfl rfl) hP hK rfl hl.1 rfl (Nat.le_of_ble_eq_true rfl) dX5_isKept_18 ⟨Nat.zero_le _, Nat.zero_le _⟩ ?_
    have b_holderOf23 : av S 10 j ≤ 60 := hB.2 10 _
    refine lv_istore (lv' := [(4, Value.int (nI (av S 10 j))), (0, Value.ref (a 0)), (1, Value.int (nI j)), (2, Value.long d)]) hx hb dX5_isKept_21 hl (by decide) rfl (fun ls hl => ?_)
    refine lv_aload_n hx hb dX5_isKept_23 rfl (lv_at hl 1 rfl) ?_
    refine va_get (D := D) (ci := 5) (v := Value.ref (a 1)) (C := "ReaderRows") (T := TX5) (N := 6) hx hb ht inX5 hown hK hP 0 rfl rfl 0 (by decide) (ht _ m_138) (fun _ h9 => h9) rfl dX5_isKept_24 ?_
    refine lv_iload hx hb dX5_isKept_27 (lv_at hl 0 rfl) ?_
    refine r_callR (r := Value.int (nI (av S 3 (av S 10 j)))) (As := [Value.int (nI (av S 10 j))]) (rest := []) ⟨hx, hb, hml, hown, ht⟩ (c_rd_hasConsent l D g a S hB (av S 10 j) (by omega)) (cwV 1 ht (gdV m_236 m_237 m_238 m_2 m_239) rfl rfl rfl (by decide +kernel) ⟨Nat.le_of_ble_eq_true rfl, Nat.le_of_ble_eq_true rfl⟩) (va_recv hK hP (ci := 3) (q0 := 1) rfl rfl) hP hK rfl hl.1 rfl (Nat.le_of_ble_eq_true rfl) dX5_isKept_29 ⟨Nat.zero_le _, Nat.zero_le _⟩ ?_
    have b_hasConsent29 : av S 3 (av S 10 j) ≤ 1 := hB.2 3 _
    refine r_if_ne_n (tgt := 64) hx hb dX5_isKept_32 (by decide) (by omega) (fun c32 => ?_) (fun c32 => ?_)
    · refine lv_iconst (v := (nI 1)) hx hb dX5_isKept_64 (by decide) ?_
      refine lv_goto (tgt := 69) hx hb dX5_isKept_65 (by decide) ?_
      have hv9 : (nI 1) = (nI (kp S j d)) := by first | (simp only [kp, if_pos c8, if_neg c32]; done) | (with_reducible rfl) | (simp only [kp, if_pos c8, if_neg c32]; rfl) | rfl | (simp [kp, c8, c32]; done)
      have hn9 : narrow .boolean (Value.int (nI 1)) = Value.int (nI 1) := by exact r_nz (by omega)
      exact W.zret (v := (nI 1)) (ty := .boolean) hx hb hr hn9 (fun t ht hW => ⟨congrArg (fun z => Outcome.returned (some (Value.int z))) hv9, ht⟩) (fun _ h => by cases h) dX5_isKept_69
    · refine lv_lload_n hx hb dX5_isKept_35 rfl (lv_at hl 3 rfl) ?_
      refine lv_aload_n hx hb dX5_isKept_36 rfl (lv_at hl 1 rfl) ?_
      refine va_get (D := D) (ci := 5) (v := Value.ref (a 4)) (C := "ReaderRows") (T := TX5) (N := 6) hx hb ht inX5 hown hK hP 0 rfl rfl 3 (by decide) (ht _ m_141) (fun _ h9 => h9) rfl dX5_isKept_37 ?_
      refine lv_iload_n hx hb dX5_isKept_40 rfl (lv_at hl 2 rfl) ?_
      refine r_callR (r := Value.long (yv S 2 j)) (As := [Value.int (nI j)]) (rest := [Value.long d]) ⟨hx, hb, hml, hown, ht⟩ (c_lo_lastDayOf l D g a S hB j (by omega)) (cwV 1 ht (gdV m_268 m_269 m_270 m_5 m_271) rfl rfl rfl (by decide +kernel) ⟨Nat.le_of_ble_eq_true rfl, Nat.le_of_ble_eq_true rfl⟩) (va_recv hK hP (ci := 1) (q0 := 4) rfl rfl) hP hK rfl hl.1 rfl (Nat.le_of_ble_eq_true rfl) dX5_isKept_41 ⟨Nat.zero_le _, Nat.zero_le _⟩ ?_
      refine lv_aload_n hx hb dX5_isKept_44 rfl (lv_at hl 1 rfl) ?_
      refine va_get (D := D) (ci := 5) (v := Value.ref (a 6)) (C := "ReaderRows") (T := TX5) (N := 6) hx hb ht inX5 hown hK hP 0 rfl rfl 5 (by decide) (ht _ m_143) (fun _ h9 => h9) rfl dX5_isKept_45 ?_
      refine lv_aload_n hx hb dX5_isKept_48 rfl (lv_at hl 1 rfl) ?_
      refine va_get (D := D) (ci := 5) (v := Value.ref (a 1)) (C := "ReaderRows") (T := TX5) (N := 6) hx hb ht inX5 hown hK hP 0 rfl rfl 0 (by decide) (ht _ m_138) (fun _ h9 => h9) rfl dX5_isKept_49 ?_
      refine lv_iload hx hb dX5_isKept_52 (lv_at hl 0 rfl) ?_
      refine r_callR (r := Value.int (nI (av S 1 (av S 10 j)))) (As := [Value.int (nI (av S 10 j))]) (rest := [Value.ref (a 6), Value.long (yv S 2 j), Value.long d]) ⟨hx, hb, hml, hown, ht⟩ (c_rd_kindOf l D g a S hB (av S 10 j) (by omega)) (cwV 1 ht (gdV m_272 m_273 m_274 m_2 m_275) rfl rfl rfl (by decide +kernel) ⟨Nat.le_of_ble_eq_true rfl, Nat.le_of_ble_eq_true rfl⟩) (va_recv hK hP (ci := 3) (q0 := 1) rfl rfl) hP hK rfl hl.1 rfl (Nat.le_of_ble_eq_true rfl) dX5_isKept_54 ⟨Nat.zero_le _, Nat.zero_le _⟩ ?_
      have b_kindOf47 : av S 1 (av S 10 j) ≤ 4 := hB.2 1 _
      refine r_iald_n (f := av S 15) hx hb hK hP 6 0 rfl rfl (i := (av S 1 (av S 10 j))) (show _ < 5 by first | omega | (simp only [Nat.lt_iff_add_one_le] at *; omega)) (by decide) dX5_isKept_57 ?_
      have b_V15_57 : av S 15 (av S 1 (av S 10 j)) ≤ 100000 := hB.2 15 (av S 1 (av S 10 j))
      refine lv_i2l (v := lN (av S 15 (av S 1 (av S 10 j)))) hx hb dX5_isKept_58 (nI_l (by omega)) ?_
      refine lv_ladd hx hb dX5_isKept_59 ?_
      refine W.lcmp hx hb dX5_isKept_60 ?_
      refine r_lc_gt (tgt := 68) hx hb dX5_isKept_61 (by decide) (fun c61 => ?_) (fun c61 => ?_)
      · refine lv_iconst (v := (nI 0)) hx hb dX5_isKept_68 (by decide) ?_
        have hv9 : (nI 0) = (nI (kp S j d)) := by first | (simp only [kp, if_pos c8, if_pos c32, if_pos c61]; done) | (with_reducible rfl) | (simp only [kp, if_pos c8, if_pos c32, if_pos c61]; rfl) | rfl | (simp [kp, c8, c32, c61]; done)
        have hn9 : narrow .boolean (Value.int (nI 0)) = Value.int (nI 0) := by exact r_nz (by omega)
        exact W.zret (v := (nI 0)) (ty := .boolean) hx hb hr hn9 (fun t ht hW => ⟨congrArg (fun z => Outcome.returned (some (Value.int z))) hv9, ht⟩) (fun _ h => by cases h) dX5_isKept_69
      · refine lv_iconst (v := (nI 1)) hx hb dX5_isKept_64 (by decide) ?_
        refine lv_goto (tgt := 69) hx hb dX5_isKept_65 (by decide) ?_
        have hv9 : (nI 1) = (nI (kp S j d)) := by first | (simp only [kp, if_pos c8, if_pos c32, if_neg c61]; done) | (with_reducible rfl) | (simp only [kp, if_pos c8, if_pos c32, if_neg c61]; rfl) | rfl | (simp [kp, c8, c32, c61]; done)
        have hn9 : narrow .boolean (Value.int (nI 1)) = Value.int (nI 1) := by exact r_nz (by omega)
        exact W.zret (v := (nI 1)) (ty := .boolean) hx hb hr hn9 (fun t ht hW => ⟨congrArg (fun z => Outcome.returned (some (Value.int z))) hv9, ht⟩) (fun _ h => by cases h) dX5_isKept_69
  · refine lv_iconst (v := (nI 0)) hx hb dX5_isKept_11 (by decide) ?_
    have hv9 : (nI 0) = (nI (kp S j d)) := by first | (simp only [kp, if_neg c8]; done) | (with_reducible rfl) | (simp only [kp, if_neg c8]; rfl) | rfl | (simp [kp, c8]; done)
    have hn9 : narrow .boolean (Value.int (nI 0)) = Value.int (nI 0) := by exact r_nz (by omega)
    exact W.zret (v := (nI 0)) (ty := .boolean) hx hb hr hn9 (fun t ht hW => ⟨congrArg (fun z => Outcome.returned (some (Value.int z))) hv9, ht⟩) (fun _ h => by cases h) dX5_isKept_12

set_option maxRecDepth 100000 in
set_option maxHeartbeats 4000000 in
theorem c_rr_anonymiseUnlessKept (l : Launch) (D : va_G) (g : Nat → ClassId) (a : Nat → Nat) (hD : ∀ S : St, va_D (cA a) (clW g a S))  (S : St) (hB : cbd S) (j : Nat) (d : Int64) (hj : j ≤ 199) : Met l yX5_anonymiseUnlessKept wsX5_anonymiseUnlessKept ({ frames := 2, cells := 0, slots := 0, locals := 45 } : Room) (va_Pc [Value.ref (a 0), Value.int (nI j), Value.long d] (wPre D vwCl (clW g a S) (clT g))) (wQ (some (Value.int (nI (auV S j d)))) D vwCl (clW g a (auS S j d)) (cA a) (cbd (auS S j d))) 0 0 (cA a) := by
  refine Met.ofW (cc := cX5_anonymiseUnlessKept) (maxL := 4) (ret := (some .boolean)) (by decide) rfl ?_
  intro p e s m args below meth c s₁ B hml hv
  obtain ⟨rfl, hP, hK⟩ := hv
  have hx := B.exec
  have hb := B.bytes
  have hr := B.returns
  have hts := atoms_spec (ws := wsX5_anonymiseUnlessKept) B.pre
  have ht := fun (w : Cond) (h : w ∈ lw_g) => hts w (List.mem_cons_of_mem _ h)
  have hown : s.vm.findClass "ReaderRows" = some m.cls := findClass_of_methodNamed B.named
  have hlocks := B.notSynchronized
  have hS : va_S (cA a) s.heap s.heap [] := va_S.rf
  have hl := lv_entry ([Value.ref (a 0), Value.int (nI j), Value.long d]) (n := 4) (Nat.le_of_ble_eq_true rfl)
  rw [lg_entry_eq]
  generalize (lg_sl ([Value.ref (a 0), Value.int (nI j), Value.long d]) ++ List.replicate (4 - (lg_sl ([Value.ref (a 0), Value.int (nI j), Value.long d])).length) Slot.unset).toArray = ls at hl ⊢
  have hl : lv_has ls 4 [(0, Value.ref (a 0)), (1, Value.int (nI j)), (2, Value.long d)] := hl
  refine lv_aload_n hx hb dX5_anonymiseUnlessKept_0 rfl (lv_at hl 0 rfl) ?_
  refine va_get (D := D) (ci := 5) (v := Value.ref (a 4)) (C := "ReaderRows") (T := TX5) (N := 6) hx hb ht inX5 hown hK hP 0 rfl rfl 3 (by decide) (ht _ m_141) (fun _ h9 => h9) rfl dX5_anonymiseUnlessKept_1 ?_
  refine lv_iload_n hx hb dX5_anonymiseUnlessKept_4 rfl (lv_at hl 1 rfl) ?_
  refine r_callR (r := Value.int (nI (av S 12 j))) (As := [Value.int (nI j)]) (rest := []) ⟨hx, hb, hml, hown, ht⟩ (c_lo_isAnonymous l D g a S hB j (by omega)) (cwV 1 ht (gdV m_260 m_261 m_262 m_5 m_263) rfl rfl rfl (by decide +kernel) ⟨Nat.le_of_ble_eq_true rfl, Nat.le_of_ble_eq_true rfl⟩) (va_recv hK hP (ci := 1) (q0 := 4) rfl rfl) hP hK rfl hl.1 rfl (Nat.le_of_ble_eq_true rfl) dX5_anonymiseUnlessKept_5 ⟨Nat.zero_le _, Nat.zero_le _⟩ ?_
  have b_isAnonymous18 : av S 12 j ≤ 1 := hB.2 12 _
  refine r_if_ne_n (tgt := 20) hx hb dX5_anonymiseUnlessKept_8 (by decide) (by omega) (fun c8 => ?_) (fun c8 => ?_)
  · refine lv_iconst (v := (nI 0)) hx hb dX5_anonymiseUnlessKept_20 (by decide) ?_
    have hv9 : (nI 0) = (nI (auV S j d)) := by first | (simp only [auV, auS, if_neg c8]; done) | (with_reducible rfl) | (simp only [auV, auS, if_neg c8]; rfl) | rfl | (simp [auV, auS, c8]; done)
    have hn9 : narrow .boolean (Value.int (nI 0)) = Value.int (nI 0) := by exact r_nz (by omega)
    have hs9 : S = (auS S j d) := by first | (simp only [auV, auS, if_neg c8]; done) | (with_reducible rfl) | (simp only [auV, auS, if_neg c8]; rfl) | rfl | (simp [auV, auS, c8]; done)
    exact W.zret (v := (nI 0)) (ty := .boolean) hx hb hr hn9 (fun t ht hW => ⟨congrArg (fun z => Outcome.returned (some (Value.int z))) hv9, by rw [ht, ← hs9]; exact hP, hS.F ht, by rw [← hs9]; exact hB⟩) hS.2.2 dX5_anonymiseUnlessKept_21
  · refine lv_aload_n hx hb dX5_anonymiseUnlessKept_11 rfl (lv_at hl 0 rfl) ?_
    refine lv_iload_n hx hb dX5_anonymiseUnlessKept_12 rfl (lv_at hl 1 rfl) ?_
    refine lv_lload_n hx hb dX5_anonymiseUnlessKept_13 rfl (lv_at hl 2 rfl) ?_
    refine r_callR (r := Value.int (nI (kp S j d))) (As := [Value.int (nI j), Value.long d]) (rest := []) ⟨hx, hb, hml, hown, ht⟩ (c_rr_isKept l D g a S hB j d (by omega)) (cwV 2 ht (gdV m_264 m_266 ms_3 m_1 m_267) rfl rfl rfl (by decide +kernel) ⟨Nat.le_of_ble_eq_true rfl, Nat.le_of_ble_eq_true rfl⟩) (va_recv hK hP (ci := 5) (q0 := 0) rfl rfl) hP hK rfl hl.1 rfl (Nat.le_of_ble_eq_true rfl) dX5_anonymiseUnlessKept_14 ⟨Nat.zero_le _, Nat.zero_le _⟩ ?_
    have b_kp29 : kp S j d ≤ 1 := kp_le _ _ _
    refine r_if_eq_n (tgt := 22) hx hb dX5_anonymiseUnlessKept_17 (by decide) (by omega) (fun c17 => ?_) (fun c17 => ?_)
    · refine lv_aload_n hx hb dX5_anonymiseUnlessKept_22 rfl (lv_at hl 0 rfl) ?_
      refine va_get (D := D) (ci := 5) (v := Value.ref (a 4)) (C := "ReaderRows") (T := TX5) (N := 6) hx hb ht inX5 hown hK hP 0 rfl rfl 3 (by decide) (ht _ m_141) (fun _ h9 => h9) rfl dX5_anonymiseUnlessKept_23 ?_
      refine lv_iload_n hx hb dX5_anonymiseUnlessKept_26 rfl (lv_at hl 1 rfl) ?_
      refine r_callW (st' := []) (As := [Value.int (nI j)]) (rest := []) ⟨hx, hb, hml, hown, ht⟩ (c_lo_makeAnonymous l D g a hD S hB j (by omega)) (cwV 1 ht (gdV m_276 m_277 m_278 m_5 m_279) rfl rfl rfl (by decide +kernel) ⟨Nat.le_of_ble_eq_true rfl, Nat.le_of_ble_eq_true rfl⟩) (va_recv hK hP (ci := 1) (q0 := 4) rfl rfl) hP hK rfl hS rfl hl.1 rfl (Nat.le_of_ble_eq_true rfl) dX5_anonymiseUnlessKept_27 ⟨Nat.zero_le _, Nat.zero_le _⟩ (fun H locs hP hS hB => ?_)
      refine lv_iconst (v := (nI 1)) hx hb dX5_anonymiseUnlessKept_30 (by decide) ?_
      have hv9 : (nI 1) = (nI (auV S j d)) := by first | (simp only [auV, auS, if_pos c8, if_pos c17]; done) | (with_reducible rfl) | (simp only [auV, auS, if_pos c8, if_pos c17]; rfl) | rfl | (simp [auV, auS, c8, c17]; done)
      have hn9 : narrow .boolean (Value.int (nI 1)) = Value.int (nI 1) := by exact r_nz (by omega)
      have hs9 : (sa S 12 j 1) = (auS S j d) := by first | (simp only [auV, auS, if_pos c8, if_pos c17]; done) | (with_reducible rfl) | (simp only [auV, auS, if_pos c8, if_pos c17]; rfl) | rfl | (simp [auV, auS, c8, c17]; done)
      exact W.zret (v := (nI 1)) (ty := .boolean) hx hb hr hn9 (fun t ht hW => ⟨congrArg (fun z => Outcome.returned (some (Value.int z))) hv9, by rw [ht, ← hs9]; exact hP, hS.F ht, by rw [← hs9]; exact hB⟩) hS.2.2 dX5_anonymiseUnlessKept_31
    · refine lv_iconst (v := (nI 0)) hx hb dX5_anonymiseUnlessKept_20 (by decide) ?_
      have hv9 : (nI 0) = (nI (auV S j d)) := by first | (simp only [auV, auS, if_pos c8, if_neg c17]; done) | (with_reducible rfl) | (simp only [auV, auS, if_pos c8, if_neg c17]; rfl) | rfl | (simp [auV, auS, c8, c17]; done)
      have hn9 : narrow .boolean (Value.int (nI 0)) = Value.int (nI 0) := by exact r_nz (by omega)
      have hs9 : S = (auS S j d) := by first | (simp only [auV, auS, if_pos c8, if_neg c17]; done) | (with_reducible rfl) | (simp only [auV, auS, if_pos c8, if_neg c17]; rfl) | rfl | (simp [auV, auS, c8, c17]; done)
      exact W.zret (v := (nI 0)) (ty := .boolean) hx hb hr hn9 (fun t ht hW => ⟨congrArg (fun z => Outcome.returned (some (Value.int z))) hv9, by rw [ht, ← hs9]; exact hP, hS.F ht, by rw [← hs9]; exact hB⟩) hS.2.2 dX5_anonymiseUnlessKept_21

set_option maxRecDepth 100000 in
set_option maxHeartbeats 4000000 in
theorem c_rr_anonymiseLoansOf (l : Launch) (D : va_G) (g : Nat → ClassId) (a : Nat → Nat) (hD : ∀ S : St, va_D (cA a) (clW g a S))  (S : St) (hB : cbd S) (r : Nat) (d : Int64) (hr0 : r ≤ 60) : Met l yX5_anonymiseLoansOf wsX5_anonymiseLoansOf ({ frames := 3, cells := 0, slots := 0, locals := 68 } : Room) (va_Pc [Value.ref (a 0), Value.int (nI r), Value.long d] (wPre D vwCl (clW g a S) (clT g))) (wQ (some (Value.int (nI ((alP S r d).1)))) D vwCl (clW g a ((alP S r d).2)) (cA a) (cbd ((alP S r d).2))) 0 0 (cA a) := by
  refine Met.ofW (cc := cX5_anonymiseLoansOf) (maxL := 6) (ret := (some .int)) (by decide) rfl ?_
  intro p e s m args below meth c s₁ B hml hv
  obtain ⟨rfl, hP, hK⟩ := hv
  have hx := B.exec
  have hb := B.bytes
  have hr := B.returns
  have hts := atoms_spec (ws := wsX5_anonymiseLoansOf) B.pre
  have ht := fun (w : Cond) (h : w ∈ lw_g) => hts w (List.mem_cons_of_mem _ h)
  have hown : s.vm.findClass "ReaderRows" = some m.cls := findClass_of_methodNamed B.named
  have hlocks := B.notSynchronized
  have hS : va_S (cA a) s.heap s.heap [] := va_S.rf
  have hl := lv_entry ([Value.ref (a 0), Value.int (nI r), Value.long d]) (n := 6) (Nat.le_of_ble_eq_true rfl)
  rw [lg_entry_eq]
  generalize (lg_sl ([Value.ref (a 0), Value.int (nI r), Value.long d]) ++ List.replicate (6 - (lg_sl ([Value.ref (a 0), Value.int (nI r), Value.long d])).length) Slot.unset).toArray = ls at hl ⊢
  have hl : lv_has ls 6 [(0, Value.ref (a 0)), (1, Value.int (nI r)), (2, Value.long d)] := hl
  refine lv_iconst (v := (nI 0)) hx hb dX5_anonymiseLoansOf_0 (by decide) ?_
  refine lv_istore (lv' := [(4, Value.int (nI 0)), (0, Value.ref (a 0)), (1, Value.int (nI r)), (2, Value.long d)]) hx hb dX5_anonymiseLoansOf_1 hl (by decide) rfl (fun ls hl => ?_)
  refine lv_iconst (v := (nI 0)) hx hb dX5_anonymiseLoansOf_3 (by decide) ?_
  refine lv_istore (lv' := [(5, Value.int (nI 0)), (4, Value.int (nI 0)), (0, Value.ref (a 0)), (1, Value.int (nI r)), (2, Value.long d)]) hx hb dX5_anonymiseLoansOf_4 hl (by decide) rfl (fun ls hl => ?_)
  have lp6 : ∀ (f6 : Nat) (S1 : St) (z : Nat) (j : Nat), nv S1 2 = nv S 2 → j ≤ nv S 2 → z ≤ j → alF r d f6 j z S1 = alP S r d → nv S 2 + 1 ≤ j + f6 → cbd S1 → ∀ (H : Heap) (locs : List Loc), va_P D vwCl (clW g a S1) H → va_S (cA a) s.heap H locs → ∀ (ls : Array Slot), lv_has ls 6 [(5, Value.int (nI j)), (4, Value.int (nI z)), (0, Value.ref (a 0)), (1, Value.int (nI r)), (2, Value.long d)] → W p l e (headSpec wsX5_anonymiseLoansOf ({ frames := 3, cells := 0, slots := 0, locals := 68 } : Room)).room s m ([Value.ref (a 0), Value.int (nI r), Value.long d] : List Value).toArray below meth c H locs 0 0 (MQ below (wQ (some (Value.int (nI ((alP S r d).1)))) D vwCl (clW g a ((alP S r d).2)) (cA a) (cbd ((alP S r d).2))) ([Value.ref (a 0), Value.int (nI r), Value.long d] : List Value).toArray s 0 0 (cA a)) (F0 m 6 ls []) := by
    intro f6
    induction f6 with
    | zero =>
      intro S1 z j hc hp hz hv hfu
      exact absurd hfu (by omega)
    | succ f6 ih6 =>
      intro S1 z j hc hp hz hv hfu hB H locs hP hS ls hl
      refine lv_iload hx hb dX5_anonymiseLoansOf_6 (lv_at hl 0 rfl) ?_
      refine lv_aload_n hx hb dX5_anonymiseLoansOf_8 rfl (lv_at hl 2 rfl) ?_
      refine va_get (D := D) (ci := 5) (v := Value.ref (a 4)) (C := "ReaderRows") (T := TX5) (N := 6) hx hb ht inX5 hown hK hP 0 rfl rfl 3 (by decide) (ht _ m_141) (fun _ h9 => h9) rfl dX5_anonymiseLoansOf_9 ?_
      refine r_callR (r := Value.int (nI (nv S1 2))) (As := []) (rest := [Value.int (nI j)]) ⟨hx, hb, hml, hown, ht⟩ (c_lo_count l D g a S1 hB ) (cwV 0 ht (gdV m_248 m_249 m_250 m_5 m_251) rfl rfl rfl (by decide +kernel) ⟨Nat.le_of_ble_eq_true rfl, Nat.le_of_ble_eq_true rfl⟩) (va_recv hK hP (ci := 1) (q0 := 4) rfl rfl) hP hK rfl hl.1 rfl (Nat.le_of_ble_eq_true rfl) dX5_anonymiseLoansOf_12 ⟨Nat.zero_le _, Nat.zero_le _⟩ ?_
      have b_lc : nv S1 2 ≤ 200 := hB.1 2
      refine r_icmp_ge (tgt := 50) hx hb dX5_anonymiseLoansOf_15 (by decide) (by omega) (by omega) (fun c15 => ?_) (fun c15 => ?_)
      · refine lv_iload hx hb dX5_anonymiseLoansOf_50 (lv_at hl 1 rfl) ?_
        have hv9 : (nI z) = (nI ((alP S r d).1)) := by rw [← hv]; simp only [alF, if_pos c15]
        have hs9 : S1 = ((alP S r d).2) := by rw [← hv]; simp only [alF, if_pos c15]
        exact W.iret (v := (nI z)) hx hb hr (fun t ht hW => ⟨congrArg (fun z => Outcome.returned (some (Value.int z))) hv9, by rw [ht, ← hs9]; exact hP, hS.F ht, by rw [← hs9]; exact hB⟩) hS.2.2 dX5_anonymiseLoansOf_52
      · refine lv_aload_n hx hb dX5_anonymiseLoansOf_18 rfl (lv_at hl 2 rfl) ?_
        refine va_get (D := D) (ci := 5) (v := Value.ref (a 4)) (C := "ReaderRows") (T := TX5) (N := 6) hx hb ht inX5 hown hK hP 0 rfl rfl 3 (by decide) (ht _ m_141) (fun _ h9 => h9) rfl dX5_anonymiseLoansOf_19 ?_
        refine lv_iload hx hb dX5_anonymiseLoansOf_22 (lv_at hl 0 rfl) ?_
        refine r_callR (r := Value.int (nI (av S1 10 j))) (As := [Value.int (nI j)]) (rest := []) ⟨hx, hb, hml, hown, ht⟩ (c_lo_holderOf l D g a S1 hB j (by omega)) (cwV 1 ht (gdV m_252 m_253 m_254 m_5 m_255) rfl rfl rfl (by decide +kernel) ⟨Nat.le_of_ble_eq_true rfl, Nat.le_of_ble_eq_true rfl⟩) (va_recv hK hP (ci := 1) (q0 := 4) rfl rfl) hP hK rfl hl.1 rfl (Nat.le_of_ble_eq_true rfl) dX5_anonymiseLoansOf_24 ⟨Nat.zero_le _, Nat.zero_le _⟩ ?_
        have b_holderOf40 : av S1 10 j ≤ 60 := hB.2 10 _
        refine lv_iload_n hx hb dX5_anonymiseLoansOf_27 rfl (lv_at hl 3 rfl) ?_
        refine r_icmp_ne (tgt := 44) hx hb dX5_anonymiseLoansOf_28 (by decide) (by omega) (by omega) (fun c28 => ?_) (fun c28 => ?_)
        · refine lv_iinc (v := (nI (j + 1))) (lv' := [(5, Value.int (nI (j + 1))), (4, Value.int (nI z)), (0, Value.ref (a 0)), (1, Value.int (nI r)), (2, Value.long d)]) hx hb dX5_anonymiseLoansOf_44 hl (k := 0) rfl (r_inc1 _) (by decide) rfl (fun ls hl => ?_)
          refine lv_goto (tgt := 6) hx hb dX5_anonymiseLoansOf_47 (by decide) ?_
          exact ih6 S1 z (j + 1) (by first | exact hc | (rw [auS_nv]; exact hc)) (by omega) (by omega) (by (simp only [alF, if_neg c15, if_neg c28] at hv; exact hv)) (by omega) hB _ _ hP hS ls (lv_sub hl [0, 1, 2, 3, 4] rfl)
        · refine lv_aload_n hx hb dX5_anonymiseLoansOf_31 rfl (lv_at hl 2 rfl) ?_
          refine lv_iload hx hb dX5_anonymiseLoansOf_32 (lv_at hl 0 rfl) ?_
          refine lv_lload_n hx hb dX5_anonymiseLoansOf_34 rfl (lv_at hl 4 rfl) ?_
          refine r_callW (st' := [Value.int (nI (auV S1 j d))]) (As := [Value.int (nI j), Value.long d]) (rest := []) ⟨hx, hb, hml, hown, ht⟩ (c_rr_anonymiseUnlessKept l D g a hD S1 hB j d (by omega)) (cwV 2 ht (gdV m_256 m_258 ms_2 m_1 m_259) rfl rfl rfl (by decide +kernel) ⟨Nat.le_of_ble_eq_true rfl, Nat.le_of_ble_eq_true rfl⟩) (va_recv hK hP (ci := 5) (q0 := 0) rfl rfl) hP hK rfl hS rfl hl.1 rfl (Nat.le_of_ble_eq_true rfl) dX5_anonymiseLoansOf_35 ⟨Nat.zero_le _, Nat.zero_le _⟩ (fun H locs hP hS hB => ?_)
          have b_au : auV S1 j d ≤ 1 := auV_le _ _ _
          refine r_if_eq_n (tgt := 44) hx hb dX5_anonymiseLoansOf_38 (by decide) (by omega) (fun c38 => ?_) (fun c38 => ?_)
          · refine lv_iinc (v := (nI (j + 1))) (lv' := [(5, Value.int (nI (j + 1))), (4, Value.int (nI z)), (0, Value.ref (a 0)), (1, Value.int (nI r)), (2, Value.long d)]) hx hb dX5_anonymiseLoansOf_44 hl (k := 0) rfl (r_inc1 _) (by decide) rfl (fun ls hl => ?_)
            refine lv_goto (tgt := 6) hx hb dX5_anonymiseLoansOf_47 (by decide) ?_
            exact ih6 (auS S1 j d) z (j + 1) (by first | exact hc | (rw [auS_nv]; exact hc)) (by omega) (by omega) (by (simp only [alF, if_neg c15, if_pos c28, if_pos c38] at hv; exact hv)) (by omega) hB _ _ hP hS ls (lv_sub hl [0, 1, 2, 3, 4] rfl)
          · refine lv_iinc (v := (nI (z + 1))) (lv' := [(4, Value.int (nI (z + 1))), (5, Value.int (nI j)), (0, Value.ref (a 0)), (1, Value.int (nI r)), (2, Value.long d)]) hx hb dX5_anonymiseLoansOf_41 hl (k := 1) rfl (r_inc1 _) (by decide) rfl (fun ls hl => ?_)
            refine lv_iinc (v := (nI (j + 1))) (lv' := [(5, Value.int (nI (j + 1))), (4, Value.int (nI (z + 1))), (0, Value.ref (a 0)), (1, Value.int (nI r)), (2, Value.long d)]) hx hb dX5_anonymiseLoansOf_44 hl (k := 1) rfl (r_inc1 _) (by decide) rfl (fun ls hl => ?_)
            refine lv_goto (tgt := 6) hx hb dX5_anonymiseLoansOf_47 (by decide) ?_
            exact ih6 (auS S1 j d) (z + 1) (j + 1) (by first | exact hc | (rw [auS_nv]; exact hc)) (by omega) (by omega) (by (simp only [alF, if_neg c15, if_pos c28, if_neg c38] at hv; exact hv)) (by omega) hB _ _ hP hS ls (lv_sub hl [0, 1, 2, 3, 4] rfl)
  exact lp6 (nv S 2 + 1) S 0 0 (by rfl) (by omega) (by omega) (by rfl) (by omega) hB _ _ hP hS ls (lv_sub hl [0, 1, 2, 3, 4] rfl)

set_option maxRecDepth 100000 in
set_option maxHeartbeats 4000000 in
theorem c_rr_mayJoin (l : Launch) (D : va_G) (g : Nat → ClassId) (a : Nat → Nat)  (S : St) (hB : cbd S) (u w : Nat) (hu : u ≤ 60) (hw : w ≤ 60) : Met l yX5_mayJoin wsX5_mayJoin ({ frames := 1, cells := 0, slots := 0, locals := 24 } : Room) (va_Pc [Value.ref (a 0), Value.int (nI u), Value.int (nI w)] (wPre D vwCl (clW g a S) (clT g))) (k2_QcV (Value.int (nI (bN (mjP S u w))))) 0 0 (fun _ => False) := by
  refine Met.ofW (cc := cX5_mayJoin) (maxL := 4) (ret := (some .boolean)) (by decide) rfl ?_
  intro p e s m args below meth c s₁ B hml hv
  obtain ⟨rfl, hP, hK⟩ := hv
  have hx := B.exec
  have hb := B.bytes
  have hr := B.returns
  have hts := atoms_spec (ws := wsX5_mayJoin) B.pre
  have ht := fun (w : Cond) (h : w ∈ lw_g) => hts w (List.mem_cons_of_mem _ h)
  have hown : s.vm.findClass "ReaderRows" = some m.cls := findClass_of_methodNamed B.named
  have hlocks := B.notSynchronized
  have hl := lv_entry ([Value.ref (a 0), Value.int (nI u), Value.int (nI w)]) (n := 4) (Nat.le_of_ble_eq_true rfl)
  rw [lg_entry_eq]
  generalize (lg_sl ([Value.ref (a 0), Value.int (nI u), Value.int (nI w)]) ++ List.replicate (4 - (lg_sl ([Value.ref (a 0), Value.int (nI u), Value.int (nI w)])).length) Slot.unset).toArray = ls at hl ⊢
  have hl : lv_has ls 4 [(0, Value.ref (a 0)), (1, Value.int (nI u)), (2, Value.int (nI w))] := hl
  refine lv_aload_n hx hb dX5_mayJoin_0 rfl (lv_at hl 0 rfl) ?_
  refine va_get (D := D) (ci := 5) (v := Value.ref (a 1)) (C := "ReaderRows") (T := TX5) (N := 6) hx hb ht inX5 hown hK hP 0 rfl rfl 0 (by decide) (ht _ m_138) (fun _ h9 => h9) rfl dX5_mayJoin_1 ?_
  refine lv_iload_n hx hb dX5_mayJoin_4 rfl (lv_at hl 2 rfl) ?_
  refine r_callR (r := Value.int (nI (av S 2 w))) (As := [Value.int (nI w)]) (rest := []) ⟨hx, hb, hml, hown, ht⟩ (c_rd_guardianOf l D g a S hB w (by omega)) (cwV 1 ht (gdV m_172 m_173 m_174 m_2 m_175) rfl rfl rfl (by decide +kernel) ⟨Nat.le_of_ble_eq_true rfl, Nat.le_of_ble_eq_true rfl⟩) (va_recv hK hP (ci := 3) (q0 := 1) rfl rfl) hP hK rfl hl.1 rfl (Nat.le_of_ble_eq_true rfl) dX5_mayJoin_5 ⟨Nat.zero_le _, Nat.zero_le _⟩ ?_
  have b_guardianOf17 : av S 2 w ≤ 60 := hB.2 2 _
  refine lv_istore_n (lv' := [(3, Value.int (nI (av S 2 w))), (0, Value.ref (a 0)), (1, Value.int (nI u)), (2, Value.int (nI w))]) hx hb dX5_mayJoin_8 rfl hl (by decide) rfl (fun ls hl => ?_)
  refine lv_iload_n hx hb dX5_mayJoin_9 rfl (lv_at hl 0 rfl) ?_
  refine r_if_eq_n (tgt := 30) hx hb dX5_mayJoin_10 (by decide) (by omega) (fun c10 => ?_) (fun c10 => ?_)
  · refine lv_iconst (v := (nI 1)) hx hb dX5_mayJoin_30 (by decide) ?_
    refine lv_goto (tgt := 35) hx hb dX5_mayJoin_31 (by decide) ?_
    have hv9 : (nI 1) = (nI (bN (mjP S u w))) := by first | exact r_one (Or.inl c10) | exact r_one (Or.inr ⟨c15, c27⟩) | exact r_zero (fun q => q.elim c10 (fun q => q.1 c15)) | exact r_zero (fun q => q.elim c10 (fun q => c27 q.2))
    have hn9 : narrow .boolean (Value.int (nI 1)) = Value.int (nI 1) := by exact r_nz (by omega)
    exact W.zret (v := (nI 1)) (ty := .boolean) hx hb hr hn9 (fun t ht hW => ⟨congrArg (fun z => Outcome.returned (some (Value.int z))) hv9, ht⟩) (fun _ h => by cases h) dX5_mayJoin_35
  · refine lv_iload_n hx hb dX5_mayJoin_13 rfl (lv_at hl 0 rfl) ?_
    refine lv_iload_n hx hb dX5_mayJoin_14 rfl (lv_at hl 2 rfl) ?_
    refine r_icmp_eq (tgt := 34) hx hb dX5_mayJoin_15 (by decide) (by omega) (by omega) (fun c15 => ?_) (fun c15 => ?_)
    · refine lv_iconst (v := (nI 0)) hx hb dX5_mayJoin_34 (by decide) ?_
      have hv9 : (nI 0) = (nI (bN (mjP S u w))) := by first | exact r_one (Or.inl c10) | exact r_one (Or.inr ⟨c15, c27⟩) | exact r_zero (fun q => q.elim c10 (fun q => q.1 c15)) | exact r_zero (fun q => q.elim c10 (fun q => c27 q.2))
      have hn9 : narrow .boolean (Value.int (nI 0)) = Value.int (nI 0) := by exact r_nz (by omega)
      exact W.zret (v := (nI 0)) (ty := .boolean) hx hb hr hn9 (fun t ht hW => ⟨congrArg (fun z => Outcome.returned (some (Value.int z))) hv9, ht⟩) (fun _ h => by cases h) dX5_mayJoin_35
    · refine lv_aload_n hx hb dX5_mayJoin_18 rfl (lv_at hl 1 rfl) ?_
      refine va_get (D := D) (ci := 5) (v := Value.ref (a 1)) (C := "ReaderRows") (T := TX5) (N := 6) hx hb ht inX5 hown hK hP 0 rfl rfl 0 (by decide) (ht _ m_138) (fun _ h9 => h9) rfl dX5_mayJoin_19 ?_
      refine lv_iload_n hx hb dX5_mayJoin_22 rfl (lv_at hl 2 rfl) ?_
      refine lv_iconst (v := (nI 1)) hx hb dX5_mayJoin_23 (by decide) ?_
      refine r_callR (r := Value.int (nI (wd S u (nI 1)))) (As := [Value.int (nI u), Value.int (nI 1)]) (rest := []) ⟨hx, hb, hml, hown, ht⟩ (c_rd_wardOf l D g a S hB u (by omega) (nI 1)) (cwV 2 ht (gdV m_322 m_323 m_324 m_2 m_325) rfl rfl rfl (by decide +kernel) ⟨Nat.le_of_ble_eq_true rfl, Nat.le_of_ble_eq_true rfl⟩) (va_recv hK hP (ci := 3) (q0 := 1) rfl rfl) hP hK rfl hl.1 rfl (Nat.le_of_ble_eq_true rfl) dX5_mayJoin_24 ⟨Nat.zero_le _, Nat.zero_le _⟩ ?_
      have b_wd38 : wd S u (nI 1) ≤ 60 := wd_le hB _ _
      refine r_if_ne_n (tgt := 34) hx hb dX5_mayJoin_27 (by decide) (by omega) (fun c27 => ?_) (fun c27 => ?_)
      · refine lv_iconst (v := (nI 0)) hx hb dX5_mayJoin_34 (by decide) ?_
        have hv9 : (nI 0) = (nI (bN (mjP S u w))) := by first | exact r_one (Or.inl c10) | exact r_one (Or.inr ⟨c15, c27⟩) | exact r_zero (fun q => q.elim c10 (fun q => q.1 c15)) | exact r_zero (fun q => q.elim c10 (fun q => c27 q.2))
        have hn9 : narrow .boolean (Value.int (nI 0)) = Value.int (nI 0) := by exact r_nz (by omega)
        exact W.zret (v := (nI 0)) (ty := .boolean) hx hb hr hn9 (fun t ht hW => ⟨congrArg (fun z => Outcome.returned (some (Value.int z))) hv9, ht⟩) (fun _ h => by cases h) dX5_mayJoin_35
      · refine lv_iconst (v := (nI 1)) hx hb dX5_mayJoin_30 (by decide) ?_
        refine lv_goto (tgt := 35) hx hb dX5_mayJoin_31 (by decide) ?_
        have hv9 : (nI 1) = (nI (bN (mjP S u w))) := by first | exact r_one (Or.inl c10) | exact r_one (Or.inr ⟨c15, c27⟩) | exact r_zero (fun q => q.elim c10 (fun q => q.1 c15)) | exact r_zero (fun q => q.elim c10 (fun q => c27 q.2))
        have hn9 : narrow .boolean (Value.int (nI 1)) = Value.int (nI 1) := by exact r_nz (by omega)
        exact W.zret (v := (nI 1)) (ty := .boolean) hx hb hr hn9 (fun t ht hW => ⟨congrArg (fun z => Outcome.returned (some (Value.int z))) hv9, ht⟩) (fun _ h => by cases h) dX5_mayJoin_35

set_option maxRecDepth 100000 in
set_option maxHeartbeats 4000000 in
theorem c_rr_firstNamed (l : Launch) (D : va_G) (g : Nat → ClassId) (a : Nat → Nat)  (S : St) (hB : cbd S)  : Met l yX5_firstNamed wsX5_firstNamed ({ frames := 2, cells := 0, slots := 0, locals := 46 } : Room) (va_Pc [Value.ref (a 0)] (wPre D vwCl (clW g a S) (clT g))) (k2_QcV (Value.int (nI (fnN S)))) 0 0 (fun _ => False) := by
  refine Met.ofW (cc := cX5_firstNamed) (maxL := 2) (ret := (some .int)) (by decide) rfl ?_
  intro p e s m args below meth c s₁ B hml hv
  obtain ⟨rfl, hP, hK⟩ := hv
  have hx := B.exec
  have hb := B.bytes
  have hr := B.returns
  have hts := atoms_spec (ws := wsX5_firstNamed) B.pre
  have ht := fun (w : Cond) (h : w ∈ lw_g) => hts w (List.mem_cons_of_mem _ h)
  have hown : s.vm.findClass "ReaderRows" = some m.cls := findClass_of_methodNamed B.named
  have hlocks := B.notSynchronized
  have hl := lv_entry ([Value.ref (a 0)]) (n := 2) (Nat.le_of_ble_eq_true rfl)
  rw [lg_entry_eq]
  generalize (lg_sl ([Value.ref (a 0)]) ++ List.replicate (2 - (lg_sl ([Value.ref (a 0)])).length) Slot.unset).toArray = ls at hl ⊢
  have hl : lv_has ls 2 [(0, Value.ref (a 0))] := hl
  refine lv_iconst (v := (nI 1)) hx hb dX5_firstNamed_0 (by decide) ?_
  refine lv_istore_n (lv' := [(1, Value.int (nI 1)), (0, Value.ref (a 0))]) hx hb dX5_firstNamed_1 rfl hl (by decide) rfl (fun ls hl => ?_)
  have lp2 : ∀ (f2 : Nat) (n : Nat), 1 ≤ n → n ≤ nv S 0 + 1 → fnF S f2 n = fnN S → nv S 0 + 2 ≤ n + f2 → ∀ (ls : Array Slot), lv_has ls 2 [(1, Value.int (nI n)), (0, Value.ref (a 0))] → W p l e (headSpec wsX5_firstNamed ({ frames := 2, cells := 0, slots := 0, locals := 46 } : Room)).room s m ([Value.ref (a 0)] : List Value).toArray below meth c s.heap [] 0 0 (MQ below (k2_QcV (Value.int (nI (fnN S)))) ([Value.ref (a 0)] : List Value).toArray s 0 0 (fun _ => False)) (F0 m 2 ls []) := by
    intro f2
    induction f2 with
    | zero =>
      intro n hn1 hn2 hv hfu
      exact absurd hfu (by omega)
    | succ f2 ih2 =>
      intro n hn1 hn2 hv hfu ls hl
      have b_N0 : nv S 0 ≤ 60 := hB.1 0
      refine lv_iload_n hx hb dX5_firstNamed_2 rfl (lv_at hl 0 rfl) ?_
      refine lv_aload_n hx hb dX5_firstNamed_3 rfl (lv_at hl 1 rfl) ?_
      refine va_get (D := D) (ci := 5) (v := Value.ref (a 1)) (C := "ReaderRows") (T := TX5) (N := 6) hx hb ht inX5 hown hK hP 0 rfl rfl 0 (by decide) (ht _ m_138) (fun _ h9 => h9) rfl dX5_firstNamed_4 ?_
      refine r_callR (r := Value.int (nI (nv S 0))) (As := []) (rest := [Value.int (nI n)]) ⟨hx, hb, hml, hown, ht⟩ (c_rd_count l D g a S hB ) (cwV 0 ht (gdV m_385 m_386 m_387 m_2 m_388) rfl rfl rfl (by decide +kernel) ⟨Nat.le_of_ble_eq_true rfl, Nat.le_of_ble_eq_true rfl⟩) (va_recv hK hP (ci := 3) (q0 := 1) rfl rfl) hP hK rfl hl.1 rfl (Nat.le_of_ble_eq_true rfl) dX5_firstNamed_7 ⟨Nat.zero_le _, Nat.zero_le _⟩ ?_
      have b_rc : nv S 0 ≤ 60 := hB.1 0
      refine r_icmp_gt (tgt := 47) hx hb dX5_firstNamed_10 (by decide) (by omega) (by omega) (fun c10 => ?_) (fun c10 => ?_)
      · refine lv_iconst (v := (nI 0)) hx hb dX5_firstNamed_47 (by decide) ?_
        have hv9 : (nI 0) = (nI (fnN S)) := by rw [← hv]; simp only [fnF, if_pos c10]
        exact W.iret (v := (nI 0)) hx hb hr (fun t ht hW => ⟨congrArg (fun z => Outcome.returned (some (Value.int z))) hv9, ht⟩) (fun _ h => by cases h) dX5_firstNamed_48
      · refine lv_aload_n hx hb dX5_firstNamed_13 rfl (lv_at hl 1 rfl) ?_
        refine va_get (D := D) (ci := 5) (v := Value.ref (a 1)) (C := "ReaderRows") (T := TX5) (N := 6) hx hb ht inX5 hown hK hP 0 rfl rfl 0 (by decide) (ht _ m_138) (fun _ h9 => h9) rfl dX5_firstNamed_14 ?_
        refine lv_iload_n hx hb dX5_firstNamed_17 rfl (lv_at hl 0 rfl) ?_
        refine r_callR (r := Value.int (nI (bN (¬ av S 0 n = n)))) (As := [Value.int (nI n)]) (rest := []) ⟨hx, hb, hml, hown, ht⟩ (c_rd_isJoined l D g a S hB n (by omega)) (cwV 1 ht (gdV m_389 m_390 m_391 m_2 m_392) rfl rfl rfl (by decide +kernel) ⟨Nat.le_of_ble_eq_true rfl, Nat.le_of_ble_eq_true rfl⟩) (va_recv hK hP (ci := 3) (q0 := 1) rfl rfl) hP hK rfl hl.1 rfl (Nat.le_of_ble_eq_true rfl) dX5_firstNamed_18 ⟨Nat.zero_le _, Nat.zero_le _⟩ ?_
        refine r_if_ne_b (tgt := 41) hx hb dX5_firstNamed_21 (by decide) (fun c21 => ?_) (fun c21 => ?_)
        · refine lv_iinc (v := (nI (n + 1))) (lv' := [(1, Value.int (nI (n + 1))), (0, Value.ref (a 0))]) hx hb dX5_firstNamed_41 hl (k := 0) rfl (r_inc1 _) (by decide) rfl (fun ls hl => ?_)
          refine lv_goto (tgt := 2) hx hb dX5_firstNamed_44 (by decide) ?_
          exact ih2 (n + 1) (by omega) (by omega) (by (simp only [fnF, if_neg c10, if_pos c21] at hv; exact hv)) (by omega)  ls (lv_sub hl [0, 1] rfl)
        · refine lv_aload_n hx hb dX5_firstNamed_24 rfl (lv_at hl 1 rfl) ?_
          refine va_get (D := D) (ci := 5) (v := Value.ref (a 2)) (C := "ReaderRows") (T := TX5) (N := 6) hx hb ht inX5 hown hK hP 0 rfl rfl 1 (by decide) (ht _ m_139) (fun _ h9 => h9) rfl dX5_firstNamed_25 ?_
          refine lv_iload_n hx hb dX5_firstNamed_28 rfl (lv_at hl 0 rfl) ?_
          refine lv_aload_n hx hb dX5_firstNamed_29 rfl (lv_at hl 1 rfl) ?_
          refine va_get (D := D) (ci := 5) (v := Value.ref (a 5)) (C := "ReaderRows") (T := TX5) (N := 6) hx hb ht inX5 hown hK hP 0 rfl rfl 4 (by decide) (ht _ m_142) (fun _ h9 => h9) rfl dX5_firstNamed_30 ?_
          refine r_callR (r := Value.int (nI (sm S n))) (As := [Value.int (nI n), Value.ref (a 5)]) (rest := []) ⟨hx, hb, hml, hown, ht⟩ (c_na_isSame l D g a S hB n (by omega)) (cwV 2 ht (gdV m_393 m_394 m_395 m_3 m_396) rfl rfl rfl (by decide +kernel) ⟨Nat.le_of_ble_eq_true rfl, Nat.le_of_ble_eq_true rfl⟩) (va_recv hK hP (ci := 2) (q0 := 2) rfl rfl) hP hK rfl hl.1 rfl (Nat.le_of_ble_eq_true rfl) dX5_firstNamed_33 ⟨Nat.zero_le _, Nat.zero_le _⟩ ?_
          have b_sm : sm S n ≤ 1 := sm_le _ _
          refine r_if_eq_n (tgt := 41) hx hb dX5_firstNamed_36 (by decide) (by omega) (fun c36 => ?_) (fun c36 => ?_)
          · refine lv_iinc (v := (nI (n + 1))) (lv' := [(1, Value.int (nI (n + 1))), (0, Value.ref (a 0))]) hx hb dX5_firstNamed_41 hl (k := 0) rfl (r_inc1 _) (by decide) rfl (fun ls hl => ?_)
            refine lv_goto (tgt := 2) hx hb dX5_firstNamed_44 (by decide) ?_
            exact ih2 (n + 1) (by omega) (by omega) (by (simp only [fnF, if_neg c10, if_neg c21, if_pos c36] at hv; exact hv)) (by omega)  ls (lv_sub hl [0, 1] rfl)
          · refine lv_iload_n hx hb dX5_firstNamed_39 rfl (lv_at hl 0 rfl) ?_
            have hv9 : (nI n) = (nI (fnN S)) := by rw [← hv]; simp only [fnF, if_neg c10, if_neg c21, if_neg c36]
            exact W.iret (v := (nI n)) hx hb hr (fun t ht hW => ⟨congrArg (fun z => Outcome.returned (some (Value.int z))) hv9, ht⟩) (fun _ h => by cases h) dX5_firstNamed_40
  exact lp2 (nv S 0 + 1) 1 (by omega) (by omega) (by rfl) (by omega)  ls (lv_sub hl [0, 1] rfl)

set_option maxRecDepth 100000 in
set_option maxHeartbeats 4000000 in
theorem c_rr_importFittingRow (l : Launch) (D : va_G) (g : Nat → ClassId) (a : Nat → Nat) (hD : ∀ S : St, va_D (cA a) (clW g a S))  (S : St) (hB : cbd S) (hn4 : nv S 4 ≤ nv S 3) : Met l yX5_importFittingRow wsX5_importFittingRow ({ frames := 3, cells := 0, slots := 0, locals := 67 } : Room) (va_Pc [Value.ref (a 0)] (wPre D vwCl (clW g a S) (clT g))) (wQ (some (Value.int (ifV S))) D vwCl (clW g a (ifS S)) (cA a) (cbd (ifS S))) 0 0 (cA a) := by
  refine Met.ofW (cc := cX5_importFittingRow) (maxL := 3) (ret := (some .int)) (by decide) rfl ?_
  intro p e s m args below meth c s₁ B hml hv
  obtain ⟨rfl, hP, hK⟩ := hv
  have hx := B.exec
  have hb := B.bytes
  have hr := B.returns
  have hts := atoms_spec (ws := wsX5_importFittingRow) B.pre
  have ht := fun (w : Cond) (h : w ∈ lw_g) => hts w (List.mem_cons_of_mem _ h)
  have hown : s.vm.findClass "ReaderRows" = some m.cls := findClass_of_methodNamed B.named
  have hlocks := B.notSynchronized
  have hS : va_S (cA a) s.heap s.heap [] := va_S.rf
  have hl := lv_entry ([Value.ref (a 0)]) (n := 3) (Nat.le_of_ble_eq_true rfl)
  rw [lg_entry_eq]
  generalize (lg_sl ([Value.ref (a 0)]) ++ List.replicate (3 - (lg_sl ([Value.ref (a 0)])).length) Slot.unset).toArray = ls at hl ⊢
  have hl : lv_has ls 3 [(0, Value.ref (a 0))] := hl
  refine lv_aload_n hx hb dX5_importFittingRow_0 rfl (lv_at hl 0 rfl) ?_
  refine r_callR (r := Value.int (nI (fnN S))) (As := []) (rest := []) ⟨hx, hb, hml, hown, ht⟩ (c_rr_firstNamed l D g a S hB ) (cwV 0 ht (gdV m_381 m_383 ms_10 m_1 m_384) rfl rfl rfl (by decide +kernel) ⟨Nat.le_of_ble_eq_true rfl, Nat.le_of_ble_eq_true rfl⟩) (va_recv hK hP (ci := 5) (q0 := 0) rfl rfl) hP hK rfl hl.1 rfl (Nat.le_of_ble_eq_true rfl) dX5_importFittingRow_1 ⟨Nat.zero_le _, Nat.zero_le _⟩ ?_
  have b_fn : fnN S ≤ 60 := fnN_le hB
  refine lv_istore_n (lv' := [(1, Value.int (nI (fnN S))), (0, Value.ref (a 0))]) hx hb dX5_importFittingRow_4 rfl hl (by decide) rfl (fun ls hl => ?_)
  refine lv_iload_n hx hb dX5_importFittingRow_5 rfl (lv_at hl 0 rfl) ?_
  refine r_if_eq_n (tgt := 12) hx hb dX5_importFittingRow_6 (by decide) (by omega) (fun c6 => ?_) (fun c6 => ?_)
  · refine lv_aload_n hx hb dX5_importFittingRow_12 rfl (lv_at hl 1 rfl) ?_
    refine va_get (D := D) (ci := 5) (v := Value.ref (a 1)) (C := "ReaderRows") (T := TX5) (N := 6) hx hb ht inX5 hown hK hP 0 rfl rfl 0 (by decide) (ht _ m_138) (fun _ h9 => h9) rfl dX5_importFittingRow_13 ?_
    refine lv_aload_n hx hb dX5_importFittingRow_16 rfl (lv_at hl 1 rfl) ?_
    refine va_get (D := D) (ci := 5) (v := Value.ref (a 5)) (C := "ReaderRows") (T := TX5) (N := 6) hx hb ht inX5 hown hK hP 0 rfl rfl 4 (by decide) (ht _ m_142) (fun _ h9 => h9) rfl dX5_importFittingRow_17 ?_
    refine r_callR (r := Value.int (nI (nv S 5))) (As := []) (rest := [Value.ref (a 1)]) ⟨hx, hb, hml, hown, ht⟩ (c_ro_kind l D g a S hB ) (cwV 0 ht (gdV m_410 m_411 m_412 m_6 m_413) rfl rfl rfl (by decide +kernel) ⟨Nat.le_of_ble_eq_true rfl, Nat.le_of_ble_eq_true rfl⟩) (va_recv hK hP (ci := 4) (q0 := 5) rfl rfl) hP hK rfl hl.1 rfl (Nat.le_of_ble_eq_true rfl) dX5_importFittingRow_20 ⟨Nat.zero_le _, Nat.zero_le _⟩ ?_
    have b_n5 : nv S 5 ≤ 4 := hB.1 5
    refine lv_iconst (v := (nI 0)) hx hb dX5_importFittingRow_23 (by decide) ?_
    refine r_callW (st' := [Value.int (nI (raV S))]) (As := [Value.int (nI (nv S 5)), Value.int (nI 0)]) (rest := []) ⟨hx, hb, hml, hown, ht⟩ (c_rd_add l D g a hD S hB (nv S 5) 0 (by omega) (by omega)) (cwV 2 ht (gdV m_164 m_165 m_166 m_2 m_167) rfl rfl rfl (by decide +kernel) ⟨Nat.le_of_ble_eq_true rfl, Nat.le_of_ble_eq_true rfl⟩) (va_recv hK hP (ci := 3) (q0 := 1) rfl rfl) hP hK rfl hS rfl hl.1 rfl (Nat.le_of_ble_eq_true rfl) dX5_importFittingRow_24 ⟨Nat.zero_le _, Nat.zero_le _⟩ (fun H locs hP hS hB => ?_)
    have b_ra : raV S ≤ 60 := raV_le _
    refine lv_istore_n (lv' := [(2, Value.int (nI (raV S))), (1, Value.int (nI (fnN S))), (0, Value.ref (a 0))]) hx hb dX5_importFittingRow_27 rfl hl (by decide) rfl (fun ls hl => ?_)
    refine lv_iload_n hx hb dX5_importFittingRow_28 rfl (lv_at hl 0 rfl) ?_
    refine r_if_eq_n (tgt := 44) hx hb dX5_importFittingRow_29 (by decide) (by omega) (fun c29 => ?_) (fun c29 => ?_)
    · refine lv_iload_n hx hb dX5_importFittingRow_44 rfl (lv_at hl 0 rfl) ?_
      have hv9 : (nI (raV S)) = (ifV S) := by first | (simp only [ifV, ifS, if_pos c6, if_pos c29]; done) | (with_reducible rfl) | (simp only [ifV, ifS, if_pos c6, if_pos c29]; rfl) | rfl | (simp [ifV, ifS, c6, c29]; done)
      have hs9 : (raS S (nv S 5) 0) = (ifS S) := by first | (simp only [ifV, ifS, if_pos c6, if_pos c29]; done) | (with_reducible rfl) | (simp only [ifV, ifS, if_pos c6, if_pos c29]; rfl) | rfl | (simp [ifV, ifS, c6, c29]; done)
      exact W.iret (v := (nI (raV S))) hx hb hr (fun t ht hW => ⟨congrArg (fun z => Outcome.returned (some (Value.int z))) hv9, by rw [ht, ← hs9]; exact hP, hS.F ht, by rw [← hs9]; exact hB⟩) hS.2.2 dX5_importFittingRow_45
    · have hq3 : nv (raS S (nv S 5) 0) 4 ≤ nv (raS S (nv S 5) 0) 3 := (by rw [raS_nv _ _ _ (by decide), raS_nv _ _ _ (by decide)]; exact hn4)
      refine lv_aload_n hx hb dX5_importFittingRow_32 rfl (lv_at hl 2 rfl) ?_
      refine va_get (D := D) (ci := 5) (v := Value.ref (a 2)) (C := "ReaderRows") (T := TX5) (N := 6) hx hb ht inX5 hown hK hP 0 rfl rfl 1 (by decide) (ht _ m_139) (fun _ h9 => h9) rfl dX5_importFittingRow_33 ?_
      refine lv_iload_n hx hb dX5_importFittingRow_36 rfl (lv_at hl 0 rfl) ?_
      refine lv_aload_n hx hb dX5_importFittingRow_37 rfl (lv_at hl 2 rfl) ?_
      refine va_get (D := D) (ci := 5) (v := Value.ref (a 5)) (C := "ReaderRows") (T := TX5) (N := 6) hx hb ht inX5 hown hK hP 0 rfl rfl 4 (by decide) (ht _ m_142) (fun _ h9 => h9) rfl dX5_importFittingRow_38 ?_
      refine r_callW (st' := []) (As := [Value.int (nI (raV S)), Value.ref (a 5)]) (rest := []) ⟨hx, hb, hml, hown, ht⟩ (c_na_put l D g a hD (raS S (nv S 5) 0) hB (raV S) (by omega) (by omega)) (cwV 2 ht (gdV m_414 m_415 m_416 m_3 m_417) rfl rfl rfl (by decide +kernel) ⟨Nat.le_of_ble_eq_true rfl, Nat.le_of_ble_eq_true rfl⟩) (va_recv hK hP (ci := 2) (q0 := 2) rfl rfl) hP hK rfl hS rfl hl.1 rfl (Nat.le_of_ble_eq_true rfl) dX5_importFittingRow_41 ⟨Nat.zero_le _, Nat.zero_le _⟩ (fun H locs hP hS hB => ?_)
      refine lv_iload_n hx hb dX5_importFittingRow_44 rfl (lv_at hl 0 rfl) ?_
      have hv9 : (nI (raV S)) = (ifV S) := by first | (simp only [ifV, ifS, if_pos c6, if_neg c29]; done) | (with_reducible rfl) | (simp only [ifV, ifS, if_pos c6, if_neg c29]; rfl) | rfl | (simp [ifV, ifS, c6, c29]; done)
      have hs9 : (ptS (raS S (nv S 5) 0) (raV S)) = (ifS S) := by first | (simp only [ifV, ifS, if_pos c6, if_neg c29]; done) | (with_reducible rfl) | (simp only [ifV, ifS, if_pos c6, if_neg c29]; rfl) | rfl | (simp [ifV, ifS, c6, c29]; done)
      exact W.iret (v := (nI (raV S))) hx hb hr (fun t ht hW => ⟨congrArg (fun z => Outcome.returned (some (Value.int z))) hv9, by rw [ht, ← hs9]; exact hP, hS.F ht, by rw [← hs9]; exact hB⟩) hS.2.2 dX5_importFittingRow_45
  · refine lv_iload_n hx hb dX5_importFittingRow_9 rfl (lv_at hl 0 rfl) ?_
    refine lv_ineg hx hb dX5_importFittingRow_10 ?_
    have hv9 : (-(nI (fnN S))) = (ifV S) := by first | (simp only [ifV, ifS, if_neg c6]; done) | (with_reducible rfl) | (simp only [ifV, ifS, if_neg c6]; rfl) | rfl | (simp [ifV, ifS, c6]; done)
    have hs9 : S = (ifS S) := by first | (simp only [ifV, ifS, if_neg c6]; done) | (with_reducible rfl) | (simp only [ifV, ifS, if_neg c6]; rfl) | rfl | (simp [ifV, ifS, c6]; done)
    exact W.iret (v := (-(nI (fnN S)))) hx hb hr (fun t ht hW => ⟨congrArg (fun z => Outcome.returned (some (Value.int z))) hv9, by rw [ht, ← hs9]; exact hP, hS.F ht, by rw [← hs9]; exact hB⟩) hS.2.2 dX5_importFittingRow_11

set_option maxRecDepth 100000 in
set_option maxHeartbeats 4000000 in
theorem c_rr_nearestNamed (l : Launch) (D : va_G) (g : Nat → ClassId) (a : Nat → Nat) (hD : ∀ S : St, va_D (cA a) (clW g a S))  (S : St) (hB : cbd S)  : Met l yX5_nearestNamed wsX5_nearestNamed ({ frames := 2, cells := 0, slots := 0, locals := 59 } : Room) (va_Pc [Value.ref (a 0)] (wPre D vwCl (clW g a S) (clT g))) (wQ (some (Value.int (nI ((nnP S).1)))) D vwCl (clW g a ((nnP S).2)) (cA a) (cbd ((nnP S).2))) 0 0 (cA a) := by
  refine Met.ofW (cc := cX5_nearestNamed) (maxL := 5) (ret := (some .int)) (by decide) rfl ?_
  intro p e s m args below meth c s₁ B hml hv
  obtain ⟨rfl, hP, hK⟩ := hv
  have hx := B.exec
  have hb := B.bytes
  have hr := B.returns
  have hts := atoms_spec (ws := wsX5_nearestNamed) B.pre
  have ht := fun (w : Cond) (h : w ∈ lw_g) => hts w (List.mem_cons_of_mem _ h)
  have hown : s.vm.findClass "ReaderRows" = some m.cls := findClass_of_methodNamed B.named
  have hlocks := B.notSynchronized
  have hS : va_S (cA a) s.heap s.heap [] := va_S.rf
  have hl := lv_entry ([Value.ref (a 0)]) (n := 5) (Nat.le_of_ble_eq_true rfl)
  rw [lg_entry_eq]
  generalize (lg_sl ([Value.ref (a 0)]) ++ List.replicate (5 - (lg_sl ([Value.ref (a 0)])).length) Slot.unset).toArray = ls at hl ⊢
  have hl : lv_has ls 5 [(0, Value.ref (a 0))] := hl
  refine lv_iconst (v := (nI 0)) hx hb dX5_nearestNamed_0 (by decide) ?_
  refine lv_istore_n (lv' := [(1, Value.int (nI 0)), (0, Value.ref (a 0))]) hx hb dX5_nearestNamed_1 rfl hl (by decide) rfl (fun ls hl => ?_)
  refine lv_iconst (v := (nI 4)) hx hb dX5_nearestNamed_2 (by decide) ?_
  refine lv_istore_n (lv' := [(2, Value.int (nI 4)), (1, Value.int (nI 0)), (0, Value.ref (a 0))]) hx hb dX5_nearestNamed_3 rfl hl (by decide) rfl (fun ls hl => ?_)
  refine lv_iconst (v := (nI 1)) hx hb dX5_nearestNamed_4 (by decide) ?_
  refine lv_istore_n (lv' := [(3, Value.int (nI 1)), (2, Value.int (nI 4)), (1, Value.int (nI 0)), (0, Value.ref (a 0))]) hx hb dX5_nearestNamed_5 rfl hl (by decide) rfl (fun ls hl => ?_)
  have lp6 : ∀ (f6 : Nat) (S1 : St) (be : Nat) (le : Nat) (n : Nat), nv S1 0 = nv S 0 → 1 ≤ n → n ≤ nv S 0 + 1 → le ≤ 24 → nnF f6 n be le S1 = nnP S → nv S 0 + 2 ≤ n + f6 → cbd S1 → ∀ (H : Heap) (locs : List Loc), va_P D vwCl (clW g a S1) H → va_S (cA a) s.heap H locs → ∀ (ls : Array Slot), lv_has ls 5 [(3, Value.int (nI n)), (2, Value.int (nI le)), (1, Value.int (nI be)), (0, Value.ref (a 0))] → W p l e (headSpec wsX5_nearestNamed ({ frames := 2, cells := 0, slots := 0, locals := 59 } : Room)).room s m ([Value.ref (a 0)] : List Value).toArray below meth c H locs 0 0 (MQ below (wQ (some (Value.int (nI ((nnP S).1)))) D vwCl (clW g a ((nnP S).2)) (cA a) (cbd ((nnP S).2))) ([Value.ref (a 0)] : List Value).toArray s 0 0 (cA a)) (F0 m 6 ls []) := by
    intro f6
    induction f6 with
    | zero =>
      intro S1 be le n hc hn1 hn2 hle hv hfu
      exact absurd hfu (by omega)
    | succ f6 ih6 =>
      intro S1 be le n hc hn1 hn2 hle hv hfu hB H locs hP hS ls hl
      refine lv_iload_n hx hb dX5_nearestNamed_6 rfl (lv_at hl 0 rfl) ?_
      refine lv_aload_n hx hb dX5_nearestNamed_7 rfl (lv_at hl 3 rfl) ?_
      refine va_get (D := D) (ci := 5) (v := Value.ref (a 1)) (C := "ReaderRows") (T := TX5) (N := 6) hx hb ht inX5 hown hK hP 0 rfl rfl 0 (by decide) (ht _ m_138) (fun _ h9 => h9) rfl dX5_nearestNamed_8 ?_
      refine r_callR (r := Value.int (nI (nv S1 0))) (As := []) (rest := [Value.int (nI n)]) ⟨hx, hb, hml, hown, ht⟩ (c_rd_count l D g a S1 hB ) (cwV 0 ht (gdV m_385 m_386 m_387 m_2 m_388) rfl rfl rfl (by decide +kernel) ⟨Nat.le_of_ble_eq_true rfl, Nat.le_of_ble_eq_true rfl⟩) (va_recv hK hP (ci := 3) (q0 := 1) rfl rfl) hP hK rfl hl.1 rfl (Nat.le_of_ble_eq_true rfl) dX5_nearestNamed_11 ⟨Nat.zero_le _, Nat.zero_le _⟩ ?_
      have b_rc : nv S1 0 ≤ 60 := hB.1 0
      refine r_icmp_gt (tgt := 70) hx hb dX5_nearestNamed_14 (by decide) (by omega) (by omega) (fun c14 => ?_) (fun c14 => ?_)
      · refine lv_iload_n hx hb dX5_nearestNamed_70 rfl (lv_at hl 2 rfl) ?_
        have hv9 : (nI be) = (nI ((nnP S).1)) := by rw [← hv]; simp only [nnF, if_pos c14]
        have hs9 : S1 = ((nnP S).2) := by rw [← hv]; simp only [nnF, if_pos c14]
        exact W.iret (v := (nI be)) hx hb hr (fun t ht hW => ⟨congrArg (fun z => Outcome.returned (some (Value.int z))) hv9, by rw [ht, ← hs9]; exact hP, hS.F ht, by rw [← hs9]; exact hB⟩) hS.2.2 dX5_nearestNamed_71
      · refine lv_aload_n hx hb dX5_nearestNamed_17 rfl (lv_at hl 3 rfl) ?_
        refine va_get (D := D) (ci := 5) (v := Value.ref (a 1)) (C := "ReaderRows") (T := TX5) (N := 6) hx hb ht inX5 hown hK hP 0 rfl rfl 0 (by decide) (ht _ m_138) (fun _ h9 => h9) rfl dX5_nearestNamed_18 ?_
        refine lv_iload_n hx hb dX5_nearestNamed_21 rfl (lv_at hl 0 rfl) ?_
        refine r_callR (r := Value.int (nI (bN (¬ av S1 0 n = n)))) (As := [Value.int (nI n)]) (rest := []) ⟨hx, hb, hml, hown, ht⟩ (c_rd_isJoined l D g a S1 hB n (by omega)) (cwV 1 ht (gdV m_389 m_390 m_391 m_2 m_392) rfl rfl rfl (by decide +kernel) ⟨Nat.le_of_ble_eq_true rfl, Nat.le_of_ble_eq_true rfl⟩) (va_recv hK hP (ci := 3) (q0 := 1) rfl rfl) hP hK rfl hl.1 rfl (Nat.le_of_ble_eq_true rfl) dX5_nearestNamed_22 ⟨Nat.zero_le _, Nat.zero_le _⟩ ?_
        refine r_if_ne_b (tgt := 64) hx hb dX5_nearestNamed_25 (by decide) (fun c25 => ?_) (fun c25 => ?_)
        · refine lv_iinc (v := (nI (n + 1))) (lv' := [(3, Value.int (nI (n + 1))), (2, Value.int (nI le)), (1, Value.int (nI be)), (0, Value.ref (a 0))]) hx hb dX5_nearestNamed_64 hl (k := 0) rfl (r_inc1 _) (by decide) rfl (fun ls hl => ?_)
          refine lv_goto (tgt := 6) hx hb dX5_nearestNamed_67 (by decide) ?_
          exact ih6 S1 be le (n + 1) (by first | exact hc | (rw [dsS_nv]; exact hc)) (by omega) (by omega) (by omega) (by (simp only [nnF, if_neg c14, if_pos c25] at hv; exact hv)) (by omega) hB _ _ hP hS ls (lv_sub hl [0, 1, 2, 3] rfl)
        · refine lv_aload_n hx hb dX5_nearestNamed_28 rfl (lv_at hl 3 rfl) ?_
          refine va_get (D := D) (ci := 5) (v := Value.ref (a 2)) (C := "ReaderRows") (T := TX5) (N := 6) hx hb ht inX5 hown hK hP 0 rfl rfl 1 (by decide) (ht _ m_139) (fun _ h9 => h9) rfl dX5_nearestNamed_29 ?_
          refine lv_iload_n hx hb dX5_nearestNamed_32 rfl (lv_at hl 0 rfl) ?_
          refine r_callR (r := Value.int (nI (bN (0 < av S1 5 n)))) (As := [Value.int (nI n)]) (rest := []) ⟨hx, hb, hml, hown, ht⟩ (c_na_has l D g a S1 hB n (by omega)) (cwV 1 ht (gdV m_434 m_435 m_436 m_3 m_437) rfl rfl rfl (by decide +kernel) ⟨Nat.le_of_ble_eq_true rfl, Nat.le_of_ble_eq_true rfl⟩) (va_recv hK hP (ci := 2) (q0 := 2) rfl rfl) hP hK rfl hl.1 rfl (Nat.le_of_ble_eq_true rfl) dX5_nearestNamed_33 ⟨Nat.zero_le _, Nat.zero_le _⟩ ?_
          refine r_if_eq_b (tgt := 64) hx hb dX5_nearestNamed_36 (by decide) (fun c36 => ?_) (fun c36 => ?_)
          · refine lv_iinc (v := (nI (n + 1))) (lv' := [(3, Value.int (nI (n + 1))), (2, Value.int (nI le)), (1, Value.int (nI be)), (0, Value.ref (a 0))]) hx hb dX5_nearestNamed_64 hl (k := 0) rfl (r_inc1 _) (by decide) rfl (fun ls hl => ?_)
            refine lv_goto (tgt := 6) hx hb dX5_nearestNamed_67 (by decide) ?_
            exact ih6 S1 be le (n + 1) (by first | exact hc | (rw [dsS_nv]; exact hc)) (by omega) (by omega) (by omega) (by (simp only [nnF, if_neg c14, if_neg c25, if_neg c36] at hv; exact hv)) (by omega) hB _ _ hP hS ls (lv_sub hl [0, 1, 2, 3] rfl)
          · refine lv_aload_n hx hb dX5_nearestNamed_39 rfl (lv_at hl 3 rfl) ?_
            refine va_get (D := D) (ci := 5) (v := Value.ref (a 2)) (C := "ReaderRows") (T := TX5) (N := 6) hx hb ht inX5 hown hK hP 0 rfl rfl 1 (by decide) (ht _ m_139) (fun _ h9 => h9) rfl dX5_nearestNamed_40 ?_
            refine lv_iload_n hx hb dX5_nearestNamed_43 rfl (lv_at hl 0 rfl) ?_
            refine lv_aload_n hx hb dX5_nearestNamed_44 rfl (lv_at hl 3 rfl) ?_
            refine va_get (D := D) (ci := 5) (v := Value.ref (a 5)) (C := "ReaderRows") (T := TX5) (N := 6) hx hb ht inX5 hown hK hP 0 rfl rfl 4 (by decide) (ht _ m_142) (fun _ h9 => h9) rfl dX5_nearestNamed_45 ?_
            refine r_callW (st' := [Value.int (nI (dsV S1 n))]) (As := [Value.int (nI n), Value.ref (a 5)]) (rest := []) ⟨hx, hb, hml, hown, ht⟩ (c_na_distance l D g a hD S1 hB n (by omega)) (cwV 2 ht (gdV m_438 m_439 m_440 m_3 m_441) rfl rfl rfl (by decide +kernel) ⟨Nat.le_of_ble_eq_true rfl, Nat.le_of_ble_eq_true rfl⟩) (va_recv hK hP (ci := 2) (q0 := 2) rfl rfl) hP hK rfl hS rfl hl.1 rfl (Nat.le_of_ble_eq_true rfl) dX5_nearestNamed_48 ⟨Nat.zero_le _, Nat.zero_le _⟩ (fun H locs hP hS hB => ?_)
            have b_ds : dsV S1 n ≤ 24 := hB.2 7 _
            refine lv_istore (lv' := [(4, Value.int (nI (dsV S1 n))), (3, Value.int (nI n)), (2, Value.int (nI le)), (1, Value.int (nI be)), (0, Value.ref (a 0))]) hx hb dX5_nearestNamed_51 hl (by decide) rfl (fun ls hl => ?_)
            refine lv_iload hx hb dX5_nearestNamed_53 (lv_at hl 0 rfl) ?_
            refine lv_iload_n hx hb dX5_nearestNamed_55 rfl (lv_at hl 2 rfl) ?_
            refine r_icmp_ge (tgt := 64) hx hb dX5_nearestNamed_56 (by decide) (by omega) (by omega) (fun c56 => ?_) (fun c56 => ?_)
            · refine lv_iinc (v := (nI (n + 1))) (lv' := [(3, Value.int (nI (n + 1))), (4, Value.int (nI (dsV S1 n))), (2, Value.int (nI le)), (1, Value.int (nI be)), (0, Value.ref (a 0))]) hx hb dX5_nearestNamed_64 hl (k := 1) rfl (r_inc1 _) (by decide) rfl (fun ls hl => ?_)
              refine lv_goto (tgt := 6) hx hb dX5_nearestNamed_67 (by decide) ?_
              exact ih6 (dsS S1 n) be le (n + 1) (by first | exact hc | (rw [dsS_nv]; exact hc)) (by omega) (by omega) (by omega) (by (simp only [nnF, if_neg c14, if_neg c25, if_pos c36, if_pos c56] at hv; exact hv)) (by omega) hB _ _ hP hS ls (lv_sub hl [0, 2, 3, 4] rfl)
            · refine lv_iload hx hb dX5_nearestNamed_59 (lv_at hl 0 rfl) ?_
              refine lv_istore_n (lv' := [(2, Value.int (nI (dsV S1 n))), (4, Value.int (nI (dsV S1 n))), (3, Value.int (nI n)), (1, Value.int (nI be)), (0, Value.ref (a 0))]) hx hb dX5_nearestNamed_61 rfl hl (by decide) rfl (fun ls hl => ?_)
              refine lv_iload_n hx hb dX5_nearestNamed_62 rfl (lv_at hl 2 rfl) ?_
              refine lv_istore_n (lv' := [(1, Value.int (nI n)), (2, Value.int (nI (dsV S1 n))), (4, Value.int (nI (dsV S1 n))), (3, Value.int (nI n)), (0, Value.ref (a 0))]) hx hb dX5_nearestNamed_63 rfl hl (by decide) rfl (fun ls hl => ?_)
              refine lv_iinc (v := (nI (n + 1))) (lv' := [(3, Value.int (nI (n + 1))), (1, Value.int (nI n)), (2, Value.int (nI (dsV S1 n))), (4, Value.int (nI (dsV S1 n))), (0, Value.ref (a 0))]) hx hb dX5_nearestNamed_64 hl (k := 3) rfl (r_inc1 _) (by decide) rfl (fun ls hl => ?_)
              refine lv_goto (tgt := 6) hx hb dX5_nearestNamed_67 (by decide) ?_
              exact ih6 (dsS S1 n) n (dsV S1 n) (n + 1) (by first | exact hc | (rw [dsS_nv]; exact hc)) (by omega) (by omega) (by omega) (by (simp only [nnF, if_neg c14, if_neg c25, if_pos c36, if_neg c56] at hv; exact hv)) (by omega) hB _ _ hP hS ls (lv_sub hl [0, 2, 1, 4] rfl)
  exact lp6 (nv S 0 + 1) S 0 4 1 (by rfl) (by omega) (by omega) (by omega) (by rfl) (by omega) hB _ _ hP hS ls (lv_sub hl [0, 1, 2, 3] rfl)

set_option maxRecDepth 100000 in
set_option maxHeartbeats 4000000 in
theorem c_rr_reader (l : Launch) (D : va_G) (g : Nat → ClassId) (a : Nat → Nat) (hD : ∀ S : St, va_D (cA a) (clW g a S))  (S : St) (hB : cbd S) (x y : Int32) : Met l yX5_reader wsX5_reader ({ frames := 1, cells := 0, slots := 0, locals := 22 } : Room) (va_Pc [Value.ref (a 0), Value.int x, Value.int y] (wPre D vwCl (clW g a S) (clT g))) (wQ (some (Value.int (nI ((rdrP S x y).1)))) D vwCl (clW g a ((rdrP S x y).2)) (cA a) (cbd ((rdrP S x y).2))) 0 0 (cA a) := by
  refine Met.ofW (cc := cX5_reader) (maxL := 4) (ret := (some .int)) (by decide) rfl ?_
  intro p e s m args below meth c s₁ B hml hv
  obtain ⟨rfl, hP, hK⟩ := hv
  have hx := B.exec
  have hb := B.bytes
  have hr := B.returns
  have hts := atoms_spec (ws := wsX5_reader) B.pre
  have ht := fun (w : Cond) (h : w ∈ lw_g) => hts w (List.mem_cons_of_mem _ h)
  have hown : s.vm.findClass "ReaderRows" = some m.cls := findClass_of_methodNamed B.named
  have hlocks := B.notSynchronized
  have hS : va_S (cA a) s.heap s.heap [] := va_S.rf
  have hl := lv_entry ([Value.ref (a 0), Value.int x, Value.int y]) (n := 4) (Nat.le_of_ble_eq_true rfl)
  rw [lg_entry_eq]
  generalize (lg_sl ([Value.ref (a 0), Value.int x, Value.int y]) ++ List.replicate (4 - (lg_sl ([Value.ref (a 0), Value.int x, Value.int y])).length) Slot.unset).toArray = ls at hl ⊢
  have hl : lv_has ls 4 [(0, Value.ref (a 0)), (1, Value.int x), (2, Value.int y)] := hl
  refine lv_iload_n hx hb dX5_reader_0 rfl (lv_at hl 1 rfl) ?_
  refine r_callS (As := [Value.int x]) (rest := []) ⟨hx, hb, hml, hown, ht⟩ (c_rr_isKind l x) (cwS 1 ht (gdS m_161 m_162 m_1 m_163) rfl rfl rfl (by decide +kernel) ⟨Nat.le_of_ble_eq_true rfl, Nat.le_of_ble_eq_true rfl⟩) rfl hl.1 rfl (Nat.le_of_ble_eq_true rfl) dX5_reader_1 ⟨Nat.zero_le _, Nat.zero_le _⟩ ?_
  refine r_if_ne_b (tgt := 9) hx hb dX5_reader_4 (by decide) (fun c4 => ?_) (fun c4 => ?_)
  · obtain ⟨k, hk, rfl⟩ := r_kind (by decide) c4.1 c4.2
    refine lv_iload_n hx hb dX5_reader_9 rfl (lv_at hl 2 rfl) ?_
    refine lv_if_ne (tgt := 23) hx hb dX5_reader_10 (by decide) (fun c10 => ?_) (fun c10 => ?_)
    · refine lv_aload_n hx hb dX5_reader_23 rfl (lv_at hl 0 rfl) ?_
      refine va_get (D := D) (ci := 5) (v := Value.ref (a 1)) (C := "ReaderRows") (T := TX5) (N := 6) hx hb ht inX5 hown hK hP 0 rfl rfl 0 (by decide) (ht _ m_138) (fun _ h9 => h9) rfl dX5_reader_24 ?_
      refine lv_iload_n hx hb dX5_reader_27 rfl (lv_at hl 2 rfl) ?_
      refine r_callR (r := Value.int (nI (fd S y))) (As := [Value.int y]) (rest := []) ⟨hx, hb, hml, hown, ht⟩ (c_rd_find l D g a S hB y) (cwV 1 ht (gdV m_168 m_169 m_170 m_2 m_171) rfl rfl rfl (by decide +kernel) ⟨Nat.le_of_ble_eq_true rfl, Nat.le_of_ble_eq_true rfl⟩) (va_recv hK hP (ci := 3) (q0 := 1) rfl rfl) hP hK rfl hl.1 rfl (Nat.le_of_ble_eq_true rfl) dX5_reader_28 ⟨Nat.zero_le _, Nat.zero_le _⟩ ?_
      have b_fd24 : fd S y ≤ 60 := fd_le hB _
      refine lv_istore_n (lv' := [(3, Value.int (nI (fd S y))), (0, Value.ref (a 0)), (1, Value.int (nI k)), (2, Value.int y)]) hx hb dX5_reader_31 rfl hl (by decide) rfl (fun ls hl => ?_)
      refine lv_iload_n hx hb dX5_reader_32 rfl (lv_at hl 0 rfl) ?_
      refine r_if_eq_n (tgt := 47) hx hb dX5_reader_33 (by decide) (by omega) (fun c33 => ?_) (fun c33 => ?_)
      · refine lv_iconst (v := (nI 0)) hx hb dX5_reader_47 (by decide) ?_
        have hv9 : (nI 0) = (nI ((rdrP S (nI k) y).1)) := by first | (simp only [rdrP, if_pos c4, if_neg c10, if_pos c33]; done) | (simp only [rdrP, if_pos c4, if_neg c10, if_pos c33, nI_clamp (show k < 2 ^ 31 by omega)]; done)
        have hs9 : S = ((rdrP S (nI k) y).2) := by first | (simp only [rdrP, if_pos c4, if_neg c10, if_pos c33]; done) | (simp only [rdrP, if_pos c4, if_neg c10, if_pos c33, nI_clamp (show k < 2 ^ 31 by omega)]; done)
        exact W.iret (v := (nI 0)) hx hb hr (fun t ht hW => ⟨congrArg (fun z => Outcome.returned (some (Value.int z))) hv9, by rw [ht, ← hs9]; exact hP, hS.F ht, by rw [← hs9]; exact hB⟩) hS.2.2 dX5_reader_48
      · refine lv_aload_n hx hb dX5_reader_36 rfl (lv_at hl 1 rfl) ?_
        refine va_get (D := D) (ci := 5) (v := Value.ref (a 1)) (C := "ReaderRows") (T := TX5) (N := 6) hx hb ht inX5 hown hK hP 0 rfl rfl 0 (by decide) (ht _ m_138) (fun _ h9 => h9) rfl dX5_reader_37 ?_
        refine lv_iload_n hx hb dX5_reader_40 rfl (lv_at hl 0 rfl) ?_
        refine r_callR (r := Value.int (nI (av S 2 (fd S y)))) (As := [Value.int (nI (fd S y))]) (rest := []) ⟨hx, hb, hml, hown, ht⟩ (c_rd_guardianOf l D g a S hB (fd S y) (by omega)) (cwV 1 ht (gdV m_172 m_173 m_174 m_2 m_175) rfl rfl rfl (by decide +kernel) ⟨Nat.le_of_ble_eq_true rfl, Nat.le_of_ble_eq_true rfl⟩) (va_recv hK hP (ci := 3) (q0 := 1) rfl rfl) hP hK rfl hl.1 rfl (Nat.le_of_ble_eq_true rfl) dX5_reader_41 ⟨Nat.zero_le _, Nat.zero_le _⟩ ?_
        have b_guardianOf36 : av S 2 (fd S y) ≤ 60 := hB.2 2 _
        refine r_if_eq_n (tgt := 49) hx hb dX5_reader_44 (by decide) (by omega) (fun c44 => ?_) (fun c44 => ?_)
        · refine lv_aload_n hx hb dX5_reader_49 rfl (lv_at hl 1 rfl) ?_
          refine va_get (D := D) (ci := 5) (v := Value.ref (a 1)) (C := "ReaderRows") (T := TX5) (N := 6) hx hb ht inX5 hown hK hP 0 rfl rfl 0 (by decide) (ht _ m_138) (fun _ h9 => h9) rfl dX5_reader_50 ?_
          refine lv_iload_n hx hb dX5_reader_53 rfl (lv_at hl 2 rfl) ?_
          refine lv_iload_n hx hb dX5_reader_54 rfl (lv_at hl 0 rfl) ?_
          refine r_callW (st' := [Value.int (nI (raV S))]) (As := [Value.int (nI k), Value.int (nI (fd S y))]) (rest := []) ⟨hx, hb, hml, hown, ht⟩ (c_rd_add l D g a hD S hB k (fd S y) (by omega) (by omega)) (cwV 2 ht (gdV m_164 m_165 m_166 m_2 m_167) rfl rfl rfl (by decide +kernel) ⟨Nat.le_of_ble_eq_true rfl, Nat.le_of_ble_eq_true rfl⟩) (va_recv hK hP (ci := 3) (q0 := 1) rfl rfl) hP hK rfl hS rfl hl.1 rfl (Nat.le_of_ble_eq_true rfl) dX5_reader_55 ⟨Nat.zero_le _, Nat.zero_le _⟩ (fun H locs hP hS hB => ?_)
          have b_ra : raV S ≤ 60 := raV_le _
          have hv9 : (nI (raV S)) = (nI ((rdrP S (nI k) y).1)) := by first | (simp only [rdrP, if_pos c4, if_neg c10, if_neg c33, if_pos c44]; done) | (simp only [rdrP, if_pos c4, if_neg c10, if_neg c33, if_pos c44, nI_clamp (show k < 2 ^ 31 by omega)]; done)
          have hs9 : (raS S k (fd S y)) = ((rdrP S (nI k) y).2) := by first | (simp only [rdrP, if_pos c4, if_neg c10, if_neg c33, if_pos c44]; done) | (simp only [rdrP, if_pos c4, if_neg c10, if_neg c33, if_pos c44, nI_clamp (show k < 2 ^ 31 by omega)]; done)
          exact W.iret (v := (nI (raV S))) hx hb hr (fun t ht hW => ⟨congrArg (fun z => Outcome.returned (some (Value.int z))) hv9, by rw [ht, ← hs9]; exact hP, hS.F ht, by rw [← hs9]; exact hB⟩) hS.2.2 dX5_reader_58
        · refine lv_iconst (v := (nI 0)) hx hb dX5_reader_47 (by decide) ?_
          have hv9 : (nI 0) = (nI ((rdrP S (nI k) y).1)) := by first | (simp only [rdrP, if_pos c4, if_neg c10, if_neg c33, if_neg c44]; done) | (simp only [rdrP, if_pos c4, if_neg c10, if_neg c33, if_neg c44, nI_clamp (show k < 2 ^ 31 by omega)]; done)
          have hs9 : S = ((rdrP S (nI k) y).2) := by first | (simp only [rdrP, if_pos c4, if_neg c10, if_neg c33, if_neg c44]; done) | (simp only [rdrP, if_pos c4, if_neg c10, if_neg c33, if_neg c44, nI_clamp (show k < 2 ^ 31 by omega)]; done)
          exact W.iret (v := (nI 0)) hx hb hr (fun t ht hW => ⟨congrArg (fun z => Outcome.returned (some (Value.int z))) hv9, by rw [ht, ← hs9]; exact hP, hS.F ht, by rw [← hs9]; exact hB⟩) hS.2.2 dX5_reader_48
    · refine lv_aload_n hx hb dX5_reader_13 rfl (lv_at hl 0 rfl) ?_
      refine va_get (D := D) (ci := 5) (v := Value.ref (a 1)) (C := "ReaderRows") (T := TX5) (N := 6) hx hb ht inX5 hown hK hP 0 rfl rfl 0 (by decide) (ht _ m_138) (fun _ h9 => h9) rfl dX5_reader_14 ?_
      refine lv_iload_n hx hb dX5_reader_17 rfl (lv_at hl 1 rfl) ?_
      refine lv_iconst (v := (nI 0)) hx hb dX5_reader_18 (by decide) ?_
      refine r_callW (st' := [Value.int (nI (raV S))]) (As := [Value.int (nI k), Value.int (nI 0)]) (rest := []) ⟨hx, hb, hml, hown, ht⟩ (c_rd_add l D g a hD S hB k 0 (by omega) (by omega)) (cwV 2 ht (gdV m_164 m_165 m_166 m_2 m_167) rfl rfl rfl (by decide +kernel) ⟨Nat.le_of_ble_eq_true rfl, Nat.le_of_ble_eq_true rfl⟩) (va_recv hK hP (ci := 3) (q0 := 1) rfl rfl) hP hK rfl hS rfl hl.1 rfl (Nat.le_of_ble_eq_true rfl) dX5_reader_19 ⟨Nat.zero_le _, Nat.zero_le _⟩ (fun H locs hP hS hB => ?_)
      have b_ra : raV S ≤ 60 := raV_le _
      have hv9 : (nI (raV S)) = (nI ((rdrP S (nI k) y).1)) := by first | (simp only [rdrP, if_pos c4, if_pos c10]; done) | (simp only [rdrP, if_pos c4, if_pos c10, nI_clamp (show k < 2 ^ 31 by omega)]; done)
      have hs9 : (raS S k 0) = ((rdrP S (nI k) y).2) := by first | (simp only [rdrP, if_pos c4, if_pos c10]; done) | (simp only [rdrP, if_pos c4, if_pos c10, nI_clamp (show k < 2 ^ 31 by omega)]; done)
      exact W.iret (v := (nI (raV S))) hx hb hr (fun t ht hW => ⟨congrArg (fun z => Outcome.returned (some (Value.int z))) hv9, by rw [ht, ← hs9]; exact hP, hS.F ht, by rw [← hs9]; exact hB⟩) hS.2.2 dX5_reader_22
  · refine lv_iconst (v := (nI 0)) hx hb dX5_reader_7 (by decide) ?_
    have hv9 : (nI 0) = (nI ((rdrP S x y).1)) := by first | (simp only [rdrP, if_neg c4]; done) | (simp only [rdrP, if_neg c4, nI_clamp (show k < 2 ^ 31 by omega)]; done)
    have hs9 : S = ((rdrP S x y).2) := by first | (simp only [rdrP, if_neg c4]; done) | (simp only [rdrP, if_neg c4, nI_clamp (show k < 2 ^ 31 by omega)]; done)
    exact W.iret (v := (nI 0)) hx hb hr (fun t ht hW => ⟨congrArg (fun z => Outcome.returned (some (Value.int z))) hv9, by rw [ht, ← hs9]; exact hP, hS.F ht, by rw [← hs9]; exact hB⟩) hS.2.2 dX5_reader_8

set_option maxRecDepth 100000 in
set_option maxHeartbeats 4000000 in
theorem c_rr_card (l : Launch) (D : va_G) (g : Nat → ClassId) (a : Nat → Nat) (hD : ∀ S : St, va_D (cA a) (clW g a S))  (S : St) (hB : cbd S) (x ch : Int32) : Met l yX5_card wsX5_card ({ frames := 2, cells := 0, slots := 0, locals := 43 } : Room) (va_Pc [Value.ref (a 0), Value.int x, Value.int ch] (wPre D vwCl (clW g a S) (clT g))) (wQ (some (Value.int ((crdP S x ch).1))) D vwCl (clW g a ((crdP S x ch).2)) (cA a) (cbd ((crdP S x ch).2))) 0 0 (cA a) := by
  refine Met.ofW (cc := cX5_card) (maxL := 4) (ret := (some .int)) (by decide) rfl ?_
  intro p e s m args below meth c s₁ B hml hv
  obtain ⟨rfl, hP, hK⟩ := hv
  have hx := B.exec
  have hb := B.bytes
  have hr := B.returns
  have hts := atoms_spec (ws := wsX5_card) B.pre
  have ht := fun (w : Cond) (h : w ∈ lw_g) => hts w (List.mem_cons_of_mem _ h)
  have hown : s.vm.findClass "ReaderRows" = some m.cls := findClass_of_methodNamed B.named
  have hlocks := B.notSynchronized
  have hS : va_S (cA a) s.heap s.heap [] := va_S.rf
  have hl := lv_entry ([Value.ref (a 0), Value.int x, Value.int ch]) (n := 4) (Nat.le_of_ble_eq_true rfl)
  rw [lg_entry_eq]
  generalize (lg_sl ([Value.ref (a 0), Value.int x, Value.int ch]) ++ List.replicate (4 - (lg_sl ([Value.ref (a 0), Value.int x, Value.int ch])).length) Slot.unset).toArray = ls at hl ⊢
  have hl : lv_has ls 4 [(0, Value.ref (a 0)), (1, Value.int x), (2, Value.int ch)] := hl
  refine lv_aload_n hx hb dX5_card_0 rfl (lv_at hl 0 rfl) ?_
  refine va_get (D := D) (ci := 5) (v := Value.ref (a 1)) (C := "ReaderRows") (T := TX5) (N := 6) hx hb ht inX5 hown hK hP 0 rfl rfl 0 (by decide) (ht _ m_138) (fun _ h9 => h9) rfl dX5_card_1 ?_
  refine lv_iload_n hx hb dX5_card_4 rfl (lv_at hl 1 rfl) ?_
  refine r_callR (r := Value.int (nI (fd S x))) (As := [Value.int x]) (rest := []) ⟨hx, hb, hml, hown, ht⟩ (c_rd_find l D g a S hB x) (cwV 1 ht (gdV m_168 m_169 m_170 m_2 m_171) rfl rfl rfl (by decide +kernel) ⟨Nat.le_of_ble_eq_true rfl, Nat.le_of_ble_eq_true rfl⟩) (va_recv hK hP (ci := 3) (q0 := 1) rfl rfl) hP hK rfl hl.1 rfl (Nat.le_of_ble_eq_true rfl) dX5_card_5 ⟨Nat.zero_le _, Nat.zero_le _⟩ ?_
  have b_fd18 : fd S x ≤ 60 := fd_le hB _
  refine lv_istore_n (lv' := [(3, Value.int (nI (fd S x))), (0, Value.ref (a 0)), (1, Value.int x), (2, Value.int ch)]) hx hb dX5_card_8 rfl hl (by decide) rfl (fun ls hl => ?_)
  refine lv_iload_n hx hb dX5_card_9 rfl (lv_at hl 0 rfl) ?_
  refine r_if_eq_n (tgt := 25) hx hb dX5_card_10 (by decide) (by omega) (fun c10 => ?_) (fun c10 => ?_)
  · refine lv_iconst (v := (nI 0)) hx hb dX5_card_25 (by decide) ?_
    have hv9 : (nI 0) = ((crdP S x ch).1) := by first | (simp only [crdP, if_pos c10]; done) | (with_reducible rfl) | (simp only [crdP, if_pos c10]; rfl) | rfl | (simp [crdP, c10]; done)
    have hs9 : S = ((crdP S x ch).2) := by first | (simp only [crdP, if_pos c10]; done) | (with_reducible rfl) | (simp only [crdP, if_pos c10]; rfl) | rfl | (simp [crdP, c10]; done)
    exact W.iret (v := (nI 0)) hx hb hr (fun t ht hW => ⟨congrArg (fun z => Outcome.returned (some (Value.int z))) hv9, by rw [ht, ← hs9]; exact hP, hS.F ht, by rw [← hs9]; exact hB⟩) hS.2.2 dX5_card_26
  · refine lv_aload_n hx hb dX5_card_13 rfl (lv_at hl 1 rfl) ?_
    refine va_get (D := D) (ci := 5) (v := Value.ref (a 3)) (C := "ReaderRows") (T := TX5) (N := 6) hx hb ht inX5 hown hK hP 0 rfl rfl 2 (by decide) (ht _ m_140) (fun _ h9 => h9) rfl dX5_card_14 ?_
    refine lv_iload_n hx hb dX5_card_17 rfl (lv_at hl 0 rfl) ?_
    refine r_callR (r := Value.int (nI (co S (fd S x)))) (As := [Value.int (nI (fd S x))]) (rest := []) ⟨hx, hb, hml, hown, ht⟩ (c_ca_countOf l D g a S hB (fd S x) (by omega)) (cwV 1 ht (gdV m_180 m_181 m_182 m_4 m_183) rfl rfl rfl (by decide +kernel) ⟨Nat.le_of_ble_eq_true rfl, Nat.le_of_ble_eq_true rfl⟩) (va_recv hK hP (ci := 0) (q0 := 3) rfl rfl) hP hK rfl hl.1 rfl (Nat.le_of_ble_eq_true rfl) dX5_card_18 ⟨Nat.zero_le _, Nat.zero_le _⟩ ?_
    have b_co30 : co S (fd S x) ≤ 300 := Nat.le_trans (ct_le _ _) (hB.1 1)
    refine lv_iconst (v := (nI 5)) hx hb dX5_card_21 (by decide) ?_
    refine r_icmp_lt (tgt := 27) hx hb dX5_card_22 (by decide) (by omega) (by omega) (fun c22 => ?_) (fun c22 => ?_)
    · refine lv_aload_n hx hb dX5_card_27 rfl (lv_at hl 1 rfl) ?_
      refine va_get (D := D) (ci := 5) (v := Value.ref (a 3)) (C := "ReaderRows") (T := TX5) (N := 6) hx hb ht inX5 hown hK hP 0 rfl rfl 2 (by decide) (ht _ m_140) (fun _ h9 => h9) rfl dX5_card_28 ?_
      refine lv_iload_n hx hb dX5_card_31 rfl (lv_at hl 3 rfl) ?_
      refine r_callR (r := Value.int (nI (bN (po S ch < nv S 1)))) (As := [Value.int ch]) (rest := []) ⟨hx, hb, hml, hown, ht⟩ (c_ca_isTaken l D g a S hB ch) (cwV 1 ht (gdV m_184 m_185 m_186 m_4 m_187) rfl rfl rfl (by decide +kernel) ⟨Nat.le_of_ble_eq_true rfl, Nat.le_of_ble_eq_true rfl⟩) (va_recv hK hP (ci := 0) (q0 := 3) rfl rfl) hP hK rfl hl.1 rfl (Nat.le_of_ble_eq_true rfl) dX5_card_32 ⟨Nat.zero_le _, Nat.zero_le _⟩ ?_
      refine r_if_eq_b (tgt := 40) hx hb dX5_card_35 (by decide) (fun c35 => ?_) (fun c35 => ?_)
      · refine lv_aload_n hx hb dX5_card_40 rfl (lv_at hl 1 rfl) ?_
        refine va_get (D := D) (ci := 5) (v := Value.ref (a 3)) (C := "ReaderRows") (T := TX5) (N := 6) hx hb ht inX5 hown hK hP 0 rfl rfl 2 (by decide) (ht _ m_140) (fun _ h9 => h9) rfl dX5_card_41 ?_
        refine lv_iload_n hx hb dX5_card_44 rfl (lv_at hl 0 rfl) ?_
        refine lv_iload_n hx hb dX5_card_45 rfl (lv_at hl 3 rfl) ?_
        refine r_callW (st' := []) (As := [Value.int (nI (fd S x)), Value.int ch]) (rest := []) ⟨hx, hb, hml, hown, ht⟩ (c_ca_add l D g a hD S hB (fd S x) ch (by omega)) (cwV 2 ht (gdV m_192 m_193 m_194 m_4 m_195) rfl rfl rfl (by decide +kernel) ⟨Nat.le_of_ble_eq_true rfl, Nat.le_of_ble_eq_true rfl⟩) (va_recv hK hP (ci := 0) (q0 := 3) rfl rfl) hP hK rfl hS rfl hl.1 rfl (Nat.le_of_ble_eq_true rfl) dX5_card_46 ⟨Nat.zero_le _, Nat.zero_le _⟩ (fun H locs hP hS hB => ?_)
        refine lv_aload_n hx hb dX5_card_49 rfl (lv_at hl 1 rfl) ?_
        refine va_get (D := D) (ci := 5) (v := Value.ref (a 3)) (C := "ReaderRows") (T := TX5) (N := 6) hx hb ht inX5 hown hK hP 0 rfl rfl 2 (by decide) (ht _ m_140) (fun _ h9 => h9) rfl dX5_card_50 ?_
        refine lv_iload_n hx hb dX5_card_53 rfl (lv_at hl 0 rfl) ?_
        refine r_callR (r := Value.int (nI (co (caS S (fd S x) ch) (fd S x)))) (As := [Value.int (nI (fd S x))]) (rest := []) ⟨hx, hb, hml, hown, ht⟩ (c_ca_countOf l D g a (caS S (fd S x) ch) hB (fd S x) (by omega)) (cwV 1 ht (gdV m_180 m_181 m_182 m_4 m_183) rfl rfl rfl (by decide +kernel) ⟨Nat.le_of_ble_eq_true rfl, Nat.le_of_ble_eq_true rfl⟩) (va_recv hK hP (ci := 0) (q0 := 3) rfl rfl) hP hK rfl hl.1 rfl (Nat.le_of_ble_eq_true rfl) dX5_card_54 ⟨Nat.zero_le _, Nat.zero_le _⟩ ?_
        have b_co47 : co (caS S (fd S x) ch) (fd S x) ≤ 300 := Nat.le_trans (ct_le _ _) (hB.1 1)
        have hv9 : (nI (co (caS S (fd S x) ch) (fd S x))) = ((crdP S x ch).1) := by first | (simp only [crdP, if_neg c10, if_pos c22, if_neg c35]; done) | (with_reducible rfl) | (simp only [crdP, if_neg c10, if_pos c22, if_neg c35]; rfl) | rfl | (simp [crdP, c10, c22, c35]; done)
        have hs9 : (caS S (fd S x) ch) = ((crdP S x ch).2) := by first | (simp only [crdP, if_neg c10, if_pos c22, if_neg c35]; done) | (with_reducible rfl) | (simp only [crdP, if_neg c10, if_pos c22, if_neg c35]; rfl) | rfl | (simp [crdP, c10, c22, c35]; done)
        exact W.iret (v := (nI (co (caS S (fd S x) ch) (fd S x)))) hx hb hr (fun t ht hW => ⟨congrArg (fun z => Outcome.returned (some (Value.int z))) hv9, by rw [ht, ← hs9]; exact hP, hS.F ht, by rw [← hs9]; exact hB⟩) hS.2.2 dX5_card_57
      · refine lv_iconst (v := (-1)) hx hb dX5_card_38 (by decide) ?_
        have hv9 : (-1) = ((crdP S x ch).1) := by first | (simp only [crdP, if_neg c10, if_pos c22, if_pos c35]; done) | (with_reducible rfl) | (simp only [crdP, if_neg c10, if_pos c22, if_pos c35]; rfl) | rfl | (simp [crdP, c10, c22, c35]; done)
        have hs9 : S = ((crdP S x ch).2) := by first | (simp only [crdP, if_neg c10, if_pos c22, if_pos c35]; done) | (with_reducible rfl) | (simp only [crdP, if_neg c10, if_pos c22, if_pos c35]; rfl) | rfl | (simp [crdP, c10, c22, c35]; done)
        exact W.iret (v := (-1)) hx hb hr (fun t ht hW => ⟨congrArg (fun z => Outcome.returned (some (Value.int z))) hv9, by rw [ht, ← hs9]; exact hP, hS.F ht, by rw [← hs9]; exact hB⟩) hS.2.2 dX5_card_39
    · refine lv_iconst (v := (nI 0)) hx hb dX5_card_25 (by decide) ?_
      have hv9 : (nI 0) = ((crdP S x ch).1) := by first | (simp only [crdP, if_neg c10, if_neg c22]; done) | (with_reducible rfl) | (simp only [crdP, if_neg c10, if_neg c22]; rfl) | rfl | (simp [crdP, c10, c22]; done)
      have hs9 : S = ((crdP S x ch).2) := by first | (simp only [crdP, if_neg c10, if_neg c22]; done) | (with_reducible rfl) | (simp only [crdP, if_neg c10, if_neg c22]; rfl) | rfl | (simp [crdP, c10, c22]; done)
      exact W.iret (v := (nI 0)) hx hb hr (fun t ht hW => ⟨congrArg (fun z => Outcome.returned (some (Value.int z))) hv9, by rw [ht, ← hs9]; exact hP, hS.F ht, by rw [← hs9]; exact hB⟩) hS.2.2 dX5_card_26

set_option maxRecDepth 100000 in
set_option maxHeartbeats 4000000 in
theorem c_rr_whose (l : Launch) (D : va_G) (g : Nat → ClassId) (a : Nat → Nat)  (S : St) (hB : cbd S) (ch : Int32) : Met l yX5_whose wsX5_whose ({ frames := 2, cells := 0, slots := 0, locals := 44 } : Room) (va_Pc [Value.ref (a 0), Value.int ch] (wPre D vwCl (clW g a S) (clT g))) (k2_QcV (Value.int (nI (hg S ch)))) 0 0 (fun _ => False) := by
  refine Met.ofW (cc := cX5_whose) (maxL := 2) (ret := (some .int)) (by decide) rfl ?_
  intro p e s m args below meth c s₁ B hml hv
  obtain ⟨rfl, hP, hK⟩ := hv
  have hx := B.exec
  have hb := B.bytes
  have hr := B.returns
  have hts := atoms_spec (ws := wsX5_whose) B.pre
  have ht := fun (w : Cond) (h : w ∈ lw_g) => hts w (List.mem_cons_of_mem _ h)
  have hown : s.vm.findClass "ReaderRows" = some m.cls := findClass_of_methodNamed B.named
  have hlocks := B.notSynchronized
  have hl := lv_entry ([Value.ref (a 0), Value.int ch]) (n := 2) (Nat.le_of_ble_eq_true rfl)
  rw [lg_entry_eq]
  generalize (lg_sl ([Value.ref (a 0), Value.int ch]) ++ List.replicate (2 - (lg_sl ([Value.ref (a 0), Value.int ch])).length) Slot.unset).toArray = ls at hl ⊢
  have hl : lv_has ls 2 [(0, Value.ref (a 0)), (1, Value.int ch)] := hl
  refine lv_aload_n hx hb dX5_whose_0 rfl (lv_at hl 0 rfl) ?_
  refine va_get (D := D) (ci := 5) (v := Value.ref (a 3)) (C := "ReaderRows") (T := TX5) (N := 6) hx hb ht inX5 hown hK hP 0 rfl rfl 2 (by decide) (ht _ m_140) (fun _ h9 => h9) rfl dX5_whose_1 ?_
  refine lv_iload_n hx hb dX5_whose_4 rfl (lv_at hl 1 rfl) ?_
  refine r_callR (r := Value.int (nI (hg S ch))) (As := [Value.int ch]) (rest := []) ⟨hx, hb, hml, hown, ht⟩ (c_ca_holderOfGood l D g a S hB ch) (cwV 1 ht (gdV m_200 m_201 m_202 m_4 m_203) rfl rfl rfl (by decide +kernel) ⟨Nat.le_of_ble_eq_true rfl, Nat.le_of_ble_eq_true rfl⟩) (va_recv hK hP (ci := 0) (q0 := 3) rfl rfl) hP hK rfl hl.1 rfl (Nat.le_of_ble_eq_true rfl) dX5_whose_5 ⟨Nat.zero_le _, Nat.zero_le _⟩ ?_
  have b_hg : hg S ch ≤ 60 := hg_le hB _
  have hv9 : (nI (hg S ch)) = (nI (hg S ch)) := by first | (simp only [Nat.add_zero, Nat.add_zero]; done) | (with_reducible rfl) | (simp only [Nat.add_zero, Nat.add_zero]; rfl) | rfl | (simp [Nat.add_zero, Nat.add_zero]; done)
  exact W.iret (v := (nI (hg S ch))) hx hb hr (fun t ht hW => ⟨congrArg (fun z => Outcome.returned (some (Value.int z))) hv9, ht⟩) (fun _ h => by cases h) dX5_whose_8

set_option maxRecDepth 100000 in
set_option maxHeartbeats 4000000 in
theorem c_rr_lost (l : Launch) (D : va_G) (g : Nat → ClassId) (a : Nat → Nat) (hD : ∀ S : St, va_D (cA a) (clW g a S))  (S : St) (hB : cbd S) (ch ot : Int32) : Met l yX5_lost wsX5_lost ({ frames := 2, cells := 0, slots := 0, locals := 44 } : Room) (va_Pc [Value.ref (a 0), Value.int ch, Value.int ot] (wPre D vwCl (clW g a S) (clT g))) (wQ (some (Value.int ((lstP S ch ot).1))) D vwCl (clW g a ((lstP S ch ot).2)) (cA a) (cbd ((lstP S ch ot).2))) 0 0 (cA a) := by
  refine Met.ofW (cc := cX5_lost) (maxL := 4) (ret := (some .int)) (by decide) rfl ?_
  intro p e s m args below meth c s₁ B hml hv
  obtain ⟨rfl, hP, hK⟩ := hv
  have hx := B.exec
  have hb := B.bytes
  have hr := B.returns
  have hts := atoms_spec (ws := wsX5_lost) B.pre
  have ht := fun (w : Cond) (h : w ∈ lw_g) => hts w (List.mem_cons_of_mem _ h)
  have hown : s.vm.findClass "ReaderRows" = some m.cls := findClass_of_methodNamed B.named
  have hlocks := B.notSynchronized
  have hS : va_S (cA a) s.heap s.heap [] := va_S.rf
  have hl := lv_entry ([Value.ref (a 0), Value.int ch, Value.int ot]) (n := 4) (Nat.le_of_ble_eq_true rfl)
  rw [lg_entry_eq]
  generalize (lg_sl ([Value.ref (a 0), Value.int ch, Value.int ot]) ++ List.replicate (4 - (lg_sl ([Value.ref (a 0), Value.int ch, Value.int ot])).length) Slot.unset).toArray = ls at hl ⊢
  have hl : lv_has ls 4 [(0, Value.ref (a 0)), (1, Value.int ch), (2, Value.int ot)] := hl
  refine lv_aload_n hx hb dX5_lost_0 rfl (lv_at hl 0 rfl) ?_
  refine va_get (D := D) (ci := 5) (v := Value.ref (a 3)) (C := "ReaderRows") (T := TX5) (N := 6) hx hb ht inX5 hown hK hP 0 rfl rfl 2 (by decide) (ht _ m_140) (fun _ h9 => h9) rfl dX5_lost_1 ?_
  refine lv_iload_n hx hb dX5_lost_4 rfl (lv_at hl 1 rfl) ?_
  refine r_callR (r := Value.int (nI (hg S ch))) (As := [Value.int ch]) (rest := []) ⟨hx, hb, hml, hown, ht⟩ (c_ca_holderOfGood l D g a S hB ch) (cwV 1 ht (gdV m_200 m_201 m_202 m_4 m_203) rfl rfl rfl (by decide +kernel) ⟨Nat.le_of_ble_eq_true rfl, Nat.le_of_ble_eq_true rfl⟩) (va_recv hK hP (ci := 0) (q0 := 3) rfl rfl) hP hK rfl hl.1 rfl (Nat.le_of_ble_eq_true rfl) dX5_lost_5 ⟨Nat.zero_le _, Nat.zero_le _⟩ ?_
  have b_hg : hg S ch ≤ 60 := hg_le hB _
  refine lv_istore_n (lv' := [(3, Value.int (nI (hg S ch))), (0, Value.ref (a 0)), (1, Value.int ch), (2, Value.int ot)]) hx hb dX5_lost_8 rfl hl (by decide) rfl (fun ls hl => ?_)
  refine lv_iload_n hx hb dX5_lost_9 rfl (lv_at hl 0 rfl) ?_
  refine r_if_ne_n (tgt := 15) hx hb dX5_lost_10 (by decide) (by omega) (fun c10 => ?_) (fun c10 => ?_)
  · refine lv_aload_n hx hb dX5_lost_15 rfl (lv_at hl 1 rfl) ?_
    refine va_get (D := D) (ci := 5) (v := Value.ref (a 3)) (C := "ReaderRows") (T := TX5) (N := 6) hx hb ht inX5 hown hK hP 0 rfl rfl 2 (by decide) (ht _ m_140) (fun _ h9 => h9) rfl dX5_lost_16 ?_
    refine lv_iload_n hx hb dX5_lost_19 rfl (lv_at hl 3 rfl) ?_
    refine r_callR (r := Value.int (nI (bN (po S ot < nv S 1)))) (As := [Value.int ot]) (rest := []) ⟨hx, hb, hml, hown, ht⟩ (c_ca_isTaken l D g a S hB ot) (cwV 1 ht (gdV m_184 m_185 m_186 m_4 m_187) rfl rfl rfl (by decide +kernel) ⟨Nat.le_of_ble_eq_true rfl, Nat.le_of_ble_eq_true rfl⟩) (va_recv hK hP (ci := 0) (q0 := 3) rfl rfl) hP hK rfl hl.1 rfl (Nat.le_of_ble_eq_true rfl) dX5_lost_20 ⟨Nat.zero_le _, Nat.zero_le _⟩ ?_
    refine r_if_eq_b (tgt := 28) hx hb dX5_lost_23 (by decide) (fun c23 => ?_) (fun c23 => ?_)
    · refine lv_aload_n hx hb dX5_lost_28 rfl (lv_at hl 1 rfl) ?_
      refine va_get (D := D) (ci := 5) (v := Value.ref (a 3)) (C := "ReaderRows") (T := TX5) (N := 6) hx hb ht inX5 hown hK hP 0 rfl rfl 2 (by decide) (ht _ m_140) (fun _ h9 => h9) rfl dX5_lost_29 ?_
      refine lv_iload_n hx hb dX5_lost_32 rfl (lv_at hl 0 rfl) ?_
      refine r_callR (r := Value.int (nI (co S (hg S ch)))) (As := [Value.int (nI (hg S ch))]) (rest := []) ⟨hx, hb, hml, hown, ht⟩ (c_ca_countOf l D g a S hB (hg S ch) (by omega)) (cwV 1 ht (gdV m_180 m_181 m_182 m_4 m_183) rfl rfl rfl (by decide +kernel) ⟨Nat.le_of_ble_eq_true rfl, Nat.le_of_ble_eq_true rfl⟩) (va_recv hK hP (ci := 0) (q0 := 3) rfl rfl) hP hK rfl hl.1 rfl (Nat.le_of_ble_eq_true rfl) dX5_lost_33 ⟨Nat.zero_le _, Nat.zero_le _⟩ ?_
      have b_co31 : co S (hg S ch) ≤ 300 := Nat.le_trans (ct_le _ _) (hB.1 1)
      refine lv_iconst (v := (nI 5)) hx hb dX5_lost_36 (by decide) ?_
      refine r_icmp_lt (tgt := 43) hx hb dX5_lost_37 (by decide) (by omega) (by omega) (fun c37 => ?_) (fun c37 => ?_)
      · refine lv_aload_n hx hb dX5_lost_43 rfl (lv_at hl 1 rfl) ?_
        refine va_get (D := D) (ci := 5) (v := Value.ref (a 3)) (C := "ReaderRows") (T := TX5) (N := 6) hx hb ht inX5 hown hK hP 0 rfl rfl 2 (by decide) (ht _ m_140) (fun _ h9 => h9) rfl dX5_lost_44 ?_
        refine lv_iload_n hx hb dX5_lost_47 rfl (lv_at hl 2 rfl) ?_
        refine r_callW (st' := []) (As := [Value.int ch]) (rest := []) ⟨hx, hb, hml, hown, ht⟩ (c_ca_lose l D g a hD S hB ch) (cwV 1 ht (gdV m_208 m_209 m_210 m_4 m_211) rfl rfl rfl (by decide +kernel) ⟨Nat.le_of_ble_eq_true rfl, Nat.le_of_ble_eq_true rfl⟩) (va_recv hK hP (ci := 0) (q0 := 3) rfl rfl) hP hK rfl hS rfl hl.1 rfl (Nat.le_of_ble_eq_true rfl) dX5_lost_48 ⟨Nat.zero_le _, Nat.zero_le _⟩ (fun H locs hP hS hB => ?_)
        refine lv_aload_n hx hb dX5_lost_51 rfl (lv_at hl 1 rfl) ?_
        refine va_get (D := D) (ci := 5) (v := Value.ref (a 3)) (C := "ReaderRows") (T := TX5) (N := 6) hx hb ht inX5 hown hK hP 0 rfl rfl 2 (by decide) (ht _ m_140) (fun _ h9 => h9) rfl dX5_lost_52 ?_
        refine lv_iload_n hx hb dX5_lost_55 rfl (lv_at hl 0 rfl) ?_
        refine lv_iload_n hx hb dX5_lost_56 rfl (lv_at hl 3 rfl) ?_
        refine r_callW (st' := []) (As := [Value.int (nI (hg S ch)), Value.int ot]) (rest := []) ⟨hx, hb, hml, hown, ht⟩ (c_ca_add l D g a hD (loS S ch) hB (hg S ch) ot (by omega)) (cwV 2 ht (gdV m_192 m_193 m_194 m_4 m_195) rfl rfl rfl (by decide +kernel) ⟨Nat.le_of_ble_eq_true rfl, Nat.le_of_ble_eq_true rfl⟩) (va_recv hK hP (ci := 0) (q0 := 3) rfl rfl) hP hK rfl hS rfl hl.1 rfl (Nat.le_of_ble_eq_true rfl) dX5_lost_57 ⟨Nat.zero_le _, Nat.zero_le _⟩ (fun H locs hP hS hB => ?_)
        refine lv_iload_n hx hb dX5_lost_60 rfl (lv_at hl 0 rfl) ?_
        have hv9 : (nI (hg S ch)) = ((lstP S ch ot).1) := by first | (simp only [lstP, if_neg c10, if_neg c23, if_pos c37]; done) | (with_reducible rfl) | (simp only [lstP, if_neg c10, if_neg c23, if_pos c37]; rfl) | rfl | (simp [lstP, c10, c23, c37]; done)
        have hs9 : (caS (loS S ch) (hg S ch) ot) = ((lstP S ch ot).2) := by first | (simp only [lstP, if_neg c10, if_neg c23, if_pos c37]; done) | (with_reducible rfl) | (simp only [lstP, if_neg c10, if_neg c23, if_pos c37]; rfl) | rfl | (simp [lstP, c10, c23, c37]; done)
        exact W.iret (v := (nI (hg S ch))) hx hb hr (fun t ht hW => ⟨congrArg (fun z => Outcome.returned (some (Value.int z))) hv9, by rw [ht, ← hs9]; exact hP, hS.F ht, by rw [← hs9]; exact hB⟩) hS.2.2 dX5_lost_61
      · refine lv_bipush (v := (-2)) hx hb dX5_lost_40 (by decide) ?_
        have hv9 : (-2) = ((lstP S ch ot).1) := by first | (simp only [lstP, if_neg c10, if_neg c23, if_neg c37]; done) | (with_reducible rfl) | (simp only [lstP, if_neg c10, if_neg c23, if_neg c37]; rfl) | rfl | (simp [lstP, c10, c23, c37]; done)
        have hs9 : S = ((lstP S ch ot).2) := by first | (simp only [lstP, if_neg c10, if_neg c23, if_neg c37]; done) | (with_reducible rfl) | (simp only [lstP, if_neg c10, if_neg c23, if_neg c37]; rfl) | rfl | (simp [lstP, c10, c23, c37]; done)
        exact W.iret (v := (-2)) hx hb hr (fun t ht hW => ⟨congrArg (fun z => Outcome.returned (some (Value.int z))) hv9, by rw [ht, ← hs9]; exact hP, hS.F ht, by rw [← hs9]; exact hB⟩) hS.2.2 dX5_lost_42
    · refine lv_iconst (v := (-1)) hx hb dX5_lost_26 (by decide) ?_
      have hv9 : (-1) = ((lstP S ch ot).1) := by first | (simp only [lstP, if_neg c10, if_pos c23]; done) | (with_reducible rfl) | (simp only [lstP, if_neg c10, if_pos c23]; rfl) | rfl | (simp [lstP, c10, c23]; done)
      have hs9 : S = ((lstP S ch ot).2) := by first | (simp only [lstP, if_neg c10, if_pos c23]; done) | (with_reducible rfl) | (simp only [lstP, if_neg c10, if_pos c23]; rfl) | rfl | (simp [lstP, c10, c23]; done)
      exact W.iret (v := (-1)) hx hb hr (fun t ht hW => ⟨congrArg (fun z => Outcome.returned (some (Value.int z))) hv9, by rw [ht, ← hs9]; exact hP, hS.F ht, by rw [← hs9]; exact hB⟩) hS.2.2 dX5_lost_27
  · refine lv_iconst (v := (nI 0)) hx hb dX5_lost_13 (by decide) ?_
    have hv9 : (nI 0) = ((lstP S ch ot).1) := by first | (simp only [lstP, if_pos c10]; done) | (with_reducible rfl) | (simp only [lstP, if_pos c10]; rfl) | rfl | (simp [lstP, c10]; done)
    have hs9 : S = ((lstP S ch ot).2) := by first | (simp only [lstP, if_pos c10]; done) | (with_reducible rfl) | (simp only [lstP, if_pos c10]; rfl) | rfl | (simp [lstP, c10]; done)
    exact W.iret (v := (nI 0)) hx hb hr (fun t ht hW => ⟨congrArg (fun z => Outcome.returned (some (Value.int z))) hv9, by rw [ht, ← hs9]; exact hP, hS.F ht, by rw [← hs9]; exact hB⟩) hS.2.2 dX5_lost_14

set_option maxRecDepth 100000 in
set_option maxHeartbeats 4000000 in
theorem c_rr_block (l : Launch) (D : va_G) (g : Nat → ClassId) (a : Nat → Nat) (hD : ∀ S : St, va_D (cA a) (clW g a S))  (S : St) (hB : cbd S) (x so : Int32) (d : Int64) : Met l yX5_block wsX5_block ({ frames := 1, cells := 0, slots := 0, locals := 24 } : Room) (va_Pc [Value.ref (a 0), Value.int x, Value.int so, Value.long d] (wPre D vwCl (clW g a S) (clT g))) (wQ (some (Value.int (nI ((blkP S x so d).1)))) D vwCl (clW g a ((blkP S x so d).2)) (cA a) (cbd ((blkP S x so d).2))) 0 0 (cA a) := by
  refine Met.ofW (cc := cX5_block) (maxL := 6) (ret := (some .int)) (by decide) rfl ?_
  intro p e s m args below meth c s₁ B hml hv
  obtain ⟨rfl, hP, hK⟩ := hv
  have hx := B.exec
  have hb := B.bytes
  have hr := B.returns
  have hts := atoms_spec (ws := wsX5_block) B.pre
  have ht := fun (w : Cond) (h : w ∈ lw_g) => hts w (List.mem_cons_of_mem _ h)
  have hown : s.vm.findClass "ReaderRows" = some m.cls := findClass_of_methodNamed B.named
  have hlocks := B.notSynchronized
  have hS : va_S (cA a) s.heap s.heap [] := va_S.rf
  have hl := lv_entry ([Value.ref (a 0), Value.int x, Value.int so, Value.long d]) (n := 6) (Nat.le_of_ble_eq_true rfl)
  rw [lg_entry_eq]
  generalize (lg_sl ([Value.ref (a 0), Value.int x, Value.int so, Value.long d]) ++ List.replicate (6 - (lg_sl ([Value.ref (a 0), Value.int x, Value.int so, Value.long d])).length) Slot.unset).toArray = ls at hl ⊢
  have hl : lv_has ls 6 [(0, Value.ref (a 0)), (1, Value.int x), (2, Value.int so), (3, Value.long d)] := hl
  refine lv_aload_n hx hb dX5_block_0 rfl (lv_at hl 0 rfl) ?_
  refine va_get (D := D) (ci := 5) (v := Value.ref (a 1)) (C := "ReaderRows") (T := TX5) (N := 6) hx hb ht inX5 hown hK hP 0 rfl rfl 0 (by decide) (ht _ m_138) (fun _ h9 => h9) rfl dX5_block_1 ?_
  refine lv_iload_n hx hb dX5_block_4 rfl (lv_at hl 1 rfl) ?_
  refine r_callR (r := Value.int (nI (fd S x))) (As := [Value.int x]) (rest := []) ⟨hx, hb, hml, hown, ht⟩ (c_rd_find l D g a S hB x) (cwV 1 ht (gdV m_168 m_169 m_170 m_2 m_171) rfl rfl rfl (by decide +kernel) ⟨Nat.le_of_ble_eq_true rfl, Nat.le_of_ble_eq_true rfl⟩) (va_recv hK hP (ci := 3) (q0 := 1) rfl rfl) hP hK rfl hl.1 rfl (Nat.le_of_ble_eq_true rfl) dX5_block_5 ⟨Nat.zero_le _, Nat.zero_le _⟩ ?_
  have b_fd18 : fd S x ≤ 60 := fd_le hB _
  refine lv_istore (lv' := [(5, Value.int (nI (fd S x))), (0, Value.ref (a 0)), (1, Value.int x), (2, Value.int so), (3, Value.long d)]) hx hb dX5_block_8 hl (by decide) rfl (fun ls hl => ?_)
  refine lv_iload hx hb dX5_block_10 (lv_at hl 0 rfl) ?_
  refine r_if_eq_n (tgt := 32) hx hb dX5_block_12 (by decide) (by omega) (fun c12 => ?_) (fun c12 => ?_)
  · refine lv_iconst (v := (nI 0)) hx hb dX5_block_32 (by decide) ?_
    have hv9 : (nI 0) = (nI ((blkP S x so d).1)) := by first | (simp only [blkP, if_pos c12]; done) | (simp only [blkP, if_pos c12, nI_clamp (show k < 2 ^ 31 by omega)]; done)
    have hs9 : S = ((blkP S x so d).2) := by first | (simp only [blkP, if_pos c12]; done) | (simp only [blkP, if_pos c12, nI_clamp (show k < 2 ^ 31 by omega)]; done)
    exact W.iret (v := (nI 0)) hx hb hr (fun t ht hW => ⟨congrArg (fun z => Outcome.returned (some (Value.int z))) hv9, by rw [ht, ← hs9]; exact hP, hS.F ht, by rw [← hs9]; exact hB⟩) hS.2.2 dX5_block_33
  · refine lv_iload_n hx hb dX5_block_15 rfl (lv_at hl 3 rfl) ?_
    refine lv_if_lt (tgt := 32) hx hb dX5_block_16 (by decide) (fun c16 => ?_) (fun c16 => ?_)
    · refine lv_iconst (v := (nI 0)) hx hb dX5_block_32 (by decide) ?_
      have hv9 : (nI 0) = (nI ((blkP S x so d).1)) := by first | (simp only [blkP, if_neg c12, if_pos c16]; done) | (simp only [blkP, if_neg c12, if_pos c16, nI_clamp (show k < 2 ^ 31 by omega)]; done)
      have hs9 : S = ((blkP S x so d).2) := by first | (simp only [blkP, if_neg c12, if_pos c16]; done) | (simp only [blkP, if_neg c12, if_pos c16, nI_clamp (show k < 2 ^ 31 by omega)]; done)
      exact W.iret (v := (nI 0)) hx hb hr (fun t ht hW => ⟨congrArg (fun z => Outcome.returned (some (Value.int z))) hv9, by rw [ht, ← hs9]; exact hP, hS.F ht, by rw [← hs9]; exact hB⟩) hS.2.2 dX5_block_33
    · refine lv_iload_n hx hb dX5_block_19 rfl (lv_at hl 3 rfl) ?_
      refine lv_bipush (v := (nI 6)) hx hb dX5_block_20 (by decide) ?_
      refine lv_icmp_ge (tgt := 32) hx hb dX5_block_22 (by decide) (fun c22 => ?_) (fun c22 => ?_)
      · refine lv_iconst (v := (nI 0)) hx hb dX5_block_32 (by decide) ?_
        have hv9 : (nI 0) = (nI ((blkP S x so d).1)) := by first | (simp only [blkP, if_neg c12, if_neg c16, if_pos c22]; done) | (simp only [blkP, if_neg c12, if_neg c16, if_pos c22, nI_clamp (show k < 2 ^ 31 by omega)]; done)
        have hs9 : S = ((blkP S x so d).2) := by first | (simp only [blkP, if_neg c12, if_neg c16, if_pos c22]; done) | (simp only [blkP, if_neg c12, if_neg c16, if_pos c22, nI_clamp (show k < 2 ^ 31 by omega)]; done)
        exact W.iret (v := (nI 0)) hx hb hr (fun t ht hW => ⟨congrArg (fun z => Outcome.returned (some (Value.int z))) hv9, by rw [ht, ← hs9]; exact hP, hS.F ht, by rw [← hs9]; exact hB⟩) hS.2.2 dX5_block_33
      · obtain ⟨k, hk, rfl⟩ := r_kind (by decide) c16 c22
        refine lv_lload_n hx hb dX5_block_25 rfl (lv_at hl 4 rfl) ?_
        refine r_callS (As := [Value.long d]) (rest := []) ⟨hx, hb, hml, hown, ht⟩ (c_rr_isDay l d) (cwS 1 ht (gdS m_216 m_217 m_1 m_218) rfl rfl rfl (by decide +kernel) ⟨Nat.le_of_ble_eq_true rfl, Nat.le_of_ble_eq_true rfl⟩) rfl hl.1 rfl (Nat.le_of_ble_eq_true rfl) dX5_block_26 ⟨Nat.zero_le _, Nat.zero_le _⟩ ?_
        refine r_if_ne_b (tgt := 34) hx hb dX5_block_29 (by decide) (fun c29 => ?_) (fun c29 => ?_)
        · refine lv_aload_n hx hb dX5_block_34 rfl (lv_at hl 1 rfl) ?_
          refine va_get (D := D) (ci := 5) (v := Value.ref (a 1)) (C := "ReaderRows") (T := TX5) (N := 6) hx hb ht inX5 hown hK hP 0 rfl rfl 0 (by decide) (ht _ m_138) (fun _ h9 => h9) rfl dX5_block_35 ?_
          refine lv_iload hx hb dX5_block_38 (lv_at hl 0 rfl) ?_
          refine lv_iload_n hx hb dX5_block_40 rfl (lv_at hl 3 rfl) ?_
          refine lv_lload_n hx hb dX5_block_41 rfl (lv_at hl 4 rfl) ?_
          refine r_callW (st' := []) (As := [Value.int (nI (fd S x)), Value.int (nI k), Value.long d]) (rest := []) ⟨hx, hb, hml, hown, ht⟩ (c_rd_setBlock l D g a hD S hB (fd S x) k d (by omega) (by omega)) (cwV 3 ht (gdV m_220 m_221 m_222 m_2 m_223) rfl rfl rfl (by decide +kernel) ⟨Nat.le_of_ble_eq_true rfl, Nat.le_of_ble_eq_true rfl⟩) (va_recv hK hP (ci := 3) (q0 := 1) rfl rfl) hP hK rfl hS rfl hl.1 rfl (Nat.le_of_ble_eq_true rfl) dX5_block_42 ⟨Nat.zero_le _, Nat.zero_le _⟩ (fun H locs hP hS hB => ?_)
          refine lv_iconst (v := (nI 1)) hx hb dX5_block_45 (by decide) ?_
          have hv9 : (nI 1) = (nI ((blkP S x (nI k) d).1)) := by first | (simp only [blkP, if_neg c12, if_neg c16, if_neg c22, if_pos c29]; done) | (simp only [blkP, if_neg c12, if_neg c16, if_neg c22, if_pos c29, nI_clamp (show k < 2 ^ 31 by omega)]; done)
          have hs9 : (sy S 0 ((fd S x) * 6 + k) d) = ((blkP S x (nI k) d).2) := by first | (simp only [blkP, if_neg c12, if_neg c16, if_neg c22, if_pos c29]; done) | (simp only [blkP, if_neg c12, if_neg c16, if_neg c22, if_pos c29, nI_clamp (show k < 2 ^ 31 by omega)]; done)
          exact W.iret (v := (nI 1)) hx hb hr (fun t ht hW => ⟨congrArg (fun z => Outcome.returned (some (Value.int z))) hv9, by rw [ht, ← hs9]; exact hP, hS.F ht, by rw [← hs9]; exact hB⟩) hS.2.2 dX5_block_46
        · refine lv_iconst (v := (nI 0)) hx hb dX5_block_32 (by decide) ?_
          have hv9 : (nI 0) = (nI ((blkP S x (nI k) d).1)) := by first | (simp only [blkP, if_neg c12, if_neg c16, if_neg c22, if_neg c29]; done) | (simp only [blkP, if_neg c12, if_neg c16, if_neg c22, if_neg c29, nI_clamp (show k < 2 ^ 31 by omega)]; done)
          have hs9 : S = ((blkP S x (nI k) d).2) := by first | (simp only [blkP, if_neg c12, if_neg c16, if_neg c22, if_neg c29]; done) | (simp only [blkP, if_neg c12, if_neg c16, if_neg c22, if_neg c29, nI_clamp (show k < 2 ^ 31 by omega)]; done)
          exact W.iret (v := (nI 0)) hx hb hr (fun t ht hW => ⟨congrArg (fun z => Outcome.returned (some (Value.int z))) hv9, by rw [ht, ← hs9]; exact hP, hS.F ht, by rw [← hs9]; exact hB⟩) hS.2.2 dX5_block_33

set_option maxRecDepth 100000 in
set_option maxHeartbeats 4000000 in
theorem c_rr_blocked (l : Launch) (D : va_G) (g : Nat → ClassId) (a : Nat → Nat)  (S : St) (hB : cbd S) (x : Int32) (d : Int64) : Met l yX5_blocked wsX5_blocked ({ frames := 1, cells := 0, slots := 0, locals := 26 } : Room) (va_Pc [Value.ref (a 0), Value.int x, Value.long d] (wPre D vwCl (clW g a S) (clT g))) (k2_QcV (Value.int (bkV S x d))) 0 0 (fun _ => False) := by
  refine Met.ofW (cc := cX5_blocked) (maxL := 7) (ret := (some .int)) (by decide) rfl ?_
  intro p e s m args below meth c s₁ B hml hv
  obtain ⟨rfl, hP, hK⟩ := hv
  have hx := B.exec
  have hb := B.bytes
  have hr := B.returns
  have hts := atoms_spec (ws := wsX5_blocked) B.pre
  have ht := fun (w : Cond) (h : w ∈ lw_g) => hts w (List.mem_cons_of_mem _ h)
  have hown : s.vm.findClass "ReaderRows" = some m.cls := findClass_of_methodNamed B.named
  have hlocks := B.notSynchronized
  have hl := lv_entry ([Value.ref (a 0), Value.int x, Value.long d]) (n := 7) (Nat.le_of_ble_eq_true rfl)
  rw [lg_entry_eq]
  generalize (lg_sl ([Value.ref (a 0), Value.int x, Value.long d]) ++ List.replicate (7 - (lg_sl ([Value.ref (a 0), Value.int x, Value.long d])).length) Slot.unset).toArray = ls at hl ⊢
  have hl : lv_has ls 7 [(0, Value.ref (a 0)), (1, Value.int x), (2, Value.long d)] := hl
  refine lv_aload_n hx hb dX5_blocked_0 rfl (lv_at hl 0 rfl) ?_
  refine va_get (D := D) (ci := 5) (v := Value.ref (a 1)) (C := "ReaderRows") (T := TX5) (N := 6) hx hb ht inX5 hown hK hP 0 rfl rfl 0 (by decide) (ht _ m_138) (fun _ h9 => h9) rfl dX5_blocked_1 ?_
  refine lv_iload_n hx hb dX5_blocked_4 rfl (lv_at hl 1 rfl) ?_
  refine r_callR (r := Value.int (nI (fd S x))) (As := [Value.int x]) (rest := []) ⟨hx, hb, hml, hown, ht⟩ (c_rd_find l D g a S hB x) (cwV 1 ht (gdV m_168 m_169 m_170 m_2 m_171) rfl rfl rfl (by decide +kernel) ⟨Nat.le_of_ble_eq_true rfl, Nat.le_of_ble_eq_true rfl⟩) (va_recv hK hP (ci := 3) (q0 := 1) rfl rfl) hP hK rfl hl.1 rfl (Nat.le_of_ble_eq_true rfl) dX5_blocked_5 ⟨Nat.zero_le _, Nat.zero_le _⟩ ?_
  have b_fd17 : fd S x ≤ 60 := fd_le hB _
  refine lv_istore (lv' := [(4, Value.int (nI (fd S x))), (0, Value.ref (a 0)), (1, Value.int x), (2, Value.long d)]) hx hb dX5_blocked_8 hl (by decide) rfl (fun ls hl => ?_)
  refine lv_iload hx hb dX5_blocked_10 (lv_at hl 0 rfl) ?_
  refine r_if_ne_n (tgt := 17) hx hb dX5_blocked_12 (by decide) (by omega) (fun c12 => ?_) (fun c12 => ?_)
  · refine lv_aload_n hx hb dX5_blocked_17 rfl (lv_at hl 1 rfl) ?_
    refine va_get (D := D) (ci := 5) (v := Value.ref (a 1)) (C := "ReaderRows") (T := TX5) (N := 6) hx hb ht inX5 hown hK hP 0 rfl rfl 0 (by decide) (ht _ m_138) (fun _ h9 => h9) rfl dX5_blocked_18 ?_
    refine lv_iload hx hb dX5_blocked_21 (lv_at hl 0 rfl) ?_
    refine r_callR (r := Value.int (nI (av S 2 (fd S x)))) (As := [Value.int (nI (fd S x))]) (rest := []) ⟨hx, hb, hml, hown, ht⟩ (c_rd_guardianOf l D g a S hB (fd S x) (by omega)) (cwV 1 ht (gdV m_172 m_173 m_174 m_2 m_175) rfl rfl rfl (by decide +kernel) ⟨Nat.le_of_ble_eq_true rfl, Nat.le_of_ble_eq_true rfl⟩) (va_recv hK hP (ci := 3) (q0 := 1) rfl rfl) hP hK rfl hl.1 rfl (Nat.le_of_ble_eq_true rfl) dX5_blocked_23 ⟨Nat.zero_le _, Nat.zero_le _⟩ ?_
    have b_guardianOf25 : av S 2 (fd S x) ≤ 60 := hB.2 2 _
    refine lv_istore (lv' := [(5, Value.int (nI (av S 2 (fd S x)))), (4, Value.int (nI (fd S x))), (0, Value.ref (a 0)), (1, Value.int x), (2, Value.long d)]) hx hb dX5_blocked_26 hl (by decide) rfl (fun ls hl => ?_)
    refine lv_iconst (v := (nI 0)) hx hb dX5_blocked_28 (by decide) ?_
    refine lv_istore (lv' := [(6, Value.int (nI 0)), (5, Value.int (nI (av S 2 (fd S x)))), (4, Value.int (nI (fd S x))), (0, Value.ref (a 0)), (1, Value.int x), (2, Value.long d)]) hx hb dX5_blocked_29 hl (by decide) rfl (fun ls hl => ?_)
    have lp31 : ∀ (f31 : Nat) (so : Nat), so ≤ 6 → bkF S (fd S x) (av S 2 (fd S x)) d f31 so = bkV S x d → 7 ≤ so + f31 → ∀ (ls : Array Slot), lv_has ls 7 [(6, Value.int (nI so)), (5, Value.int (nI (av S 2 (fd S x)))), (4, Value.int (nI (fd S x))), (0, Value.ref (a 0)), (1, Value.int x), (2, Value.long d)] → W p l e (headSpec wsX5_blocked ({ frames := 1, cells := 0, slots := 0, locals := 26 } : Room)).room s m ([Value.ref (a 0), Value.int x, Value.long d] : List Value).toArray below meth c s.heap [] 0 0 (MQ below (k2_QcV (Value.int (bkV S x d))) ([Value.ref (a 0), Value.int x, Value.long d] : List Value).toArray s 0 0 (fun _ => False)) (F0 m 31 ls []) := by
      intro f31
      induction f31 with
      | zero =>
        intro so hso hv hfu
        exact absurd hfu (by omega)
      | succ f31 ih31 =>
        intro so hso hv hfu ls hl
        refine lv_iload hx hb dX5_blocked_31 (lv_at hl 0 rfl) ?_
        refine lv_bipush (v := (nI 6)) hx hb dX5_blocked_33 (by decide) ?_
        refine r_icmp_ge (tgt := 85) hx hb dX5_blocked_35 (by decide) (by omega) (by omega) (fun c35 => ?_) (fun c35 => ?_)
        · refine lv_iconst (v := (-1)) hx hb dX5_blocked_85 (by decide) ?_
          have hv9 : (-1) = (bkV S x d) := by rw [← hv]; simp only [bkF, if_neg c12, if_pos c35]
          exact W.iret (v := (-1)) hx hb hr (fun t ht hW => ⟨congrArg (fun z => Outcome.returned (some (Value.int z))) hv9, ht⟩) (fun _ h => by cases h) dX5_blocked_86
        · refine lv_aload_n hx hb dX5_blocked_38 rfl (lv_at hl 3 rfl) ?_
          refine va_get (D := D) (ci := 5) (v := Value.ref (a 1)) (C := "ReaderRows") (T := TX5) (N := 6) hx hb ht inX5 hown hK hP 0 rfl rfl 0 (by decide) (ht _ m_138) (fun _ h9 => h9) rfl dX5_blocked_39 ?_
          refine lv_iload hx hb dX5_blocked_42 (lv_at hl 2 rfl) ?_
          refine lv_iload hx hb dX5_blocked_44 (lv_at hl 0 rfl) ?_
          refine lv_lload_n hx hb dX5_blocked_46 rfl (lv_at hl 5 rfl) ?_
          refine r_callR (r := Value.int (nI (bN (hbk S (fd S x) so d)))) (As := [Value.int (nI (fd S x)), Value.int (nI so), Value.long d]) (rest := []) ⟨hx, hb, hml, hown, ht⟩ (c_rd_hasBlock l D g a S hB (fd S x) so d (by omega) (by omega)) (cwV 3 ht (gdV m_228 m_229 m_230 m_2 m_231) rfl rfl rfl (by decide +kernel) ⟨Nat.le_of_ble_eq_true rfl, Nat.le_of_ble_eq_true rfl⟩) (va_recv hK hP (ci := 3) (q0 := 1) rfl rfl) hP hK rfl hl.1 rfl (Nat.le_of_ble_eq_true rfl) dX5_blocked_47 ⟨Nat.zero_le _, Nat.zero_le _⟩ ?_
          refine r_if_eq_b (tgt := 56) hx hb dX5_blocked_50 (by decide) (fun c50 => ?_) (fun c50 => ?_)
          · refine lv_iload hx hb dX5_blocked_56 (lv_at hl 1 rfl) ?_
            refine r_if_eq_n (tgt := 79) hx hb dX5_blocked_58 (by decide) (by omega) (fun c58 => ?_) (fun c58 => ?_)
            · refine lv_iinc (v := (nI (so + 1))) (lv' := [(6, Value.int (nI (so + 1))), (5, Value.int (nI (av S 2 (fd S x)))), (4, Value.int (nI (fd S x))), (0, Value.ref (a 0)), (1, Value.int x), (2, Value.long d)]) hx hb dX5_blocked_79 hl (k := 0) rfl (r_inc1 _) (by decide) rfl (fun ls hl => ?_)
              refine lv_goto (tgt := 31) hx hb dX5_blocked_82 (by decide) ?_
              exact ih31 (so + 1) (by omega) (by (simp only [bkF, if_neg c12, if_neg c35, if_neg c50, if_pos c58] at hv; exact hv)) (by omega)  ls (lv_sub hl [0, 1, 2, 3, 4, 5] rfl)
            · refine lv_aload_n hx hb dX5_blocked_61 rfl (lv_at hl 3 rfl) ?_
              refine va_get (D := D) (ci := 5) (v := Value.ref (a 1)) (C := "ReaderRows") (T := TX5) (N := 6) hx hb ht inX5 hown hK hP 0 rfl rfl 0 (by decide) (ht _ m_138) (fun _ h9 => h9) rfl dX5_blocked_62 ?_
              refine lv_iload hx hb dX5_blocked_65 (lv_at hl 1 rfl) ?_
              refine lv_iload hx hb dX5_blocked_67 (lv_at hl 0 rfl) ?_
              refine lv_lload_n hx hb dX5_blocked_69 rfl (lv_at hl 5 rfl) ?_
              refine r_callR (r := Value.int (nI (bN (hbk S (av S 2 (fd S x)) so d)))) (As := [Value.int (nI (av S 2 (fd S x))), Value.int (nI so), Value.long d]) (rest := []) ⟨hx, hb, hml, hown, ht⟩ (c_rd_hasBlock l D g a S hB (av S 2 (fd S x)) so d (by omega) (by omega)) (cwV 3 ht (gdV m_228 m_229 m_230 m_2 m_231) rfl rfl rfl (by decide +kernel) ⟨Nat.le_of_ble_eq_true rfl, Nat.le_of_ble_eq_true rfl⟩) (va_recv hK hP (ci := 3) (q0 := 1) rfl rfl) hP hK rfl hl.1 rfl (Nat.le_of_ble_eq_true rfl) dX5_blocked_70 ⟨Nat.zero_le _, Nat.zero_le _⟩ ?_
              refine r_if_eq_b (tgt := 79) hx hb dX5_blocked_73 (by decide) (fun c73 => ?_) (fun c73 => ?_)
              · refine lv_iinc (v := (nI (so + 1))) (lv' := [(6, Value.int (nI (so + 1))), (5, Value.int (nI (av S 2 (fd S x)))), (4, Value.int (nI (fd S x))), (0, Value.ref (a 0)), (1, Value.int x), (2, Value.long d)]) hx hb dX5_blocked_79 hl (k := 0) rfl (r_inc1 _) (by decide) rfl (fun ls hl => ?_)
                refine lv_goto (tgt := 31) hx hb dX5_blocked_82 (by decide) ?_
                exact ih31 (so + 1) (by omega) (by (simp only [bkF, if_neg c12, if_neg c35, if_neg c50, if_neg c58, if_neg c73] at hv; exact hv)) (by omega)  ls (lv_sub hl [0, 1, 2, 3, 4, 5] rfl)
              · refine lv_iload hx hb dX5_blocked_76 (lv_at hl 0 rfl) ?_
                have hv9 : (nI so) = (bkV S x d) := by rw [← hv]; simp only [bkF, if_neg c12, if_neg c35, if_neg c50, if_neg c58, if_pos c73]
                exact W.iret (v := (nI so)) hx hb hr (fun t ht hW => ⟨congrArg (fun z => Outcome.returned (some (Value.int z))) hv9, ht⟩) (fun _ h => by cases h) dX5_blocked_78
          · refine lv_iload hx hb dX5_blocked_53 (lv_at hl 0 rfl) ?_
            have hv9 : (nI so) = (bkV S x d) := by rw [← hv]; simp only [bkF, if_neg c12, if_neg c35, if_pos c50]
            exact W.iret (v := (nI so)) hx hb hr (fun t ht hW => ⟨congrArg (fun z => Outcome.returned (some (Value.int z))) hv9, ht⟩) (fun _ h => by cases h) dX5_blocked_55
    exact lp31 7 0 (by omega) (by simp only [bkV, if_neg c12]) (by omega)  ls (lv_sub hl [0, 1, 2, 3, 4, 5] rfl)
  · refine lv_iconst (v := (-1)) hx hb dX5_blocked_15 (by decide) ?_
    have hv9 : (-1) = (bkV S x d) := by simp only [bkV, if_pos c12]
    exact W.iret (v := (-1)) hx hb hr (fun t ht hW => ⟨congrArg (fun z => Outcome.returned (some (Value.int z))) hv9, ht⟩) (fun _ h => by cases h) dX5_blocked_16

set_option maxRecDepth 100000 in
set_option maxHeartbeats 4000000 in
theorem c_rr_consent (l : Launch) (D : va_G) (g : Nat → ClassId) (a : Nat → Nat) (hD : ∀ S : St, va_D (cA a) (clW g a S))  (S : St) (hB : cbd S) (x : Int32) (y : Nat) (d : Int64) (hy : y ≤ 1) : Met l yX5_consent wsX5_consent ({ frames := 4, cells := 0, slots := 0, locals := 93 } : Room) (va_Pc [Value.ref (a 0), Value.int x, Value.int (nI y), Value.long d] (wPre D vwCl (clW g a S) (clT g))) (wQ (some (Value.int ((cnsP S x y d).1))) D vwCl (clW g a ((cnsP S x y d).2)) (cA a) (cbd ((cnsP S x y d).2))) 0 0 (cA a) := by
  refine Met.ofW (cc := cX5_consent) (maxL := 7) (ret := (some .int)) (by decide) rfl ?_
  intro p e s m args below meth c s₁ B hml hv
  obtain ⟨rfl, hP, hK⟩ := hv
  have hx := B.exec
  have hb := B.bytes
  have hr := B.returns
  have hts := atoms_spec (ws := wsX5_consent) B.pre
  have ht := fun (w : Cond) (h : w ∈ lw_g) => hts w (List.mem_cons_of_mem _ h)
  have hown : s.vm.findClass "ReaderRows" = some m.cls := findClass_of_methodNamed B.named
  have hlocks := B.notSynchronized
  have hS : va_S (cA a) s.heap s.heap [] := va_S.rf
  have hl := lv_entry ([Value.ref (a 0), Value.int x, Value.int (nI y), Value.long d]) (n := 7) (Nat.le_of_ble_eq_true rfl)
  rw [lg_entry_eq]
  generalize (lg_sl ([Value.ref (a 0), Value.int x, Value.int (nI y), Value.long d]) ++ List.replicate (7 - (lg_sl ([Value.ref (a 0), Value.int x, Value.int (nI y), Value.long d])).length) Slot.unset).toArray = ls at hl ⊢
  have hl : lv_has ls 7 [(0, Value.ref (a 0)), (1, Value.int x), (2, Value.int (nI y)), (3, Value.long d)] := hl
  refine lv_aload_n hx hb dX5_consent_0 rfl (lv_at hl 0 rfl) ?_
  refine va_get (D := D) (ci := 5) (v := Value.ref (a 1)) (C := "ReaderRows") (T := TX5) (N := 6) hx hb ht inX5 hown hK hP 0 rfl rfl 0 (by decide) (ht _ m_138) (fun _ h9 => h9) rfl dX5_consent_1 ?_
  refine lv_iload_n hx hb dX5_consent_4 rfl (lv_at hl 1 rfl) ?_
  refine r_callR (r := Value.int (nI (fd S x))) (As := [Value.int x]) (rest := []) ⟨hx, hb, hml, hown, ht⟩ (c_rd_find l D g a S hB x) (cwV 1 ht (gdV m_168 m_169 m_170 m_2 m_171) rfl rfl rfl (by decide +kernel) ⟨Nat.le_of_ble_eq_true rfl, Nat.le_of_ble_eq_true rfl⟩) (va_recv hK hP (ci := 3) (q0 := 1) rfl rfl) hP hK rfl hl.1 rfl (Nat.le_of_ble_eq_true rfl) dX5_consent_5 ⟨Nat.zero_le _, Nat.zero_le _⟩ ?_
  have b_fd18 : fd S x ≤ 60 := fd_le hB _
  refine lv_istore (lv' := [(5, Value.int (nI (fd S x))), (0, Value.ref (a 0)), (1, Value.int x), (2, Value.int (nI y)), (3, Value.long d)]) hx hb dX5_consent_8 hl (by decide) rfl (fun ls hl => ?_)
  refine lv_iload hx hb dX5_consent_10 (lv_at hl 0 rfl) ?_
  refine r_if_eq_n (tgt := 22) hx hb dX5_consent_12 (by decide) (by omega) (fun c12 => ?_) (fun c12 => ?_)
  · refine lv_iconst (v := (-1)) hx hb dX5_consent_22 (by decide) ?_
    have hv9 : (-1) = ((cnsP S x y d).1) := by first | (simp only [cnsP, if_pos c12]; done) | (with_reducible rfl) | (simp only [cnsP, if_pos c12]; rfl) | rfl | (simp [cnsP, c12]; done)
    have hs9 : S = ((cnsP S x y d).2) := by first | (simp only [cnsP, if_pos c12]; done) | (with_reducible rfl) | (simp only [cnsP, if_pos c12]; rfl) | rfl | (simp [cnsP, c12]; done)
    exact W.iret (v := (-1)) hx hb hr (fun t ht hW => ⟨congrArg (fun z => Outcome.returned (some (Value.int z))) hv9, by rw [ht, ← hs9]; exact hP, hS.F ht, by rw [← hs9]; exact hB⟩) hS.2.2 dX5_consent_23
  · refine lv_lload_n hx hb dX5_consent_15 rfl (lv_at hl 4 rfl) ?_
    refine r_callS (As := [Value.long d]) (rest := []) ⟨hx, hb, hml, hown, ht⟩ (c_rr_isDay l d) (cwS 1 ht (gdS m_216 m_217 m_1 m_218) rfl rfl rfl (by decide +kernel) ⟨Nat.le_of_ble_eq_true rfl, Nat.le_of_ble_eq_true rfl⟩) rfl hl.1 rfl (Nat.le_of_ble_eq_true rfl) dX5_consent_16 ⟨Nat.zero_le _, Nat.zero_le _⟩ ?_
    refine r_if_ne_b (tgt := 24) hx hb dX5_consent_19 (by decide) (fun c19 => ?_) (fun c19 => ?_)
    · refine lv_aload_n hx hb dX5_consent_24 rfl (lv_at hl 1 rfl) ?_
      refine va_get (D := D) (ci := 5) (v := Value.ref (a 1)) (C := "ReaderRows") (T := TX5) (N := 6) hx hb ht inX5 hown hK hP 0 rfl rfl 0 (by decide) (ht _ m_138) (fun _ h9 => h9) rfl dX5_consent_25 ?_
      refine lv_iload hx hb dX5_consent_28 (lv_at hl 0 rfl) ?_
      refine r_callR (r := Value.int (nI (av S 3 (fd S x)))) (As := [Value.int (nI (fd S x))]) (rest := []) ⟨hx, hb, hml, hown, ht⟩ (c_rd_hasConsent l D g a S hB (fd S x) (by omega)) (cwV 1 ht (gdV m_236 m_237 m_238 m_2 m_239) rfl rfl rfl (by decide +kernel) ⟨Nat.le_of_ble_eq_true rfl, Nat.le_of_ble_eq_true rfl⟩) (va_recv hK hP (ci := 3) (q0 := 1) rfl rfl) hP hK rfl hl.1 rfl (Nat.le_of_ble_eq_true rfl) dX5_consent_30 ⟨Nat.zero_le _, Nat.zero_le _⟩ ?_
      have b_hasConsent33 : av S 3 (fd S x) ≤ 1 := hB.2 3 _
      refine r_if_eq_n (tgt := 44) hx hb dX5_consent_33 (by decide) (by omega) (fun c33 => ?_) (fun c33 => ?_)
      · refine lv_iconst (v := (nI 0)) hx hb dX5_consent_44 (by decide) ?_
        refine lv_istore (lv' := [(6, Value.int (nI 0)), (5, Value.int (nI (fd S x))), (0, Value.ref (a 0)), (1, Value.int x), (2, Value.int (nI y)), (3, Value.long d)]) hx hb dX5_consent_45 hl (by decide) rfl (fun ls hl => ?_)
        refine lv_aload_n hx hb dX5_consent_47 rfl (lv_at hl 2 rfl) ?_
        refine va_get (D := D) (ci := 5) (v := Value.ref (a 1)) (C := "ReaderRows") (T := TX5) (N := 6) hx hb ht inX5 hown hK hP 0 rfl rfl 0 (by decide) (ht _ m_138) (fun _ h9 => h9) rfl dX5_consent_48 ?_
        refine lv_iload hx hb dX5_consent_51 (lv_at hl 1 rfl) ?_
        refine lv_iload_n hx hb dX5_consent_53 rfl (lv_at hl 4 rfl) ?_
        refine r_callW (st' := []) (As := [Value.int (nI (fd S x)), Value.int (nI y)]) (rest := []) ⟨hx, hb, hml, hown, ht⟩ (c_rd_setConsent l D g a hD S hB (fd S x) y (by omega) (by omega)) (cwV 2 ht (gdV m_240 m_241 m_242 m_2 m_243) rfl rfl rfl (by decide +kernel) ⟨Nat.le_of_ble_eq_true rfl, Nat.le_of_ble_eq_true rfl⟩) (va_recv hK hP (ci := 3) (q0 := 1) rfl rfl) hP hK rfl hS rfl hl.1 rfl (Nat.le_of_ble_eq_true rfl) dX5_consent_54 ⟨Nat.zero_le _, Nat.zero_le _⟩ (fun H locs hP hS hB => ?_)
        refine lv_iload hx hb dX5_consent_57 (lv_at hl 0 rfl) ?_
        refine r_if_eq_n (tgt := 72) hx hb dX5_consent_59 (by decide) (by omega) (fun c59 => ?_) (fun c59 => ?_)
        · refine lv_iconst (v := (nI 0)) hx hb dX5_consent_72 (by decide) ?_
          have hv9 : (nI 0) = ((cnsP S x y d).1) := by first | (simp only [cnsP, if_neg c12, if_pos c19, if_pos c33, if_pos c59]; done) | (with_reducible rfl) | (simp only [cnsP, if_neg c12, if_pos c19, if_pos c33, if_pos c59]; rfl) | rfl | (simp [cnsP, c12, c19, c33, c59]; done)
          have hs9 : (sa S 3 (fd S x) y) = ((cnsP S x y d).2) := by first | (simp only [cnsP, if_neg c12, if_pos c19, if_pos c33, if_pos c59]; done) | (with_reducible rfl) | (simp only [cnsP, if_neg c12, if_pos c19, if_pos c33, if_pos c59]; rfl) | rfl | (simp [cnsP, c12, c19, c33, c59]; done)
          exact W.iret (v := (nI 0)) hx hb hr (fun t ht hW => ⟨congrArg (fun z => Outcome.returned (some (Value.int z))) hv9, by rw [ht, ← hs9]; exact hP, hS.F ht, by rw [← hs9]; exact hB⟩) hS.2.2 dX5_consent_73
        · exact absurd c59 (by decide)
      · refine lv_iload_n hx hb dX5_consent_36 rfl (lv_at hl 3 rfl) ?_
        refine r_if_ne_n (tgt := 44) hx hb dX5_consent_37 (by decide) (by omega) (fun c37 => ?_) (fun c37 => ?_)
        · refine lv_iconst (v := (nI 0)) hx hb dX5_consent_44 (by decide) ?_
          refine lv_istore (lv' := [(6, Value.int (nI 0)), (5, Value.int (nI (fd S x))), (0, Value.ref (a 0)), (1, Value.int x), (2, Value.int (nI y)), (3, Value.long d)]) hx hb dX5_consent_45 hl (by decide) rfl (fun ls hl => ?_)
          refine lv_aload_n hx hb dX5_consent_47 rfl (lv_at hl 2 rfl) ?_
          refine va_get (D := D) (ci := 5) (v := Value.ref (a 1)) (C := "ReaderRows") (T := TX5) (N := 6) hx hb ht inX5 hown hK hP 0 rfl rfl 0 (by decide) (ht _ m_138) (fun _ h9 => h9) rfl dX5_consent_48 ?_
          refine lv_iload hx hb dX5_consent_51 (lv_at hl 1 rfl) ?_
          refine lv_iload_n hx hb dX5_consent_53 rfl (lv_at hl 4 rfl) ?_
          refine r_callW (st' := []) (As := [Value.int (nI (fd S x)), Value.int (nI y)]) (rest := []) ⟨hx, hb, hml, hown, ht⟩ (c_rd_setConsent l D g a hD S hB (fd S x) y (by omega) (by omega)) (cwV 2 ht (gdV m_240 m_241 m_242 m_2 m_243) rfl rfl rfl (by decide +kernel) ⟨Nat.le_of_ble_eq_true rfl, Nat.le_of_ble_eq_true rfl⟩) (va_recv hK hP (ci := 3) (q0 := 1) rfl rfl) hP hK rfl hS rfl hl.1 rfl (Nat.le_of_ble_eq_true rfl) dX5_consent_54 ⟨Nat.zero_le _, Nat.zero_le _⟩ (fun H locs hP hS hB => ?_)
          refine lv_iload hx hb dX5_consent_57 (lv_at hl 0 rfl) ?_
          refine r_if_eq_n (tgt := 72) hx hb dX5_consent_59 (by decide) (by omega) (fun c59 => ?_) (fun c59 => ?_)
          · refine lv_iconst (v := (nI 0)) hx hb dX5_consent_72 (by decide) ?_
            have hv9 : (nI 0) = ((cnsP S x y d).1) := by first | (simp only [cnsP, if_neg c12, if_pos c19, if_neg c33, if_neg c37, if_pos c59]; done) | (with_reducible rfl) | (simp only [cnsP, if_neg c12, if_pos c19, if_neg c33, if_neg c37, if_pos c59]; rfl) | rfl | (simp [cnsP, c12, c19, c33, c37, c59]; done)
            have hs9 : (sa S 3 (fd S x) y) = ((cnsP S x y d).2) := by first | (simp only [cnsP, if_neg c12, if_pos c19, if_neg c33, if_neg c37, if_pos c59]; done) | (with_reducible rfl) | (simp only [cnsP, if_neg c12, if_pos c19, if_neg c33, if_neg c37, if_pos c59]; rfl) | rfl | (simp [cnsP, c12, c19, c33, c37, c59]; done)
            exact W.iret (v := (nI 0)) hx hb hr (fun t ht hW => ⟨congrArg (fun z => Outcome.returned (some (Value.int z))) hv9, by rw [ht, ← hs9]; exact hP, hS.F ht, by rw [← hs9]; exact hB⟩) hS.2.2 dX5_consent_73
          · exact absurd c59 (by decide)
        · refine lv_iconst (v := (nI 1)) hx hb dX5_consent_40 (by decide) ?_
          refine lv_goto (tgt := 45) hx hb dX5_consent_41 (by decide) ?_
          refine lv_istore (lv' := [(6, Value.int (nI 1)), (5, Value.int (nI (fd S x))), (0, Value.ref (a 0)), (1, Value.int x), (2, Value.int (nI y)), (3, Value.long d)]) hx hb dX5_consent_45 hl (by decide) rfl (fun ls hl => ?_)
          refine lv_aload_n hx hb dX5_consent_47 rfl (lv_at hl 2 rfl) ?_
          refine va_get (D := D) (ci := 5) (v := Value.ref (a 1)) (C := "ReaderRows") (T := TX5) (N := 6) hx hb ht inX5 hown hK hP 0 rfl rfl 0 (by decide) (ht _ m_138) (fun _ h9 => h9) rfl dX5_consent_48 ?_
          refine lv_iload hx hb dX5_consent_51 (lv_at hl 1 rfl) ?_
          refine lv_iload_n hx hb dX5_consent_53 rfl (lv_at hl 4 rfl) ?_
          refine r_callW (st' := []) (As := [Value.int (nI (fd S x)), Value.int (nI y)]) (rest := []) ⟨hx, hb, hml, hown, ht⟩ (c_rd_setConsent l D g a hD S hB (fd S x) y (by omega) (by omega)) (cwV 2 ht (gdV m_240 m_241 m_242 m_2 m_243) rfl rfl rfl (by decide +kernel) ⟨Nat.le_of_ble_eq_true rfl, Nat.le_of_ble_eq_true rfl⟩) (va_recv hK hP (ci := 3) (q0 := 1) rfl rfl) hP hK rfl hS rfl hl.1 rfl (Nat.le_of_ble_eq_true rfl) dX5_consent_54 ⟨Nat.zero_le _, Nat.zero_le _⟩ (fun H locs hP hS hB => ?_)
          refine lv_iload hx hb dX5_consent_57 (lv_at hl 0 rfl) ?_
          refine r_if_eq_n (tgt := 72) hx hb dX5_consent_59 (by decide) (by omega) (fun c59 => ?_) (fun c59 => ?_)
          · exact absurd c59 (by decide)
          · refine lv_aload_n hx hb dX5_consent_62 rfl (lv_at hl 2 rfl) ?_
            refine lv_iload hx hb dX5_consent_63 (lv_at hl 1 rfl) ?_
            refine lv_lload_n hx hb dX5_consent_65 rfl (lv_at hl 5 rfl) ?_
            refine r_callW (st' := [Value.int (nI ((alP (sa S 3 (fd S x) y) (fd S x) d).1))]) (As := [Value.int (nI (fd S x)), Value.long d]) (rest := []) ⟨hx, hb, hml, hown, ht⟩ (c_rr_anonymiseLoansOf l D g a hD (sa S 3 (fd S x) y) hB (fd S x) d (by omega)) (cwV 2 ht (gdV m_244 m_246 ms_1 m_1 m_247) rfl rfl rfl (by decide +kernel) ⟨Nat.le_of_ble_eq_true rfl, Nat.le_of_ble_eq_true rfl⟩) (va_recv hK hP (ci := 5) (q0 := 0) rfl rfl) hP hK rfl hS rfl hl.1 rfl (Nat.le_of_ble_eq_true rfl) dX5_consent_66 ⟨Nat.zero_le _, Nat.zero_le _⟩ (fun H locs hP hS hB => ?_)
            refine lv_goto (tgt := 73) hx hb dX5_consent_69 (by decide) ?_
            have hv9 : (nI ((alP (sa S 3 (fd S x) y) (fd S x) d).1)) = ((cnsP S x y d).1) := by first | (simp only [cnsP, if_neg c12, if_pos c19, if_neg c33, if_pos c37, if_neg c59]; done) | (with_reducible rfl) | (simp only [cnsP, if_neg c12, if_pos c19, if_neg c33, if_pos c37, if_neg c59]; rfl) | rfl | (simp [cnsP, c12, c19, c33, c37, c59]; done)
            have hs9 : ((alP (sa S 3 (fd S x) y) (fd S x) d).2) = ((cnsP S x y d).2) := by first | (simp only [cnsP, if_neg c12, if_pos c19, if_neg c33, if_pos c37, if_neg c59]; done) | (with_reducible rfl) | (simp only [cnsP, if_neg c12, if_pos c19, if_neg c33, if_pos c37, if_neg c59]; rfl) | rfl | (simp [cnsP, c12, c19, c33, c37, c59]; done)
            exact W.iret (v := (nI ((alP (sa S 3 (fd S x) y) (fd S x) d).1))) hx hb hr (fun t ht hW => ⟨congrArg (fun z => Outcome.returned (some (Value.int z))) hv9, by rw [ht, ← hs9]; exact hP, hS.F ht, by rw [← hs9]; exact hB⟩) hS.2.2 dX5_consent_73
    · refine lv_iconst (v := (-1)) hx hb dX5_consent_22 (by decide) ?_
      have hv9 : (-1) = ((cnsP S x y d).1) := by first | (simp only [cnsP, if_neg c12, if_neg c19]; done) | (with_reducible rfl) | (simp only [cnsP, if_neg c12, if_neg c19]; rfl) | rfl | (simp [cnsP, c12, c19]; done)
      have hs9 : S = ((cnsP S x y d).2) := by first | (simp only [cnsP, if_neg c12, if_neg c19]; done) | (with_reducible rfl) | (simp only [cnsP, if_neg c12, if_neg c19]; rfl) | rfl | (simp [cnsP, c12, c19]; done)
      exact W.iret (v := (-1)) hx hb hr (fun t ht hW => ⟨congrArg (fun z => Outcome.returned (some (Value.int z))) hv9, by rw [ht, ← hs9]; exact hP, hS.F ht, by rw [← hs9]; exact hB⟩) hS.2.2 dX5_consent_23

set_option maxRecDepth 100000 in
set_option maxHeartbeats 4000000 in
theorem c_rr_keeps (l : Launch) (D : va_G) (g : Nat → ClassId) (a : Nat → Nat) (hD : ∀ S : St, va_D (cA a) (clW g a S))  (S : St) (hB : cbd S) (x ds : Int32) : Met l yX5_keeps wsX5_keeps ({ frames := 1, cells := 0, slots := 0, locals := 20 } : Room) (va_Pc [Value.ref (a 0), Value.int x, Value.int ds] (wPre D vwCl (clW g a S) (clT g))) (wQ (some (Value.int ((kpsP S x ds).1))) D vwCl (clW g a ((kpsP S x ds).2)) (cA a) (cbd ((kpsP S x ds).2))) 0 0 (cA a) := by
  refine Met.ofW (cc := cX5_keeps) (maxL := 4) (ret := (some .int)) (by decide) rfl ?_
  intro p e s m args below meth c s₁ B hml hv
  obtain ⟨rfl, hP, hK⟩ := hv
  have hx := B.exec
  have hb := B.bytes
  have hr := B.returns
  have hts := atoms_spec (ws := wsX5_keeps) B.pre
  have ht := fun (w : Cond) (h : w ∈ lw_g) => hts w (List.mem_cons_of_mem _ h)
  have hown : s.vm.findClass "ReaderRows" = some m.cls := findClass_of_methodNamed B.named
  have hlocks := B.notSynchronized
  have hS : va_S (cA a) s.heap s.heap [] := va_S.rf
  have hl := lv_entry ([Value.ref (a 0), Value.int x, Value.int ds]) (n := 4) (Nat.le_of_ble_eq_true rfl)
  rw [lg_entry_eq]
  generalize (lg_sl ([Value.ref (a 0), Value.int x, Value.int ds]) ++ List.replicate (4 - (lg_sl ([Value.ref (a 0), Value.int x, Value.int ds])).length) Slot.unset).toArray = ls at hl ⊢
  have hl : lv_has ls 4 [(0, Value.ref (a 0)), (1, Value.int x), (2, Value.int ds)] := hl
  refine lv_iload_n hx hb dX5_keeps_0 rfl (lv_at hl 1 rfl) ?_
  refine r_callS (As := [Value.int x]) (rest := []) ⟨hx, hb, hml, hown, ht⟩ (c_rr_isKind l x) (cwS 1 ht (gdS m_161 m_162 m_1 m_163) rfl rfl rfl (by decide +kernel) ⟨Nat.le_of_ble_eq_true rfl, Nat.le_of_ble_eq_true rfl⟩) rfl hl.1 rfl (Nat.le_of_ble_eq_true rfl) dX5_keeps_1 ⟨Nat.zero_le _, Nat.zero_le _⟩ ?_
  refine r_if_eq_b (tgt := 17) hx hb dX5_keeps_4 (by decide) (fun c4 => ?_) (fun c4 => ?_)
  · refine lv_iconst (v := (-1)) hx hb dX5_keeps_17 (by decide) ?_
    have hv9 : (-1) = ((kpsP S x ds).1) := by first | (simp only [kpsP, if_neg c4]; done) | (simp only [kpsP, if_neg c4, nI_clamp (show k < 2 ^ 31 by omega)]; done) | (simp only [kpsP, if_neg c4, nI_clamp (show k < 2 ^ 31 by omega), nI_clamp (show dn < 2 ^ 31 by omega)]; done)
    have hs9 : S = ((kpsP S x ds).2) := by first | (simp only [kpsP, if_neg c4]; done) | (simp only [kpsP, if_neg c4, nI_clamp (show k < 2 ^ 31 by omega)]; done) | (simp only [kpsP, if_neg c4, nI_clamp (show k < 2 ^ 31 by omega), nI_clamp (show dn < 2 ^ 31 by omega)]; done)
    exact W.iret (v := (-1)) hx hb hr (fun t ht hW => ⟨congrArg (fun z => Outcome.returned (some (Value.int z))) hv9, by rw [ht, ← hs9]; exact hP, hS.F ht, by rw [← hs9]; exact hB⟩) hS.2.2 dX5_keeps_18
  · obtain ⟨k, hk, rfl⟩ := r_kind (by decide) c4.1 c4.2
    refine lv_iload_n hx hb dX5_keeps_7 rfl (lv_at hl 2 rfl) ?_
    refine lv_if_lt (tgt := 17) hx hb dX5_keeps_8 (by decide) (fun c8 => ?_) (fun c8 => ?_)
    · refine lv_iconst (v := (-1)) hx hb dX5_keeps_17 (by decide) ?_
      have hv9 : (-1) = ((kpsP S (nI k) ds).1) := by first | (simp only [kpsP, if_pos c4, if_pos c8]; done) | (simp only [kpsP, if_pos c4, if_pos c8, nI_clamp (show k < 2 ^ 31 by omega)]; done) | (simp only [kpsP, if_pos c4, if_pos c8, nI_clamp (show k < 2 ^ 31 by omega), nI_clamp (show dn < 2 ^ 31 by omega)]; done)
      have hs9 : S = ((kpsP S (nI k) ds).2) := by first | (simp only [kpsP, if_pos c4, if_pos c8]; done) | (simp only [kpsP, if_pos c4, if_pos c8, nI_clamp (show k < 2 ^ 31 by omega)]; done) | (simp only [kpsP, if_pos c4, if_pos c8, nI_clamp (show k < 2 ^ 31 by omega), nI_clamp (show dn < 2 ^ 31 by omega)]; done)
      exact W.iret (v := (-1)) hx hb hr (fun t ht hW => ⟨congrArg (fun z => Outcome.returned (some (Value.int z))) hv9, by rw [ht, ← hs9]; exact hP, hS.F ht, by rw [← hs9]; exact hB⟩) hS.2.2 dX5_keeps_18
    · refine lv_iload_n hx hb dX5_keeps_11 rfl (lv_at hl 2 rfl) ?_
      refine lv_ldc (v := 100000) hx hb hown (ht _ m_284) dX5_keeps_12 ?_
      refine lv_icmp_le (tgt := 19) hx hb dX5_keeps_14 (by decide) (fun c14 => ?_) (fun c14 => ?_)
      · obtain ⟨dn, hdn, rfl⟩ := nI_of2 (n := 100000) (by decide) c8 c14
        refine lv_aload_n hx hb dX5_keeps_19 rfl (lv_at hl 0 rfl) ?_
        refine va_get (D := D) (ci := 5) (v := Value.ref (a 6)) (C := "ReaderRows") (T := TX5) (N := 6) hx hb ht inX5 hown hK hP 0 rfl rfl 5 (by decide) (ht _ m_143) (fun _ h9 => h9) rfl dX5_keeps_20 ?_
        refine lv_iload_n hx hb dX5_keeps_23 rfl (lv_at hl 1 rfl) ?_
        refine r_iald_n (f := av S 15) hx hb hK hP 6 0 rfl rfl (i := k) (show _ < 5 by first | omega | (simp only [Nat.lt_iff_add_one_le] at *; omega)) (by decide) dX5_keeps_24 ?_
        have b_V15_24 : av S 15 k ≤ 100000 := hB.2 15 k
        refine lv_istore_n (lv' := [(3, Value.int (nI (av S 15 k))), (0, Value.ref (a 0)), (1, Value.int (nI k)), (2, Value.int (nI dn))]) hx hb dX5_keeps_25 rfl hl (by decide) rfl (fun ls hl => ?_)
        refine lv_aload_n hx hb dX5_keeps_26 rfl (lv_at hl 1 rfl) ?_
        refine va_get (D := D) (ci := 5) (v := Value.ref (a 6)) (C := "ReaderRows") (T := TX5) (N := 6) hx hb ht inX5 hown hK hP 0 rfl rfl 5 (by decide) (ht _ m_143) (fun _ h9 => h9) rfl dX5_keeps_27 ?_
        refine lv_iload_n hx hb dX5_keeps_30 rfl (lv_at hl 2 rfl) ?_
        refine lv_iload_n hx hb dX5_keeps_31 rfl (lv_at hl 3 rfl) ?_
        refine r_iast_n (f := av S 15) hx hb hK hP (hD _) hS 6 0 rfl rfl (i := k) (x := dn) (show _ < 5 by omega) (by decide) dX5_keeps_32 (fun H locs hP hD1 hS => ?_)
        have hP : va_P D vwCl (clW g a (sa S 15 k dn)) H := hP
        clear hD1
        have hB : cbd (sa S 15 k dn) := bd_sa hB (show dn ≤ 100000 by first | assumption | omega)
        refine lv_iload_n hx hb dX5_keeps_33 rfl (lv_at hl 0 rfl) ?_
        have hv9 : (nI (av S 15 k)) = ((kpsP S (nI k) (nI dn)).1) := by first | (simp only [kpsP, if_pos c4, if_neg c8, if_pos c14]; done) | (simp only [kpsP, if_pos c4, if_neg c8, if_pos c14, nI_clamp (show k < 2 ^ 31 by omega)]; done) | (simp only [kpsP, if_pos c4, if_neg c8, if_pos c14, nI_clamp (show k < 2 ^ 31 by omega), nI_clamp (show dn < 2 ^ 31 by omega)]; done)
        have hs9 : (sa S 15 k dn) = ((kpsP S (nI k) (nI dn)).2) := by first | (simp only [kpsP, if_pos c4, if_neg c8, if_pos c14]; done) | (simp only [kpsP, if_pos c4, if_neg c8, if_pos c14, nI_clamp (show k < 2 ^ 31 by omega)]; done) | (simp only [kpsP, if_pos c4, if_neg c8, if_pos c14, nI_clamp (show k < 2 ^ 31 by omega), nI_clamp (show dn < 2 ^ 31 by omega)]; done)
        exact W.iret (v := (nI (av S 15 k))) hx hb hr (fun t ht hW => ⟨congrArg (fun z => Outcome.returned (some (Value.int z))) hv9, by rw [ht, ← hs9]; exact hP, hS.F ht, by rw [← hs9]; exact hB⟩) hS.2.2 dX5_keeps_34
      · refine lv_iconst (v := (-1)) hx hb dX5_keeps_17 (by decide) ?_
        have hv9 : (-1) = ((kpsP S (nI k) ds).1) := by first | (simp only [kpsP, if_pos c4, if_neg c8, if_neg c14]; done) | (simp only [kpsP, if_pos c4, if_neg c8, if_neg c14, nI_clamp (show k < 2 ^ 31 by omega)]; done) | (simp only [kpsP, if_pos c4, if_neg c8, if_neg c14, nI_clamp (show k < 2 ^ 31 by omega), nI_clamp (show dn < 2 ^ 31 by omega)]; done)
        have hs9 : S = ((kpsP S (nI k) ds).2) := by first | (simp only [kpsP, if_pos c4, if_neg c8, if_neg c14]; done) | (simp only [kpsP, if_pos c4, if_neg c8, if_neg c14, nI_clamp (show k < 2 ^ 31 by omega)]; done) | (simp only [kpsP, if_pos c4, if_neg c8, if_neg c14, nI_clamp (show k < 2 ^ 31 by omega), nI_clamp (show dn < 2 ^ 31 by omega)]; done)
        exact W.iret (v := (-1)) hx hb hr (fun t ht hW => ⟨congrArg (fun z => Outcome.returned (some (Value.int z))) hv9, by rw [ht, ← hs9]; exact hP, hS.F ht, by rw [← hs9]; exact hB⟩) hS.2.2 dX5_keeps_18

set_option maxRecDepth 100000 in
set_option maxHeartbeats 4000000 in
theorem c_rr_loan (l : Launch) (D : va_G) (g : Nat → ClassId) (a : Nat → Nat) (hD : ∀ S : St, va_D (cA a) (clW g a S))  (S : St) (hB : cbd S) (x it : Int32) (fr to : Int64) : Met l yX5_loan wsX5_loan ({ frames := 2, cells := 0, slots := 0, locals := 49 } : Room) (va_Pc [Value.ref (a 0), Value.int x, Value.int it, Value.long fr, Value.long to] (wPre D vwCl (clW g a S) (clT g))) (wQ (some (Value.int (nI ((lonP S x it fr to).1)))) D vwCl (clW g a ((lonP S x it fr to).2)) (cA a) (cbd ((lonP S x it fr to).2))) 0 0 (cA a) := by
  refine Met.ofW (cc := cX5_loan) (maxL := 8) (ret := (some .int)) (by decide) rfl ?_
  intro p e s m args below meth c s₁ B hml hv
  obtain ⟨rfl, hP, hK⟩ := hv
  have hx := B.exec
  have hb := B.bytes
  have hr := B.returns
  have hts := atoms_spec (ws := wsX5_loan) B.pre
  have ht := fun (w : Cond) (h : w ∈ lw_g) => hts w (List.mem_cons_of_mem _ h)
  have hown : s.vm.findClass "ReaderRows" = some m.cls := findClass_of_methodNamed B.named
  have hlocks := B.notSynchronized
  have hS : va_S (cA a) s.heap s.heap [] := va_S.rf
  have hl := lv_entry ([Value.ref (a 0), Value.int x, Value.int it, Value.long fr, Value.long to]) (n := 8) (Nat.le_of_ble_eq_true rfl)
  rw [lg_entry_eq]
  generalize (lg_sl ([Value.ref (a 0), Value.int x, Value.int it, Value.long fr, Value.long to]) ++ List.replicate (8 - (lg_sl ([Value.ref (a 0), Value.int x, Value.int it, Value.long fr, Value.long to])).length) Slot.unset).toArray = ls at hl ⊢
  have hl : lv_has ls 8 [(0, Value.ref (a 0)), (1, Value.int x), (2, Value.int it), (3, Value.long fr), (5, Value.long to)] := hl
  refine lv_aload_n hx hb dX5_loan_0 rfl (lv_at hl 0 rfl) ?_
  refine va_get (D := D) (ci := 5) (v := Value.ref (a 1)) (C := "ReaderRows") (T := TX5) (N := 6) hx hb ht inX5 hown hK hP 0 rfl rfl 0 (by decide) (ht _ m_138) (fun _ h9 => h9) rfl dX5_loan_1 ?_
  refine lv_iload_n hx hb dX5_loan_4 rfl (lv_at hl 1 rfl) ?_
  refine r_callR (r := Value.int (nI (fd S x))) (As := [Value.int x]) (rest := []) ⟨hx, hb, hml, hown, ht⟩ (c_rd_find l D g a S hB x) (cwV 1 ht (gdV m_168 m_169 m_170 m_2 m_171) rfl rfl rfl (by decide +kernel) ⟨Nat.le_of_ble_eq_true rfl, Nat.le_of_ble_eq_true rfl⟩) (va_recv hK hP (ci := 3) (q0 := 1) rfl rfl) hP hK rfl hl.1 rfl (Nat.le_of_ble_eq_true rfl) dX5_loan_5 ⟨Nat.zero_le _, Nat.zero_le _⟩ ?_
  have b_fd18 : fd S x ≤ 60 := fd_le hB _
  refine lv_istore (lv' := [(7, Value.int (nI (fd S x))), (0, Value.ref (a 0)), (1, Value.int x), (2, Value.int it), (3, Value.long fr), (5, Value.long to)]) hx hb dX5_loan_8 hl (by decide) rfl (fun ls hl => ?_)
  refine lv_iload hx hb dX5_loan_10 (lv_at hl 0 rfl) ?_
  refine r_if_eq_n (tgt := 37) hx hb dX5_loan_12 (by decide) (by omega) (fun c12 => ?_) (fun c12 => ?_)
  · refine lv_iconst (v := (nI 0)) hx hb dX5_loan_37 (by decide) ?_
    have hv9 : (nI 0) = (nI ((lonP S x it fr to).1)) := by first | (simp only [lonP, if_pos c12]; done) | (with_reducible rfl) | (simp only [lonP, if_pos c12]; rfl) | rfl | (simp [lonP, c12]; done)
    have hs9 : S = ((lonP S x it fr to).2) := by first | (simp only [lonP, if_pos c12]; done) | (with_reducible rfl) | (simp only [lonP, if_pos c12]; rfl) | rfl | (simp [lonP, c12]; done)
    exact W.iret (v := (nI 0)) hx hb hr (fun t ht hW => ⟨congrArg (fun z => Outcome.returned (some (Value.int z))) hv9, by rw [ht, ← hs9]; exact hP, hS.F ht, by rw [← hs9]; exact hB⟩) hS.2.2 dX5_loan_38
  · refine lv_lload_n hx hb dX5_loan_15 rfl (lv_at hl 4 rfl) ?_
    refine r_callS (As := [Value.long fr]) (rest := []) ⟨hx, hb, hml, hown, ht⟩ (c_rr_isDay l fr) (cwS 1 ht (gdS m_216 m_217 m_1 m_218) rfl rfl rfl (by decide +kernel) ⟨Nat.le_of_ble_eq_true rfl, Nat.le_of_ble_eq_true rfl⟩) rfl hl.1 rfl (Nat.le_of_ble_eq_true rfl) dX5_loan_16 ⟨Nat.zero_le _, Nat.zero_le _⟩ ?_
    refine r_if_eq_b (tgt := 37) hx hb dX5_loan_19 (by decide) (fun c19 => ?_) (fun c19 => ?_)
    · refine lv_iconst (v := (nI 0)) hx hb dX5_loan_37 (by decide) ?_
      have hv9 : (nI 0) = (nI ((lonP S x it fr to).1)) := by first | (simp only [lonP, if_neg c12, if_neg c19]; done) | (with_reducible rfl) | (simp only [lonP, if_neg c12, if_neg c19]; rfl) | rfl | (simp [lonP, c12, c19]; done)
      have hs9 : S = ((lonP S x it fr to).2) := by first | (simp only [lonP, if_neg c12, if_neg c19]; done) | (with_reducible rfl) | (simp only [lonP, if_neg c12, if_neg c19]; rfl) | rfl | (simp [lonP, c12, c19]; done)
      exact W.iret (v := (nI 0)) hx hb hr (fun t ht hW => ⟨congrArg (fun z => Outcome.returned (some (Value.int z))) hv9, by rw [ht, ← hs9]; exact hP, hS.F ht, by rw [← hs9]; exact hB⟩) hS.2.2 dX5_loan_38
    · refine lv_lload hx hb dX5_loan_22 (lv_at hl 5 rfl) ?_
      refine r_callS (As := [Value.long to]) (rest := []) ⟨hx, hb, hml, hown, ht⟩ (c_rr_isDay l to) (cwS 1 ht (gdS m_216 m_217 m_1 m_218) rfl rfl rfl (by decide +kernel) ⟨Nat.le_of_ble_eq_true rfl, Nat.le_of_ble_eq_true rfl⟩) rfl hl.1 rfl (Nat.le_of_ble_eq_true rfl) dX5_loan_24 ⟨Nat.zero_le _, Nat.zero_le _⟩ ?_
      refine r_if_eq_b (tgt := 37) hx hb dX5_loan_27 (by decide) (fun c27 => ?_) (fun c27 => ?_)
      · refine lv_iconst (v := (nI 0)) hx hb dX5_loan_37 (by decide) ?_
        have hv9 : (nI 0) = (nI ((lonP S x it fr to).1)) := by first | (simp only [lonP, if_neg c12, if_pos c19, if_neg c27]; done) | (with_reducible rfl) | (simp only [lonP, if_neg c12, if_pos c19, if_neg c27]; rfl) | rfl | (simp [lonP, c12, c19, c27]; done)
        have hs9 : S = ((lonP S x it fr to).2) := by first | (simp only [lonP, if_neg c12, if_pos c19, if_neg c27]; done) | (with_reducible rfl) | (simp only [lonP, if_neg c12, if_pos c19, if_neg c27]; rfl) | rfl | (simp [lonP, c12, c19, c27]; done)
        exact W.iret (v := (nI 0)) hx hb hr (fun t ht hW => ⟨congrArg (fun z => Outcome.returned (some (Value.int z))) hv9, by rw [ht, ← hs9]; exact hP, hS.F ht, by rw [← hs9]; exact hB⟩) hS.2.2 dX5_loan_38
      · refine lv_lload_n hx hb dX5_loan_30 rfl (lv_at hl 4 rfl) ?_
        refine lv_lload hx hb dX5_loan_31 (lv_at hl 5 rfl) ?_
        refine W.lcmp hx hb dX5_loan_33 ?_
        refine r_lc_le (tgt := 39) hx hb dX5_loan_34 (by decide) (fun c34 => ?_) (fun c34 => ?_)
        · refine lv_aload_n hx hb dX5_loan_39 rfl (lv_at hl 1 rfl) ?_
          refine va_get (D := D) (ci := 5) (v := Value.ref (a 4)) (C := "ReaderRows") (T := TX5) (N := 6) hx hb ht inX5 hown hK hP 0 rfl rfl 3 (by decide) (ht _ m_141) (fun _ h9 => h9) rfl dX5_loan_40 ?_
          refine lv_iload hx hb dX5_loan_43 (lv_at hl 0 rfl) ?_
          refine lv_aload_n hx hb dX5_loan_45 rfl (lv_at hl 1 rfl) ?_
          refine va_get (D := D) (ci := 5) (v := Value.ref (a 1)) (C := "ReaderRows") (T := TX5) (N := 6) hx hb ht inX5 hown hK hP 0 rfl rfl 0 (by decide) (ht _ m_138) (fun _ h9 => h9) rfl dX5_loan_46 ?_
          refine lv_iload hx hb dX5_loan_49 (lv_at hl 0 rfl) ?_
          refine r_callR (r := Value.int (nI (av S 1 (fd S x)))) (As := [Value.int (nI (fd S x))]) (rest := [Value.int (nI (fd S x)), Value.ref (a 4)]) ⟨hx, hb, hml, hown, ht⟩ (c_rd_kindOf l D g a S hB (fd S x) (by omega)) (cwV 1 ht (gdV m_272 m_273 m_274 m_2 m_275) rfl rfl rfl (by decide +kernel) ⟨Nat.le_of_ble_eq_true rfl, Nat.le_of_ble_eq_true rfl⟩) (va_recv hK hP (ci := 3) (q0 := 1) rfl rfl) hP hK rfl hl.1 rfl (Nat.le_of_ble_eq_true rfl) dX5_loan_51 ⟨Nat.zero_le _, Nat.zero_le _⟩ ?_
          have b_kindOf51 : av S 1 (fd S x) ≤ 4 := hB.2 1 _
          refine lv_iload_n hx hb dX5_loan_54 rfl (lv_at hl 3 rfl) ?_
          refine lv_lload_n hx hb dX5_loan_55 rfl (lv_at hl 4 rfl) ?_
          refine lv_lload hx hb dX5_loan_56 (lv_at hl 5 rfl) ?_
          refine r_callW (st' := [Value.int (nI (laV S))]) (As := [Value.int (nI (fd S x)), Value.int (nI (av S 1 (fd S x))), Value.int it, Value.long fr, Value.long to]) (rest := []) ⟨hx, hb, hml, hown, ht⟩ (c_lo_add l D g a hD S hB (fd S x) (av S 1 (fd S x)) it fr to (by omega) (by omega)) (cwV 5 ht (gdV m_289 m_290 m_291 m_5 m_292) rfl rfl rfl (by decide +kernel) ⟨Nat.le_of_ble_eq_true rfl, Nat.le_of_ble_eq_true rfl⟩) (va_recv hK hP (ci := 1) (q0 := 4) rfl rfl) hP hK rfl hS rfl hl.1 rfl (Nat.le_of_ble_eq_true rfl) dX5_loan_58 ⟨Nat.zero_le _, Nat.zero_le _⟩ (fun H locs hP hS hB => ?_)
          have hv9 : (nI (laV S)) = (nI ((lonP S x it fr to).1)) := by first | (simp only [lonP, if_neg c12, if_pos c19, if_pos c27, if_pos c34]; done) | (with_reducible rfl) | (simp only [lonP, if_neg c12, if_pos c19, if_pos c27, if_pos c34]; rfl) | rfl | (simp [lonP, c12, c19, c27, c34]; done)
          have hs9 : (laS S (fd S x) (av S 1 (fd S x)) it fr to) = ((lonP S x it fr to).2) := by first | (simp only [lonP, if_neg c12, if_pos c19, if_pos c27, if_pos c34]; done) | (with_reducible rfl) | (simp only [lonP, if_neg c12, if_pos c19, if_pos c27, if_pos c34]; rfl) | rfl | (simp [lonP, c12, c19, c27, c34]; done)
          exact W.iret (v := (nI (laV S))) hx hb hr (fun t ht hW => ⟨congrArg (fun z => Outcome.returned (some (Value.int z))) hv9, by rw [ht, ← hs9]; exact hP, hS.F ht, by rw [← hs9]; exact hB⟩) hS.2.2 dX5_loan_61
        · refine lv_iconst (v := (nI 0)) hx hb dX5_loan_37 (by decide) ?_
          have hv9 : (nI 0) = (nI ((lonP S x it fr to).1)) := by first | (simp only [lonP, if_neg c12, if_pos c19, if_pos c27, if_neg c34]; done) | (with_reducible rfl) | (simp only [lonP, if_neg c12, if_pos c19, if_pos c27, if_neg c34]; rfl) | rfl | (simp [lonP, c12, c19, c27, c34]; done)
          have hs9 : S = ((lonP S x it fr to).2) := by first | (simp only [lonP, if_neg c12, if_pos c19, if_pos c27, if_neg c34]; done) | (with_reducible rfl) | (simp only [lonP, if_neg c12, if_pos c19, if_pos c27, if_neg c34]; rfl) | rfl | (simp [lonP, c12, c19, c27, c34]; done)
          exact W.iret (v := (nI 0)) hx hb hr (fun t ht hW => ⟨congrArg (fun z => Outcome.returned (some (Value.int z))) hv9, by rw [ht, ← hs9]; exact hP, hS.F ht, by rw [← hs9]; exact hB⟩) hS.2.2 dX5_loan_38

set_option maxRecDepth 100000 in
set_option maxHeartbeats 4000000 in
theorem c_rr_kept (l : Launch) (D : va_G) (g : Nat → ClassId) (a : Nat → Nat)  (S : St) (hB : cbd S) (x i : Int32) (d : Int64) : Met l yX5_kept wsX5_kept ({ frames := 2, cells := 0, slots := 0, locals := 45 } : Room) (va_Pc [Value.ref (a 0), Value.int x, Value.int i, Value.long d] (wPre D vwCl (clW g a S) (clT g))) (k2_QcV (Value.int (kepV S x i d))) 0 0 (fun _ => False) := by
  refine Met.ofW (cc := cX5_kept) (maxL := 9) (ret := (some .int)) (by decide) rfl ?_
  intro p e s m args below meth c s₁ B hml hv
  obtain ⟨rfl, hP, hK⟩ := hv
  have hx := B.exec
  have hb := B.bytes
  have hr := B.returns
  have hts := atoms_spec (ws := wsX5_kept) B.pre
  have ht := fun (w : Cond) (h : w ∈ lw_g) => hts w (List.mem_cons_of_mem _ h)
  have hown : s.vm.findClass "ReaderRows" = some m.cls := findClass_of_methodNamed B.named
  have hlocks := B.notSynchronized
  have hl := lv_entry ([Value.ref (a 0), Value.int x, Value.int i, Value.long d]) (n := 9) (Nat.le_of_ble_eq_true rfl)
  rw [lg_entry_eq]
  generalize (lg_sl ([Value.ref (a 0), Value.int x, Value.int i, Value.long d]) ++ List.replicate (9 - (lg_sl ([Value.ref (a 0), Value.int x, Value.int i, Value.long d])).length) Slot.unset).toArray = ls at hl ⊢
  have hl : lv_has ls 9 [(0, Value.ref (a 0)), (1, Value.int x), (2, Value.int i), (3, Value.long d)] := hl
  refine lv_aload_n hx hb dX5_kept_0 rfl (lv_at hl 0 rfl) ?_
  refine va_get (D := D) (ci := 5) (v := Value.ref (a 1)) (C := "ReaderRows") (T := TX5) (N := 6) hx hb ht inX5 hown hK hP 0 rfl rfl 0 (by decide) (ht _ m_138) (fun _ h9 => h9) rfl dX5_kept_1 ?_
  refine lv_iload_n hx hb dX5_kept_4 rfl (lv_at hl 1 rfl) ?_
  refine r_callR (r := Value.int (nI (fd S x))) (As := [Value.int x]) (rest := []) ⟨hx, hb, hml, hown, ht⟩ (c_rd_find l D g a S hB x) (cwV 1 ht (gdV m_168 m_169 m_170 m_2 m_171) rfl rfl rfl (by decide +kernel) ⟨Nat.le_of_ble_eq_true rfl, Nat.le_of_ble_eq_true rfl⟩) (va_recv hK hP (ci := 3) (q0 := 1) rfl rfl) hP hK rfl hl.1 rfl (Nat.le_of_ble_eq_true rfl) dX5_kept_5 ⟨Nat.zero_le _, Nat.zero_le _⟩ ?_
  have b_fd17 : fd S x ≤ 60 := fd_le hB _
  refine lv_istore (lv' := [(5, Value.int (nI (fd S x))), (0, Value.ref (a 0)), (1, Value.int x), (2, Value.int i), (3, Value.long d)]) hx hb dX5_kept_8 hl (by decide) rfl (fun ls hl => ?_)
  refine lv_iload hx hb dX5_kept_10 (lv_at hl 0 rfl) ?_
  refine r_if_ne_n (tgt := 18) hx hb dX5_kept_12 (by decide) (by omega) (fun c12 => ?_) (fun c12 => ?_)
  · refine lv_iconst (v := (nI 0)) hx hb dX5_kept_18 (by decide) ?_
    refine lv_istore (lv' := [(6, Value.int (nI 0)), (5, Value.int (nI (fd S x))), (0, Value.ref (a 0)), (1, Value.int x), (2, Value.int i), (3, Value.long d)]) hx hb dX5_kept_19 hl (by decide) rfl (fun ls hl => ?_)
    refine lv_iconst (v := (nI 0)) hx hb dX5_kept_21 (by decide) ?_
    refine lv_istore (lv' := [(7, Value.int (nI 0)), (6, Value.int (nI 0)), (5, Value.int (nI (fd S x))), (0, Value.ref (a 0)), (1, Value.int x), (2, Value.int i), (3, Value.long d)]) hx hb dX5_kept_22 hl (by decide) rfl (fun ls hl => ?_)
    have lp24 : ∀ (f24 : Nat) (z : Nat) (pl : Nat), pl ≤ nv S 2 → kepF S (fd S x) i d f24 pl z = kepV S x i d → nv S 2 + 1 ≤ pl + f24 → ∀ (ls : Array Slot), lv_has ls 9 [(7, Value.int (nI pl)), (6, Value.int (nI z)), (5, Value.int (nI (fd S x))), (0, Value.ref (a 0)), (1, Value.int x), (2, Value.int i), (3, Value.long d)] → W p l e (headSpec wsX5_kept ({ frames := 2, cells := 0, slots := 0, locals := 45 } : Room)).room s m ([Value.ref (a 0), Value.int x, Value.int i, Value.long d] : List Value).toArray below meth c s.heap [] 0 0 (MQ below (k2_QcV (Value.int (kepV S x i d))) ([Value.ref (a 0), Value.int x, Value.int i, Value.long d] : List Value).toArray s 0 0 (fun _ => False)) (F0 m 24 ls []) := by
      intro f24
      induction f24 with
      | zero =>
        intro z pl hp hv hfu
        exact absurd hfu (by omega)
      | succ f24 ih24 =>
        intro z pl hp hv hfu ls hl
        have b_N2 : nv S 2 ≤ 200 := hB.1 2
        refine lv_iload hx hb dX5_kept_24 (lv_at hl 0 rfl) ?_
        refine lv_aload_n hx hb dX5_kept_26 rfl (lv_at hl 3 rfl) ?_
        refine va_get (D := D) (ci := 5) (v := Value.ref (a 4)) (C := "ReaderRows") (T := TX5) (N := 6) hx hb ht inX5 hown hK hP 0 rfl rfl 3 (by decide) (ht _ m_141) (fun _ h9 => h9) rfl dX5_kept_27 ?_
        refine r_callR (r := Value.int (nI (nv S 2))) (As := []) (rest := [Value.int (nI pl)]) ⟨hx, hb, hml, hown, ht⟩ (c_lo_count l D g a S hB ) (cwV 0 ht (gdV m_248 m_249 m_250 m_5 m_251) rfl rfl rfl (by decide +kernel) ⟨Nat.le_of_ble_eq_true rfl, Nat.le_of_ble_eq_true rfl⟩) (va_recv hK hP (ci := 1) (q0 := 4) rfl rfl) hP hK rfl hl.1 rfl (Nat.le_of_ble_eq_true rfl) dX5_kept_30 ⟨Nat.zero_le _, Nat.zero_le _⟩ ?_
        have b_lc : nv S 2 ≤ 200 := hB.1 2
        refine r_icmp_ge (tgt := 96) hx hb dX5_kept_33 (by decide) (by omega) (by omega) (fun c33 => ?_) (fun c33 => ?_)
        · refine lv_ldc (v := (-1000000007)) hx hb hown (ht _ m_301) dX5_kept_96 ?_
          have hv9 : (-1000000007) = (kepV S x i d) := by rw [← hv]; simp only [kepF, if_neg c12, if_pos c33]
          exact W.iret (v := (-1000000007)) hx hb hr (fun t ht hW => ⟨congrArg (fun z => Outcome.returned (some (Value.int z))) hv9, ht⟩) (fun _ h => by cases h) dX5_kept_98
        · refine lv_aload_n hx hb dX5_kept_36 rfl (lv_at hl 3 rfl) ?_
          refine va_get (D := D) (ci := 5) (v := Value.ref (a 4)) (C := "ReaderRows") (T := TX5) (N := 6) hx hb ht inX5 hown hK hP 0 rfl rfl 3 (by decide) (ht _ m_141) (fun _ h9 => h9) rfl dX5_kept_37 ?_
          refine lv_iload hx hb dX5_kept_40 (lv_at hl 0 rfl) ?_
          refine r_callR (r := Value.int (nI (av S 13 pl))) (As := [Value.int (nI pl)]) (rest := []) ⟨hx, hb, hml, hown, ht⟩ (c_lo_atPlace l D g a S hB pl (by omega)) (cwV 1 ht (gdV m_302 m_303 m_304 m_5 m_305) rfl rfl rfl (by decide +kernel) ⟨Nat.le_of_ble_eq_true rfl, Nat.le_of_ble_eq_true rfl⟩) (va_recv hK hP (ci := 1) (q0 := 4) rfl rfl) hP hK rfl hl.1 rfl (Nat.le_of_ble_eq_true rfl) dX5_kept_42 ⟨Nat.zero_le _, Nat.zero_le _⟩ ?_
          have b_atPlace47 : av S 13 pl ≤ 199 := hB.2 13 _
          refine lv_istore (lv' := [(8, Value.int (nI (av S 13 pl))), (7, Value.int (nI pl)), (6, Value.int (nI z)), (5, Value.int (nI (fd S x))), (0, Value.ref (a 0)), (1, Value.int x), (2, Value.int i), (3, Value.long d)]) hx hb dX5_kept_45 hl (by decide) rfl (fun ls hl => ?_)
          refine lv_aload_n hx hb dX5_kept_47 rfl (lv_at hl 4 rfl) ?_
          refine va_get (D := D) (ci := 5) (v := Value.ref (a 4)) (C := "ReaderRows") (T := TX5) (N := 6) hx hb ht inX5 hown hK hP 0 rfl rfl 3 (by decide) (ht _ m_141) (fun _ h9 => h9) rfl dX5_kept_48 ?_
          refine lv_iload hx hb dX5_kept_51 (lv_at hl 0 rfl) ?_
          refine r_callR (r := Value.int (nI (av S 10 (av S 13 pl)))) (As := [Value.int (nI (av S 13 pl))]) (rest := []) ⟨hx, hb, hml, hown, ht⟩ (c_lo_holderOf l D g a S hB (av S 13 pl) (by omega)) (cwV 1 ht (gdV m_252 m_253 m_254 m_5 m_255) rfl rfl rfl (by decide +kernel) ⟨Nat.le_of_ble_eq_true rfl, Nat.le_of_ble_eq_true rfl⟩) (va_recv hK hP (ci := 1) (q0 := 4) rfl rfl) hP hK rfl hl.1 rfl (Nat.le_of_ble_eq_true rfl) dX5_kept_53 ⟨Nat.zero_le _, Nat.zero_le _⟩ ?_
          have b_holderOf53 : av S 10 (av S 13 pl) ≤ 60 := hB.2 10 _
          refine lv_iload hx hb dX5_kept_56 (lv_at hl 3 rfl) ?_
          refine r_icmp_ne (tgt := 90) hx hb dX5_kept_58 (by decide) (by omega) (by omega) (fun c58 => ?_) (fun c58 => ?_)
          · refine lv_iinc (v := (nI (pl + 1))) (lv' := [(7, Value.int (nI (pl + 1))), (8, Value.int (nI (av S 13 pl))), (6, Value.int (nI z)), (5, Value.int (nI (fd S x))), (0, Value.ref (a 0)), (1, Value.int x), (2, Value.int i), (3, Value.long d)]) hx hb dX5_kept_90 hl (k := 1) rfl (r_inc1 _) (by decide) rfl (fun ls hl => ?_)
            refine lv_goto (tgt := 24) hx hb dX5_kept_93 (by decide) ?_
            exact ih24 z (pl + 1) (by omega) (by (simp only [kepF, if_neg c12, if_neg c33, if_neg c58] at hv; exact hv)) (by omega)  ls (lv_sub hl [0, 2, 3, 4, 5, 6, 7] rfl)
          · refine lv_aload_n hx hb dX5_kept_61 rfl (lv_at hl 4 rfl) ?_
            refine lv_iload hx hb dX5_kept_62 (lv_at hl 0 rfl) ?_
            refine lv_lload_n hx hb dX5_kept_64 rfl (lv_at hl 7 rfl) ?_
            refine r_callR (r := Value.int (nI (kp S (av S 13 pl) d))) (As := [Value.int (nI (av S 13 pl)), Value.long d]) (rest := []) ⟨hx, hb, hml, hown, ht⟩ (c_rr_isKept l D g a S hB (av S 13 pl) d (by omega)) (cwV 2 ht (gdV m_264 m_266 ms_3 m_1 m_267) rfl rfl rfl (by decide +kernel) ⟨Nat.le_of_ble_eq_true rfl, Nat.le_of_ble_eq_true rfl⟩) (va_recv hK hP (ci := 5) (q0 := 0) rfl rfl) hP hK rfl hl.1 rfl (Nat.le_of_ble_eq_true rfl) dX5_kept_65 ⟨Nat.zero_le _, Nat.zero_le _⟩ ?_
            have b_kp63 : kp S (av S 13 pl) d ≤ 1 := kp_le _ _ _
            refine r_if_eq_n (tgt := 90) hx hb dX5_kept_68 (by decide) (by omega) (fun c68 => ?_) (fun c68 => ?_)
            · refine lv_iinc (v := (nI (pl + 1))) (lv' := [(7, Value.int (nI (pl + 1))), (8, Value.int (nI (av S 13 pl))), (6, Value.int (nI z)), (5, Value.int (nI (fd S x))), (0, Value.ref (a 0)), (1, Value.int x), (2, Value.int i), (3, Value.long d)]) hx hb dX5_kept_90 hl (k := 1) rfl (r_inc1 _) (by decide) rfl (fun ls hl => ?_)
              refine lv_goto (tgt := 24) hx hb dX5_kept_93 (by decide) ?_
              exact ih24 z (pl + 1) (by omega) (by (simp only [kepF, if_neg c12, if_neg c33, if_pos c58, if_pos c68] at hv; exact hv)) (by omega)  ls (lv_sub hl [0, 2, 3, 4, 5, 6, 7] rfl)
            · refine lv_iload hx hb dX5_kept_71 (lv_at hl 2 rfl) ?_
              refine lv_iload_n hx hb dX5_kept_73 rfl (lv_at hl 6 rfl) ?_
              refine lv_icmp_ne (tgt := 87) hx hb dX5_kept_74 (by decide) (fun c74 => ?_) (fun c74 => ?_)
              · refine lv_iinc (v := (nI (z + 1))) (lv' := [(6, Value.int (nI (z + 1))), (8, Value.int (nI (av S 13 pl))), (7, Value.int (nI pl)), (5, Value.int (nI (fd S x))), (0, Value.ref (a 0)), (1, Value.int x), (2, Value.int i), (3, Value.long d)]) hx hb dX5_kept_87 hl (k := 2) rfl (r_inc1 _) (by decide) rfl (fun ls hl => ?_)
                refine lv_iinc (v := (nI (pl + 1))) (lv' := [(7, Value.int (nI (pl + 1))), (6, Value.int (nI (z + 1))), (8, Value.int (nI (av S 13 pl))), (5, Value.int (nI (fd S x))), (0, Value.ref (a 0)), (1, Value.int x), (2, Value.int i), (3, Value.long d)]) hx hb dX5_kept_90 hl (k := 2) rfl (r_inc1 _) (by decide) rfl (fun ls hl => ?_)
                refine lv_goto (tgt := 24) hx hb dX5_kept_93 (by decide) ?_
                exact ih24 (z + 1) (pl + 1) (by omega) (by (simp only [kepF, if_neg c12, if_neg c33, if_pos c58, if_neg c68, if_neg c74] at hv; exact hv)) (by omega)  ls (lv_sub hl [0, 1, 3, 4, 5, 6, 7] rfl)
              · refine lv_aload_n hx hb dX5_kept_77 rfl (lv_at hl 4 rfl) ?_
                refine va_get (D := D) (ci := 5) (v := Value.ref (a 4)) (C := "ReaderRows") (T := TX5) (N := 6) hx hb ht inX5 hown hK hP 0 rfl rfl 3 (by decide) (ht _ m_141) (fun _ h9 => h9) rfl dX5_kept_78 ?_
                refine lv_iload hx hb dX5_kept_81 (lv_at hl 0 rfl) ?_
                refine r_callR (r := Value.int (xv S 1 (av S 13 pl))) (As := [Value.int (nI (av S 13 pl))]) (rest := []) ⟨hx, hb, hml, hown, ht⟩ (c_lo_itemOf l D g a S hB (av S 13 pl) (by omega)) (cwV 1 ht (gdV m_306 m_307 m_308 m_5 m_309) rfl rfl rfl (by decide +kernel) ⟨Nat.le_of_ble_eq_true rfl, Nat.le_of_ble_eq_true rfl⟩) (va_recv hK hP (ci := 1) (q0 := 4) rfl rfl) hP hK rfl hl.1 rfl (Nat.le_of_ble_eq_true rfl) dX5_kept_83 ⟨Nat.zero_le _, Nat.zero_le _⟩ ?_
                have hv9 : (xv S 1 (av S 13 pl)) = (kepV S x i d) := by rw [← hv]; simp only [kepF, if_neg c12, if_neg c33, if_pos c58, if_neg c68, if_pos c74]
                exact W.iret (v := (xv S 1 (av S 13 pl))) hx hb hr (fun t ht hW => ⟨congrArg (fun z => Outcome.returned (some (Value.int z))) hv9, ht⟩) (fun _ h => by cases h) dX5_kept_86
    exact lp24 (nv S 2 + 1) 0 0 (by omega) (by simp only [kepV, if_neg c12]) (by omega)  ls (lv_sub hl [0, 1, 2, 3, 4, 5, 6] rfl)
  · refine lv_ldc (v := (-1000000007)) hx hb hown (ht _ m_301) dX5_kept_15 ?_
    have hv9 : (-1000000007) = (kepV S x i d) := by simp only [kepV, if_pos c12]
    exact W.iret (v := (-1000000007)) hx hb hr (fun t ht hW => ⟨congrArg (fun z => Outcome.returned (some (Value.int z))) hv9, ht⟩) (fun _ h => by cases h) dX5_kept_17

set_option maxRecDepth 100000 in
set_option maxHeartbeats 4000000 in
theorem c_rr_anonymise (l : Launch) (D : va_G) (g : Nat → ClassId) (a : Nat → Nat) (hD : ∀ S : St, va_D (cA a) (clW g a S))  (S : St) (hB : cbd S) (d : Int64) : Met l yX5_anonymise wsX5_anonymise ({ frames := 3, cells := 0, slots := 0, locals := 68 } : Room) (va_Pc [Value.ref (a 0), Value.long d] (wPre D vwCl (clW g a S) (clT g))) (wQ (some (Value.int ((anP S d).1))) D vwCl (clW g a ((anP S d).2)) (cA a) (cbd ((anP S d).2))) 0 0 (cA a) := by
  refine Met.ofW (cc := cX5_anonymise) (maxL := 5) (ret := (some .int)) (by decide) rfl ?_
  intro p e s m args below meth c s₁ B hml hv
  obtain ⟨rfl, hP, hK⟩ := hv
  have hx := B.exec
  have hb := B.bytes
  have hr := B.returns
  have hts := atoms_spec (ws := wsX5_anonymise) B.pre
  have ht := fun (w : Cond) (h : w ∈ lw_g) => hts w (List.mem_cons_of_mem _ h)
  have hown : s.vm.findClass "ReaderRows" = some m.cls := findClass_of_methodNamed B.named
  have hlocks := B.notSynchronized
  have hS : va_S (cA a) s.heap s.heap [] := va_S.rf
  have hl := lv_entry ([Value.ref (a 0), Value.long d]) (n := 5) (Nat.le_of_ble_eq_true rfl)
  rw [lg_entry_eq]
  generalize (lg_sl ([Value.ref (a 0), Value.long d]) ++ List.replicate (5 - (lg_sl ([Value.ref (a 0), Value.long d])).length) Slot.unset).toArray = ls at hl ⊢
  have hl : lv_has ls 5 [(0, Value.ref (a 0)), (1, Value.long d)] := hl
  refine lv_lload_n hx hb dX5_anonymise_0 rfl (lv_at hl 1 rfl) ?_
  refine r_callS (As := [Value.long d]) (rest := []) ⟨hx, hb, hml, hown, ht⟩ (c_rr_isDay l d) (cwS 1 ht (gdS m_216 m_217 m_1 m_218) rfl rfl rfl (by decide +kernel) ⟨Nat.le_of_ble_eq_true rfl, Nat.le_of_ble_eq_true rfl⟩) rfl hl.1 rfl (Nat.le_of_ble_eq_true rfl) dX5_anonymise_1 ⟨Nat.zero_le _, Nat.zero_le _⟩ ?_
  refine r_if_ne_b (tgt := 9) hx hb dX5_anonymise_4 (by decide) (fun c4 => ?_) (fun c4 => ?_)
  · refine lv_iconst (v := (nI 0)) hx hb dX5_anonymise_9 (by decide) ?_
    refine lv_istore_n (lv' := [(3, Value.int (nI 0)), (0, Value.ref (a 0)), (1, Value.long d)]) hx hb dX5_anonymise_10 rfl hl (by decide) rfl (fun ls hl => ?_)
    refine lv_iconst (v := (nI 0)) hx hb dX5_anonymise_11 (by decide) ?_
    refine lv_istore (lv' := [(4, Value.int (nI 0)), (3, Value.int (nI 0)), (0, Value.ref (a 0)), (1, Value.long d)]) hx hb dX5_anonymise_12 hl (by decide) rfl (fun ls hl => ?_)
    have lp14 : ∀ (f14 : Nat) (S1 : St) (z : Nat) (j : Nat), nv S1 2 = nv S 2 → j ≤ nv S 2 → z ≤ j → anF d f14 j z S1 = anT S d → nv S 2 + 1 ≤ j + f14 → cbd S1 → ∀ (H : Heap) (locs : List Loc), va_P D vwCl (clW g a S1) H → va_S (cA a) s.heap H locs → ∀ (ls : Array Slot), lv_has ls 5 [(4, Value.int (nI j)), (3, Value.int (nI z)), (0, Value.ref (a 0)), (1, Value.long d)] → W p l e (headSpec wsX5_anonymise ({ frames := 3, cells := 0, slots := 0, locals := 68 } : Room)).room s m ([Value.ref (a 0), Value.long d] : List Value).toArray below meth c H locs 0 0 (MQ below (wQ (some (Value.int ((anP S d).1))) D vwCl (clW g a ((anP S d).2)) (cA a) (cbd ((anP S d).2))) ([Value.ref (a 0), Value.long d] : List Value).toArray s 0 0 (cA a)) (F0 m 14 ls []) := by
      intro f14
      induction f14 with
      | zero =>
        intro S1 z j hc hp hz hv hfu
        exact absurd hfu (by omega)
      | succ f14 ih14 =>
        intro S1 z j hc hp hz hv hfu hB H locs hP hS ls hl
        refine lv_iload hx hb dX5_anonymise_14 (lv_at hl 0 rfl) ?_
        refine lv_aload_n hx hb dX5_anonymise_16 rfl (lv_at hl 2 rfl) ?_
        refine va_get (D := D) (ci := 5) (v := Value.ref (a 4)) (C := "ReaderRows") (T := TX5) (N := 6) hx hb ht inX5 hown hK hP 0 rfl rfl 3 (by decide) (ht _ m_141) (fun _ h9 => h9) rfl dX5_anonymise_17 ?_
        refine r_callR (r := Value.int (nI (nv S1 2))) (As := []) (rest := [Value.int (nI j)]) ⟨hx, hb, hml, hown, ht⟩ (c_lo_count l D g a S1 hB ) (cwV 0 ht (gdV m_248 m_249 m_250 m_5 m_251) rfl rfl rfl (by decide +kernel) ⟨Nat.le_of_ble_eq_true rfl, Nat.le_of_ble_eq_true rfl⟩) (va_recv hK hP (ci := 1) (q0 := 4) rfl rfl) hP hK rfl hl.1 rfl (Nat.le_of_ble_eq_true rfl) dX5_anonymise_20 ⟨Nat.zero_le _, Nat.zero_le _⟩ ?_
        have b_lc : nv S1 2 ≤ 200 := hB.1 2
        refine r_icmp_ge (tgt := 45) hx hb dX5_anonymise_23 (by decide) (by omega) (by omega) (fun c23 => ?_) (fun c23 => ?_)
        · refine lv_iload_n hx hb dX5_anonymise_45 rfl (lv_at hl 1 rfl) ?_
          have hv9 : (nI z) = ((anP S d).1) := by simp only [anP, if_pos c4]; rw [← hv]; simp only [anF, if_pos c23]
          have hs9 : S1 = ((anP S d).2) := by simp only [anP, if_pos c4]; rw [← hv]; simp only [anF, if_pos c23]
          exact W.iret (v := (nI z)) hx hb hr (fun t ht hW => ⟨congrArg (fun z => Outcome.returned (some (Value.int z))) hv9, by rw [ht, ← hs9]; exact hP, hS.F ht, by rw [← hs9]; exact hB⟩) hS.2.2 dX5_anonymise_46
        · refine lv_aload_n hx hb dX5_anonymise_26 rfl (lv_at hl 2 rfl) ?_
          refine lv_iload hx hb dX5_anonymise_27 (lv_at hl 0 rfl) ?_
          refine lv_lload_n hx hb dX5_anonymise_29 rfl (lv_at hl 3 rfl) ?_
          refine r_callW (st' := [Value.int (nI (auV S1 j d))]) (As := [Value.int (nI j), Value.long d]) (rest := []) ⟨hx, hb, hml, hown, ht⟩ (c_rr_anonymiseUnlessKept l D g a hD S1 hB j d (by omega)) (cwV 2 ht (gdV m_256 m_258 ms_2 m_1 m_259) rfl rfl rfl (by decide +kernel) ⟨Nat.le_of_ble_eq_true rfl, Nat.le_of_ble_eq_true rfl⟩) (va_recv hK hP (ci := 5) (q0 := 0) rfl rfl) hP hK rfl hS rfl hl.1 rfl (Nat.le_of_ble_eq_true rfl) dX5_anonymise_30 ⟨Nat.zero_le _, Nat.zero_le _⟩ (fun H locs hP hS hB => ?_)
          have b_au : auV S1 j d ≤ 1 := auV_le _ _ _
          refine r_if_eq_n (tgt := 39) hx hb dX5_anonymise_33 (by decide) (by omega) (fun c33 => ?_) (fun c33 => ?_)
          · refine lv_iinc (v := (nI (j + 1))) (lv' := [(4, Value.int (nI (j + 1))), (3, Value.int (nI z)), (0, Value.ref (a 0)), (1, Value.long d)]) hx hb dX5_anonymise_39 hl (k := 0) rfl (r_inc1 _) (by decide) rfl (fun ls hl => ?_)
            refine lv_goto (tgt := 14) hx hb dX5_anonymise_42 (by decide) ?_
            exact ih14 (auS S1 j d) z (j + 1) (by first | exact hc | (rw [auS_nv]; exact hc)) (by omega) (by omega) (by (simp only [anF, if_pos c4, if_neg c23, if_pos c33] at hv; exact hv)) (by omega) hB _ _ hP hS ls (lv_sub hl [0, 1, 2, 3] rfl)
          · refine lv_iinc (v := (nI (z + 1))) (lv' := [(3, Value.int (nI (z + 1))), (4, Value.int (nI j)), (0, Value.ref (a 0)), (1, Value.long d)]) hx hb dX5_anonymise_36 hl (k := 1) rfl (r_inc1 _) (by decide) rfl (fun ls hl => ?_)
            refine lv_iinc (v := (nI (j + 1))) (lv' := [(4, Value.int (nI (j + 1))), (3, Value.int (nI (z + 1))), (0, Value.ref (a 0)), (1, Value.long d)]) hx hb dX5_anonymise_39 hl (k := 1) rfl (r_inc1 _) (by decide) rfl (fun ls hl => ?_)
            refine lv_goto (tgt := 14) hx hb dX5_anonymise_42 (by decide) ?_
            exact ih14 (auS S1 j d) (z + 1) (j + 1) (by first | exact hc | (rw [auS_nv]; exact hc)) (by omega) (by omega) (by (simp only [anF, if_pos c4, if_neg c23, if_neg c33] at hv; exact hv)) (by omega) hB _ _ hP hS ls (lv_sub hl [0, 1, 2, 3] rfl)
    exact lp14 (nv S 2 + 1) S 0 0 (by rfl) (by omega) (by omega) (by rfl) (by omega) hB _ _ hP hS ls (lv_sub hl [0, 1, 2, 3] rfl)
  · refine lv_iconst (v := (-1)) hx hb dX5_anonymise_7 (by decide) ?_
    have hv9 : (-1) = ((anP S d).1) := by simp only [anP, if_neg c4]
    have hs9 : S = ((anP S d).2) := by simp only [anP, if_neg c4]
    exact W.iret (v := (-1)) hx hb hr (fun t ht hW => ⟨congrArg (fun z => Outcome.returned (some (Value.int z))) hv9, by rw [ht, ← hs9]; exact hP, hS.F ht, by rw [← hs9]; exact hB⟩) hS.2.2 dX5_anonymise_8

set_option maxRecDepth 100000 in
set_option maxHeartbeats 4000000 in
theorem c_rr_join (l : Launch) (D : va_G) (g : Nat → ClassId) (a : Nat → Nat) (hD : ∀ S : St, va_D (cA a) (clW g a S))  (S : St) (hB : cbd S) (x y : Int32) : Met l yX5_join wsX5_join ({ frames := 2, cells := 0, slots := 0, locals := 56 } : Room) (va_Pc [Value.ref (a 0), Value.int x, Value.int y] (wPre D vwCl (clW g a S) (clT g))) (wQ (some (Value.int (nI ((jonP S x y).1)))) D vwCl (clW g a ((jonP S x y).2)) (cA a) (cbd ((jonP S x y).2))) 0 0 (cA a) := by
  refine Met.ofW (cc := cX5_join) (maxL := 5) (ret := (some .int)) (by decide) rfl ?_
  intro p e s m args below meth c s₁ B hml hv
  obtain ⟨rfl, hP, hK⟩ := hv
  have hx := B.exec
  have hb := B.bytes
  have hr := B.returns
  have hts := atoms_spec (ws := wsX5_join) B.pre
  have ht := fun (w : Cond) (h : w ∈ lw_g) => hts w (List.mem_cons_of_mem _ h)
  have hown : s.vm.findClass "ReaderRows" = some m.cls := findClass_of_methodNamed B.named
  have hlocks := B.notSynchronized
  have hS : va_S (cA a) s.heap s.heap [] := va_S.rf
  have hl := lv_entry ([Value.ref (a 0), Value.int x, Value.int y]) (n := 5) (Nat.le_of_ble_eq_true rfl)
  rw [lg_entry_eq]
  generalize (lg_sl ([Value.ref (a 0), Value.int x, Value.int y]) ++ List.replicate (5 - (lg_sl ([Value.ref (a 0), Value.int x, Value.int y])).length) Slot.unset).toArray = ls at hl ⊢
  have hl : lv_has ls 5 [(0, Value.ref (a 0)), (1, Value.int x), (2, Value.int y)] := hl
  refine lv_aload_n hx hb dX5_join_0 rfl (lv_at hl 0 rfl) ?_
  refine va_get (D := D) (ci := 5) (v := Value.ref (a 1)) (C := "ReaderRows") (T := TX5) (N := 6) hx hb ht inX5 hown hK hP 0 rfl rfl 0 (by decide) (ht _ m_138) (fun _ h9 => h9) rfl dX5_join_1 ?_
  refine lv_iload_n hx hb dX5_join_4 rfl (lv_at hl 1 rfl) ?_
  refine r_callR (r := Value.int (nI (fd S x))) (As := [Value.int x]) (rest := []) ⟨hx, hb, hml, hown, ht⟩ (c_rd_find l D g a S hB x) (cwV 1 ht (gdV m_168 m_169 m_170 m_2 m_171) rfl rfl rfl (by decide +kernel) ⟨Nat.le_of_ble_eq_true rfl, Nat.le_of_ble_eq_true rfl⟩) (va_recv hK hP (ci := 3) (q0 := 1) rfl rfl) hP hK rfl hl.1 rfl (Nat.le_of_ble_eq_true rfl) dX5_join_5 ⟨Nat.zero_le _, Nat.zero_le _⟩ ?_
  have b_fd18 : fd S x ≤ 60 := fd_le hB _
  refine lv_istore_n (lv' := [(3, Value.int (nI (fd S x))), (0, Value.ref (a 0)), (1, Value.int x), (2, Value.int y)]) hx hb dX5_join_8 rfl hl (by decide) rfl (fun ls hl => ?_)
  refine lv_aload_n hx hb dX5_join_9 rfl (lv_at hl 1 rfl) ?_
  refine va_get (D := D) (ci := 5) (v := Value.ref (a 1)) (C := "ReaderRows") (T := TX5) (N := 6) hx hb ht inX5 hown hK hP 0 rfl rfl 0 (by decide) (ht _ m_138) (fun _ h9 => h9) rfl dX5_join_10 ?_
  refine lv_iload_n hx hb dX5_join_13 rfl (lv_at hl 3 rfl) ?_
  refine r_callR (r := Value.int (nI (fd S y))) (As := [Value.int y]) (rest := []) ⟨hx, hb, hml, hown, ht⟩ (c_rd_find l D g a S hB y) (cwV 1 ht (gdV m_168 m_169 m_170 m_2 m_171) rfl rfl rfl (by decide +kernel) ⟨Nat.le_of_ble_eq_true rfl, Nat.le_of_ble_eq_true rfl⟩) (va_recv hK hP (ci := 3) (q0 := 1) rfl rfl) hP hK rfl hl.1 rfl (Nat.le_of_ble_eq_true rfl) dX5_join_14 ⟨Nat.zero_le _, Nat.zero_le _⟩ ?_
  have b_fd24 : fd S y ≤ 60 := fd_le hB _
  refine lv_istore (lv' := [(4, Value.int (nI (fd S y))), (3, Value.int (nI (fd S x))), (0, Value.ref (a 0)), (1, Value.int x), (2, Value.int y)]) hx hb dX5_join_17 hl (by decide) rfl (fun ls hl => ?_)
  refine lv_iload_n hx hb dX5_join_19 rfl (lv_at hl 1 rfl) ?_
  refine r_if_eq_n (tgt := 44) hx hb dX5_join_20 (by decide) (by omega) (fun c20 => ?_) (fun c20 => ?_)
  · refine lv_iconst (v := (nI 0)) hx hb dX5_join_44 (by decide) ?_
    have hv9 : (nI 0) = (nI ((jonP S x y).1)) := by first | (simp only [jonP, if_pos c20]; done) | (with_reducible rfl) | (simp only [jonP, if_pos c20]; rfl) | rfl | (simp [jonP, c20]; done)
    have hs9 : S = ((jonP S x y).2) := by first | (simp only [jonP, if_pos c20]; done) | (with_reducible rfl) | (simp only [jonP, if_pos c20]; rfl) | rfl | (simp [jonP, c20]; done)
    exact W.iret (v := (nI 0)) hx hb hr (fun t ht hW => ⟨congrArg (fun z => Outcome.returned (some (Value.int z))) hv9, by rw [ht, ← hs9]; exact hP, hS.F ht, by rw [← hs9]; exact hB⟩) hS.2.2 dX5_join_45
  · refine lv_iload hx hb dX5_join_23 (lv_at hl 0 rfl) ?_
    refine r_if_eq_n (tgt := 44) hx hb dX5_join_25 (by decide) (by omega) (fun c25 => ?_) (fun c25 => ?_)
    · refine lv_iconst (v := (nI 0)) hx hb dX5_join_44 (by decide) ?_
      have hv9 : (nI 0) = (nI ((jonP S x y).1)) := by first | (simp only [jonP, if_neg c20, if_pos c25]; done) | (with_reducible rfl) | (simp only [jonP, if_neg c20, if_pos c25]; rfl) | rfl | (simp [jonP, c20, c25]; done)
      have hs9 : S = ((jonP S x y).2) := by first | (simp only [jonP, if_neg c20, if_pos c25]; done) | (with_reducible rfl) | (simp only [jonP, if_neg c20, if_pos c25]; rfl) | rfl | (simp [jonP, c20, c25]; done)
      exact W.iret (v := (nI 0)) hx hb hr (fun t ht hW => ⟨congrArg (fun z => Outcome.returned (some (Value.int z))) hv9, by rw [ht, ← hs9]; exact hP, hS.F ht, by rw [← hs9]; exact hB⟩) hS.2.2 dX5_join_45
    · refine lv_iload_n hx hb dX5_join_28 rfl (lv_at hl 1 rfl) ?_
      refine lv_iload hx hb dX5_join_29 (lv_at hl 0 rfl) ?_
      refine r_icmp_eq (tgt := 44) hx hb dX5_join_31 (by decide) (by omega) (by omega) (fun c31 => ?_) (fun c31 => ?_)
      · refine lv_iconst (v := (nI 0)) hx hb dX5_join_44 (by decide) ?_
        have hv9 : (nI 0) = (nI ((jonP S x y).1)) := by first | (simp only [jonP, if_neg c20, if_neg c25, if_pos c31]; done) | (with_reducible rfl) | (simp only [jonP, if_neg c20, if_neg c25, if_pos c31]; rfl) | rfl | (simp [jonP, c20, c25, c31]; done)
        have hs9 : S = ((jonP S x y).2) := by first | (simp only [jonP, if_neg c20, if_neg c25, if_pos c31]; done) | (with_reducible rfl) | (simp only [jonP, if_neg c20, if_neg c25, if_pos c31]; rfl) | rfl | (simp [jonP, c20, c25, c31]; done)
        exact W.iret (v := (nI 0)) hx hb hr (fun t ht hW => ⟨congrArg (fun z => Outcome.returned (some (Value.int z))) hv9, by rw [ht, ← hs9]; exact hP, hS.F ht, by rw [← hs9]; exact hB⟩) hS.2.2 dX5_join_45
      · refine lv_aload_n hx hb dX5_join_34 rfl (lv_at hl 2 rfl) ?_
        refine lv_iload_n hx hb dX5_join_35 rfl (lv_at hl 1 rfl) ?_
        refine lv_iload hx hb dX5_join_36 (lv_at hl 0 rfl) ?_
        refine r_callR (r := Value.int (nI (bN (mjP S (fd S x) (fd S y))))) (As := [Value.int (nI (fd S x)), Value.int (nI (fd S y))]) (rest := []) ⟨hx, hb, hml, hown, ht⟩ (c_rr_mayJoin l D g a S hB (fd S x) (fd S y) (by omega) (by omega)) (cwV 2 ht (gdV m_318 m_320 ms_5 m_1 m_321) rfl rfl rfl (by decide +kernel) ⟨Nat.le_of_ble_eq_true rfl, Nat.le_of_ble_eq_true rfl⟩) (va_recv hK hP (ci := 5) (q0 := 0) rfl rfl) hP hK rfl hl.1 rfl (Nat.le_of_ble_eq_true rfl) dX5_join_38 ⟨Nat.zero_le _, Nat.zero_le _⟩ ?_
        refine r_if_ne_b (tgt := 46) hx hb dX5_join_41 (by decide) (fun c41 => ?_) (fun c41 => ?_)
        · refine lv_aload_n hx hb dX5_join_46 rfl (lv_at hl 2 rfl) ?_
          refine va_get (D := D) (ci := 5) (v := Value.ref (a 1)) (C := "ReaderRows") (T := TX5) (N := 6) hx hb ht inX5 hown hK hP 0 rfl rfl 0 (by decide) (ht _ m_138) (fun _ h9 => h9) rfl dX5_join_47 ?_
          refine lv_iload_n hx hb dX5_join_50 rfl (lv_at hl 1 rfl) ?_
          refine lv_iload hx hb dX5_join_51 (lv_at hl 0 rfl) ?_
          refine r_callW (st' := []) (As := [Value.int (nI (fd S x)), Value.int (nI (fd S y))]) (rest := []) ⟨hx, hb, hml, hown, ht⟩ (c_rd_merge l D g a hD S hB (fd S x) (fd S y) (by omega) (by omega)) (cwV 2 ht (gdV m_326 m_327 m_328 m_2 m_329) rfl rfl rfl (by decide +kernel) ⟨Nat.le_of_ble_eq_true rfl, Nat.le_of_ble_eq_true rfl⟩) (va_recv hK hP (ci := 3) (q0 := 1) rfl rfl) hP hK rfl hS rfl hl.1 rfl (Nat.le_of_ble_eq_true rfl) dX5_join_53 ⟨Nat.zero_le _, Nat.zero_le _⟩ (fun H locs hP hS hB => ?_)
          refine lv_aload_n hx hb dX5_join_56 rfl (lv_at hl 2 rfl) ?_
          refine va_get (D := D) (ci := 5) (v := Value.ref (a 3)) (C := "ReaderRows") (T := TX5) (N := 6) hx hb ht inX5 hown hK hP 0 rfl rfl 2 (by decide) (ht _ m_140) (fun _ h9 => h9) rfl dX5_join_57 ?_
          refine lv_iload_n hx hb dX5_join_60 rfl (lv_at hl 1 rfl) ?_
          refine lv_iload hx hb dX5_join_61 (lv_at hl 0 rfl) ?_
          refine r_callW (st' := []) (As := [Value.int (nI (fd S x)), Value.int (nI (fd S y))]) (rest := []) ⟨hx, hb, hml, hown, ht⟩ (c_ca_moveAll l D g a hD (mgS S (fd S x) (fd S y)) hB (fd S x) (fd S y) (by omega) (by omega)) (cwV 2 ht (gdV m_333 m_334 m_335 m_4 m_336) rfl rfl rfl (by decide +kernel) ⟨Nat.le_of_ble_eq_true rfl, Nat.le_of_ble_eq_true rfl⟩) (va_recv hK hP (ci := 0) (q0 := 3) rfl rfl) hP hK rfl hS rfl hl.1 rfl (Nat.le_of_ble_eq_true rfl) dX5_join_63 ⟨Nat.zero_le _, Nat.zero_le _⟩ (fun H locs hP hS hB => ?_)
          refine lv_aload_n hx hb dX5_join_66 rfl (lv_at hl 2 rfl) ?_
          refine va_get (D := D) (ci := 5) (v := Value.ref (a 4)) (C := "ReaderRows") (T := TX5) (N := 6) hx hb ht inX5 hown hK hP 0 rfl rfl 3 (by decide) (ht _ m_141) (fun _ h9 => h9) rfl dX5_join_67 ?_
          refine lv_iload_n hx hb dX5_join_70 rfl (lv_at hl 1 rfl) ?_
          refine lv_iload hx hb dX5_join_71 (lv_at hl 0 rfl) ?_
          refine r_callW (st' := []) (As := [Value.int (nI (fd S x)), Value.int (nI (fd S y))]) (rest := []) ⟨hx, hb, hml, hown, ht⟩ (c_lo_moveAll l D g a hD (mcS (mgS S (fd S x) (fd S y)) (fd S x) (fd S y)) hB (fd S x) (fd S y) (by omega) (by omega)) (cwV 2 ht (gdV m_337 m_338 m_339 m_5 m_340) rfl rfl rfl (by decide +kernel) ⟨Nat.le_of_ble_eq_true rfl, Nat.le_of_ble_eq_true rfl⟩) (va_recv hK hP (ci := 1) (q0 := 4) rfl rfl) hP hK rfl hS rfl hl.1 rfl (Nat.le_of_ble_eq_true rfl) dX5_join_73 ⟨Nat.zero_le _, Nat.zero_le _⟩ (fun H locs hP hS hB => ?_)
          refine lv_iconst (v := (nI 1)) hx hb dX5_join_76 (by decide) ?_
          have hv9 : (nI 1) = (nI ((jonP S x y).1)) := by first | (simp only [jonP, if_neg c20, if_neg c25, if_neg c31, if_pos c41]; done) | (with_reducible rfl) | (simp only [jonP, if_neg c20, if_neg c25, if_neg c31, if_pos c41]; rfl) | rfl | (simp [jonP, c20, c25, c31, c41]; done)
          have hs9 : (mlS (mcS (mgS S (fd S x) (fd S y)) (fd S x) (fd S y)) (fd S x) (fd S y)) = ((jonP S x y).2) := by first | (simp only [jonP, if_neg c20, if_neg c25, if_neg c31, if_pos c41]; done) | (with_reducible rfl) | (simp only [jonP, if_neg c20, if_neg c25, if_neg c31, if_pos c41]; rfl) | rfl | (simp [jonP, c20, c25, c31, c41]; done)
          exact W.iret (v := (nI 1)) hx hb hr (fun t ht hW => ⟨congrArg (fun z => Outcome.returned (some (Value.int z))) hv9, by rw [ht, ← hs9]; exact hP, hS.F ht, by rw [← hs9]; exact hB⟩) hS.2.2 dX5_join_77
        · refine lv_iconst (v := (nI 0)) hx hb dX5_join_44 (by decide) ?_
          have hv9 : (nI 0) = (nI ((jonP S x y).1)) := by first | (simp only [jonP, if_neg c20, if_neg c25, if_neg c31, if_neg c41]; done) | (with_reducible rfl) | (simp only [jonP, if_neg c20, if_neg c25, if_neg c31, if_neg c41]; rfl) | rfl | (simp [jonP, c20, c25, c31, c41]; done)
          have hs9 : S = ((jonP S x y).2) := by first | (simp only [jonP, if_neg c20, if_neg c25, if_neg c31, if_neg c41]; done) | (with_reducible rfl) | (simp only [jonP, if_neg c20, if_neg c25, if_neg c31, if_neg c41]; rfl) | rfl | (simp [jonP, c20, c25, c31, c41]; done)
          exact W.iret (v := (nI 0)) hx hb hr (fun t ht hW => ⟨congrArg (fun z => Outcome.returned (some (Value.int z))) hv9, by rw [ht, ← hs9]; exact hP, hS.F ht, by rw [← hs9]; exact hB⟩) hS.2.2 dX5_join_45

set_option maxRecDepth 100000 in
set_option maxHeartbeats 4000000 in
theorem c_rr_family (l : Launch) (D : va_G) (g : Nat → ClassId) (a : Nat → Nat)  (S : St) (hB : cbd S) (x i : Int32) : Met l yX5_family wsX5_family ({ frames := 1, cells := 0, slots := 0, locals := 24 } : Room) (va_Pc [Value.ref (a 0), Value.int x, Value.int i] (wPre D vwCl (clW g a S) (clT g))) (k2_QcV (Value.int (nI (famV S x i)))) 0 0 (fun _ => False) := by
  refine Met.ofW (cc := cX5_family) (maxL := 6) (ret := (some .int)) (by decide) rfl ?_
  intro p e s m args below meth c s₁ B hml hv
  obtain ⟨rfl, hP, hK⟩ := hv
  have hx := B.exec
  have hb := B.bytes
  have hr := B.returns
  have hts := atoms_spec (ws := wsX5_family) B.pre
  have ht := fun (w : Cond) (h : w ∈ lw_g) => hts w (List.mem_cons_of_mem _ h)
  have hown : s.vm.findClass "ReaderRows" = some m.cls := findClass_of_methodNamed B.named
  have hlocks := B.notSynchronized
  have hl := lv_entry ([Value.ref (a 0), Value.int x, Value.int i]) (n := 6) (Nat.le_of_ble_eq_true rfl)
  rw [lg_entry_eq]
  generalize (lg_sl ([Value.ref (a 0), Value.int x, Value.int i]) ++ List.replicate (6 - (lg_sl ([Value.ref (a 0), Value.int x, Value.int i])).length) Slot.unset).toArray = ls at hl ⊢
  have hl : lv_has ls 6 [(0, Value.ref (a 0)), (1, Value.int x), (2, Value.int i)] := hl
  refine lv_aload_n hx hb dX5_family_0 rfl (lv_at hl 0 rfl) ?_
  refine va_get (D := D) (ci := 5) (v := Value.ref (a 1)) (C := "ReaderRows") (T := TX5) (N := 6) hx hb ht inX5 hown hK hP 0 rfl rfl 0 (by decide) (ht _ m_138) (fun _ h9 => h9) rfl dX5_family_1 ?_
  refine lv_iload_n hx hb dX5_family_4 rfl (lv_at hl 1 rfl) ?_
  refine r_callR (r := Value.int (nI (fd S x))) (As := [Value.int x]) (rest := []) ⟨hx, hb, hml, hown, ht⟩ (c_rd_find l D g a S hB x) (cwV 1 ht (gdV m_168 m_169 m_170 m_2 m_171) rfl rfl rfl (by decide +kernel) ⟨Nat.le_of_ble_eq_true rfl, Nat.le_of_ble_eq_true rfl⟩) (va_recv hK hP (ci := 3) (q0 := 1) rfl rfl) hP hK rfl hl.1 rfl (Nat.le_of_ble_eq_true rfl) dX5_family_5 ⟨Nat.zero_le _, Nat.zero_le _⟩ ?_
  have b_fd17 : fd S x ≤ 60 := fd_le hB _
  refine lv_istore_n (lv' := [(3, Value.int (nI (fd S x))), (0, Value.ref (a 0)), (1, Value.int x), (2, Value.int i)]) hx hb dX5_family_8 rfl hl (by decide) rfl (fun ls hl => ?_)
  refine lv_iload_n hx hb dX5_family_9 rfl (lv_at hl 0 rfl) ?_
  refine r_if_ne_n (tgt := 15) hx hb dX5_family_10 (by decide) (by omega) (fun c10 => ?_) (fun c10 => ?_)
  · refine lv_aload_n hx hb dX5_family_15 rfl (lv_at hl 1 rfl) ?_
    refine va_get (D := D) (ci := 5) (v := Value.ref (a 1)) (C := "ReaderRows") (T := TX5) (N := 6) hx hb ht inX5 hown hK hP 0 rfl rfl 0 (by decide) (ht _ m_138) (fun _ h9 => h9) rfl dX5_family_16 ?_
    refine lv_iload_n hx hb dX5_family_19 rfl (lv_at hl 0 rfl) ?_
    refine r_callR (r := Value.int (nI (av S 2 (fd S x)))) (As := [Value.int (nI (fd S x))]) (rest := []) ⟨hx, hb, hml, hown, ht⟩ (c_rd_guardianOf l D g a S hB (fd S x) (by omega)) (cwV 1 ht (gdV m_172 m_173 m_174 m_2 m_175) rfl rfl rfl (by decide +kernel) ⟨Nat.le_of_ble_eq_true rfl, Nat.le_of_ble_eq_true rfl⟩) (va_recv hK hP (ci := 3) (q0 := 1) rfl rfl) hP hK rfl hl.1 rfl (Nat.le_of_ble_eq_true rfl) dX5_family_20 ⟨Nat.zero_le _, Nat.zero_le _⟩ ?_
    have b_guardianOf25 : av S 2 (fd S x) ≤ 60 := hB.2 2 _
    refine lv_istore (lv' := [(4, Value.int (nI (av S 2 (fd S x)))), (3, Value.int (nI (fd S x))), (0, Value.ref (a 0)), (1, Value.int x), (2, Value.int i)]) hx hb dX5_family_23 hl (by decide) rfl (fun ls hl => ?_)
    refine lv_iload hx hb dX5_family_25 (lv_at hl 0 rfl) ?_
    refine r_if_ne_n (tgt := 34) hx hb dX5_family_27 (by decide) (by omega) (fun c27 => ?_) (fun c27 => ?_)
    · refine lv_iload hx hb dX5_family_34 (lv_at hl 0 rfl) ?_
      refine lv_istore (lv' := [(5, Value.int (nI (av S 2 (fd S x)))), (4, Value.int (nI (av S 2 (fd S x)))), (3, Value.int (nI (fd S x))), (0, Value.ref (a 0)), (1, Value.int x), (2, Value.int i)]) hx hb dX5_family_36 hl (by decide) rfl (fun ls hl => ?_)
      refine lv_iload_n hx hb dX5_family_38 rfl (lv_at hl 5 rfl) ?_
      refine lv_if_ne (tgt := 47) hx hb dX5_family_39 (by decide) (fun c39 => ?_) (fun c39 => ?_)
      · refine lv_aload_n hx hb dX5_family_47 rfl (lv_at hl 3 rfl) ?_
        refine va_get (D := D) (ci := 5) (v := Value.ref (a 1)) (C := "ReaderRows") (T := TX5) (N := 6) hx hb ht inX5 hown hK hP 0 rfl rfl 0 (by decide) (ht _ m_138) (fun _ h9 => h9) rfl dX5_family_48 ?_
        refine lv_iload hx hb dX5_family_51 (lv_at hl 0 rfl) ?_
        refine lv_iload_n hx hb dX5_family_53 rfl (lv_at hl 5 rfl) ?_
        refine r_callR (r := Value.int (nI (wd S (av S 2 (fd S x)) i))) (As := [Value.int (nI (av S 2 (fd S x))), Value.int i]) (rest := []) ⟨hx, hb, hml, hown, ht⟩ (c_rd_wardOf l D g a S hB (av S 2 (fd S x)) (by omega) i) (cwV 2 ht (gdV m_322 m_323 m_324 m_2 m_325) rfl rfl rfl (by decide +kernel) ⟨Nat.le_of_ble_eq_true rfl, Nat.le_of_ble_eq_true rfl⟩) (va_recv hK hP (ci := 3) (q0 := 1) rfl rfl) hP hK rfl hl.1 rfl (Nat.le_of_ble_eq_true rfl) dX5_family_54 ⟨Nat.zero_le _, Nat.zero_le _⟩ ?_
        have b_wd38 : wd S (av S 2 (fd S x)) i ≤ 60 := wd_le hB _ _
        have hv9 : (nI (wd S (av S 2 (fd S x)) i)) = (nI (famV S x i)) := by first | (simp only [famV, hdN, if_neg c10, if_neg c27, if_neg c39]; done) | (with_reducible rfl) | (simp only [famV, hdN, if_neg c10, if_neg c27, if_neg c39]; rfl) | rfl | (simp [famV, hdN, c10, c27, c39]; done)
        exact W.iret (v := (nI (wd S (av S 2 (fd S x)) i))) hx hb hr (fun t ht hW => ⟨congrArg (fun z => Outcome.returned (some (Value.int z))) hv9, ht⟩) (fun _ h => by cases h) dX5_family_57
      · refine lv_iload hx hb dX5_family_42 (lv_at hl 0 rfl) ?_
        refine lv_goto (tgt := 57) hx hb dX5_family_44 (by decide) ?_
        have hv9 : (nI (av S 2 (fd S x))) = (nI (famV S x i)) := by first | (simp only [famV, hdN, if_neg c10, if_neg c27, if_pos c39]; done) | (with_reducible rfl) | (simp only [famV, hdN, if_neg c10, if_neg c27, if_pos c39]; rfl) | rfl | (simp [famV, hdN, c10, c27, c39]; done)
        exact W.iret (v := (nI (av S 2 (fd S x)))) hx hb hr (fun t ht hW => ⟨congrArg (fun z => Outcome.returned (some (Value.int z))) hv9, ht⟩) (fun _ h => by cases h) dX5_family_57
    · refine lv_iload_n hx hb dX5_family_30 rfl (lv_at hl 1 rfl) ?_
      refine lv_goto (tgt := 36) hx hb dX5_family_31 (by decide) ?_
      refine lv_istore (lv' := [(5, Value.int (nI (fd S x))), (4, Value.int (nI (av S 2 (fd S x)))), (3, Value.int (nI (fd S x))), (0, Value.ref (a 0)), (1, Value.int x), (2, Value.int i)]) hx hb dX5_family_36 hl (by decide) rfl (fun ls hl => ?_)
      refine lv_iload_n hx hb dX5_family_38 rfl (lv_at hl 5 rfl) ?_
      refine lv_if_ne (tgt := 47) hx hb dX5_family_39 (by decide) (fun c39 => ?_) (fun c39 => ?_)
      · refine lv_aload_n hx hb dX5_family_47 rfl (lv_at hl 3 rfl) ?_
        refine va_get (D := D) (ci := 5) (v := Value.ref (a 1)) (C := "ReaderRows") (T := TX5) (N := 6) hx hb ht inX5 hown hK hP 0 rfl rfl 0 (by decide) (ht _ m_138) (fun _ h9 => h9) rfl dX5_family_48 ?_
        refine lv_iload hx hb dX5_family_51 (lv_at hl 0 rfl) ?_
        refine lv_iload_n hx hb dX5_family_53 rfl (lv_at hl 5 rfl) ?_
        refine r_callR (r := Value.int (nI (wd S (fd S x) i))) (As := [Value.int (nI (fd S x)), Value.int i]) (rest := []) ⟨hx, hb, hml, hown, ht⟩ (c_rd_wardOf l D g a S hB (fd S x) (by omega) i) (cwV 2 ht (gdV m_322 m_323 m_324 m_2 m_325) rfl rfl rfl (by decide +kernel) ⟨Nat.le_of_ble_eq_true rfl, Nat.le_of_ble_eq_true rfl⟩) (va_recv hK hP (ci := 3) (q0 := 1) rfl rfl) hP hK rfl hl.1 rfl (Nat.le_of_ble_eq_true rfl) dX5_family_54 ⟨Nat.zero_le _, Nat.zero_le _⟩ ?_
        have b_wd55 : wd S (fd S x) i ≤ 60 := wd_le hB _ _
        have hv9 : (nI (wd S (fd S x) i)) = (nI (famV S x i)) := by first | (simp only [famV, hdN, if_neg c10, if_pos c27, if_neg c39]; done) | (with_reducible rfl) | (simp only [famV, hdN, if_neg c10, if_pos c27, if_neg c39]; rfl) | rfl | (simp [famV, hdN, c10, c27, c39]; done)
        exact W.iret (v := (nI (wd S (fd S x) i))) hx hb hr (fun t ht hW => ⟨congrArg (fun z => Outcome.returned (some (Value.int z))) hv9, ht⟩) (fun _ h => by cases h) dX5_family_57
      · refine lv_iload hx hb dX5_family_42 (lv_at hl 0 rfl) ?_
        refine lv_goto (tgt := 57) hx hb dX5_family_44 (by decide) ?_
        have hv9 : (nI (fd S x)) = (nI (famV S x i)) := by first | (simp only [famV, hdN, if_neg c10, if_pos c27, if_pos c39]; done) | (with_reducible rfl) | (simp only [famV, hdN, if_neg c10, if_pos c27, if_pos c39]; rfl) | rfl | (simp [famV, hdN, c10, c27, c39]; done)
        exact W.iret (v := (nI (fd S x))) hx hb hr (fun t ht hW => ⟨congrArg (fun z => Outcome.returned (some (Value.int z))) hv9, ht⟩) (fun _ h => by cases h) dX5_family_57
  · refine lv_iconst (v := (nI 0)) hx hb dX5_family_13 (by decide) ?_
    have hv9 : (nI 0) = (nI (famV S x i)) := by first | (simp only [famV, hdN, if_pos c10]; done) | (with_reducible rfl) | (simp only [famV, hdN, if_pos c10]; rfl) | rfl | (simp [famV, hdN, c10]; done)
    exact W.iret (v := (nI 0)) hx hb hr (fun t ht hW => ⟨congrArg (fun z => Outcome.returned (some (Value.int z))) hv9, ht⟩) (fun _ h => by cases h) dX5_family_14

set_option maxRecDepth 100000 in
set_option maxHeartbeats 4000000 in
theorem c_rr_sign (l : Launch) (D : va_G) (g : Nat → ClassId) (a : Nat → Nat) (hD : ∀ S : St, va_D (cA a) (clW g a S))  (S : St) (hB : cbd S) (x : Int32) : Met l yX5_sign wsX5_sign ({ frames := 1, cells := 0, slots := 0, locals := 21 } : Room) (va_Pc [Value.ref (a 0), Value.int x] (wPre D vwCl (clW g a S) (clT g))) (wQ none D vwCl (clW g a (rcS S (x.toBitVec.toNat % 256))) (cA a) (cbd (rcS S (x.toBitVec.toNat % 256)))) 0 0 (cA a) := by
  refine Met.ofW (cc := cX5_sign) (maxL := 2) (ret := none) (by decide) rfl ?_
  intro p e s m args below meth c s₁ B hml hv
  obtain ⟨rfl, hP, hK⟩ := hv
  have hx := B.exec
  have hb := B.bytes
  have hr := B.returns
  have hts := atoms_spec (ws := wsX5_sign) B.pre
  have ht := fun (w : Cond) (h : w ∈ lw_g) => hts w (List.mem_cons_of_mem _ h)
  have hown : s.vm.findClass "ReaderRows" = some m.cls := findClass_of_methodNamed B.named
  have hlocks := B.notSynchronized
  have hS : va_S (cA a) s.heap s.heap [] := va_S.rf
  have hl := lv_entry ([Value.ref (a 0), Value.int x]) (n := 2) (Nat.le_of_ble_eq_true rfl)
  rw [lg_entry_eq]
  generalize (lg_sl ([Value.ref (a 0), Value.int x]) ++ List.replicate (2 - (lg_sl ([Value.ref (a 0), Value.int x])).length) Slot.unset).toArray = ls at hl ⊢
  have hl : lv_has ls 2 [(0, Value.ref (a 0)), (1, Value.int x)] := hl
  refine lv_aload_n hx hb dX5_sign_0 rfl (lv_at hl 0 rfl) ?_
  refine va_get (D := D) (ci := 5) (v := Value.ref (a 5)) (C := "ReaderRows") (T := TX5) (N := 6) hx hb ht inX5 hown hK hP 0 rfl rfl 4 (by decide) (ht _ m_142) (fun _ h9 => h9) rfl dX5_sign_1 ?_
  refine lv_iload_n hx hb dX5_sign_4 rfl (lv_at hl 1 rfl) ?_
  refine lv_sipush (v := (nI 255)) hx hb dX5_sign_5 (by decide) ?_
  refine lv_iand hx hb dX5_sign_8 ?_
  rw [show x &&& nI 255 = nI (x.toBitVec.toNat % 256) from pk_and x 8 (by decide)]
  refine r_callW (st' := []) (As := [Value.int (nI (x.toBitVec.toNat % 256))]) (rest := []) ⟨hx, hb, hml, hown, ht⟩ (c_ro_collect l D g a hD S hB (x.toBitVec.toNat % 256) (by omega)) (cwV 1 ht (gdV m_349 m_350 m_351 m_6 m_352) rfl rfl rfl (by decide +kernel) ⟨Nat.le_of_ble_eq_true rfl, Nat.le_of_ble_eq_true rfl⟩) (va_recv hK hP (ci := 4) (q0 := 5) rfl rfl) hP hK rfl hS rfl hl.1 rfl (Nat.le_of_ble_eq_true rfl) dX5_sign_9 ⟨Nat.zero_le _, Nat.zero_le _⟩ (fun H locs hP hS hB => ?_)
  have hs9 : (rcS S (x.toBitVec.toNat % 256)) = (rcS S (x.toBitVec.toNat % 256)) := by rfl
  exact W.vret hx hb hr (fun t ht hW => ⟨rfl, by rw [ht, ← hs9]; exact hP, hS.F ht, by rw [← hs9]; exact hB⟩) hS.2.2 dX5_sign_12

set_option maxRecDepth 100000 in
set_option maxHeartbeats 4000000 in
theorem c_rr_import0 (l : Launch) (D : va_G) (g : Nat → ClassId) (a : Nat → Nat) (hD : ∀ S : St, va_D (cA a) (clW g a S))  (S : St) (hB : cbd S)  : Met l yX5_import0 wsX5_import0 ({ frames := 4, cells := 0, slots := 0, locals := 89 } : Room) (va_Pc [Value.ref (a 0)] (wPre D vwCl (clW g a S) (clT g))) (wQ (some (Value.int ((impP S).1))) D vwCl (clW g a ((impP S).2)) (cA a) (cbd ((impP S).2))) 0 0 (cA a) := by
  refine Met.ofW (cc := cX5_import0) (maxL := 3) (ret := (some .int)) (by decide) rfl ?_
  intro p e s m args below meth c s₁ B hml hv
  obtain ⟨rfl, hP, hK⟩ := hv
  have hx := B.exec
  have hb := B.bytes
  have hr := B.returns
  have hts := atoms_spec (ws := wsX5_import0) B.pre
  have ht := fun (w : Cond) (h : w ∈ lw_g) => hts w (List.mem_cons_of_mem _ h)
  have hown : s.vm.findClass "ReaderRows" = some m.cls := findClass_of_methodNamed B.named
  have hlocks := B.notSynchronized
  have hS : va_S (cA a) s.heap s.heap [] := va_S.rf
  have hl := lv_entry ([Value.ref (a 0)]) (n := 3) (Nat.le_of_ble_eq_true rfl)
  rw [lg_entry_eq]
  generalize (lg_sl ([Value.ref (a 0)]) ++ List.replicate (3 - (lg_sl ([Value.ref (a 0)])).length) Slot.unset).toArray = ls at hl ⊢
  have hl : lv_has ls 3 [(0, Value.ref (a 0))] := hl
  have hb0 := hB
  refine lv_aload_n hx hb dX5_import0_0 rfl (lv_at hl 0 rfl) ?_
  refine va_get (D := D) (ci := 5) (v := Value.ref (a 5)) (C := "ReaderRows") (T := TX5) (N := 6) hx hb ht inX5 hown hK hP 0 rfl rfl 4 (by decide) (ht _ m_142) (fun _ h9 => h9) rfl dX5_import0_1 ?_
  refine r_callW (st' := [Value.int ((rdP S).1)]) (As := []) (rest := []) ⟨hx, hb, hml, hown, ht⟩ (c_ro_readAll l D g a hD S hB ) (cwV 0 ht (gdV m_357 m_358 m_359 m_6 m_360) rfl rfl rfl (by decide +kernel) ⟨Nat.le_of_ble_eq_true rfl, Nat.le_of_ble_eq_true rfl⟩) (va_recv hK hP (ci := 4) (q0 := 5) rfl rfl) hP hK rfl hS rfl hl.1 rfl (Nat.le_of_ble_eq_true rfl) dX5_import0_4 ⟨Nat.zero_le _, Nat.zero_le _⟩ (fun H locs hP hS hB => ?_)
  refine lv_istore_n (lv' := [(1, Value.int ((rdP S).1)), (0, Value.ref (a 0))]) hx hb dX5_import0_7 rfl hl (by decide) rfl (fun ls hl => ?_)
  refine lv_iload_n hx hb dX5_import0_8 rfl (lv_at hl 0 rfl) ?_
  refine lv_iconst (v := (-1)) hx hb dX5_import0_9 (by decide) ?_
  refine lv_icmp_ne (tgt := 20) hx hb dX5_import0_10 (by decide) (fun c10 => ?_) (fun c10 => ?_)
  · refine lv_bipush (v := (-100)) hx hb dX5_import0_20 (by decide) ?_
    refine lv_iload_n hx hb dX5_import0_22 rfl (lv_at hl 0 rfl) ?_
    refine lv_isub hx hb dX5_import0_23 ?_
    refine lv_istore_n (lv' := [(2, Value.int ((-100) - ((rdP S).1))), (1, Value.int ((rdP S).1)), (0, Value.ref (a 0))]) hx hb dX5_import0_24 rfl hl (by decide) rfl (fun ls hl => ?_)
    refine lv_aload_n hx hb dX5_import0_25 rfl (lv_at hl 2 rfl) ?_
    refine va_get (D := D) (ci := 5) (v := Value.ref (a 5)) (C := "ReaderRows") (T := TX5) (N := 6) hx hb ht inX5 hown hK hP 0 rfl rfl 4 (by decide) (ht _ m_142) (fun _ h9 => h9) rfl dX5_import0_26 ?_
    refine r_callW (st' := []) (As := []) (rest := []) ⟨hx, hb, hml, hown, ht⟩ (c_ro_clear l D g a hD ((rdP S).2) hB ) (cwV 0 ht (gdV m_418 m_419 m_420 m_6 m_421) rfl rfl rfl (by decide +kernel) ⟨Nat.le_of_ble_eq_true rfl, Nat.le_of_ble_eq_true rfl⟩) (va_recv hK hP (ci := 4) (q0 := 5) rfl rfl) hP hK rfl hS rfl hl.1 rfl (Nat.le_of_ble_eq_true rfl) dX5_import0_29 ⟨Nat.zero_le _, Nat.zero_le _⟩ (fun H locs hP hS hB => ?_)
    refine lv_iload_n hx hb dX5_import0_32 rfl (lv_at hl 0 rfl) ?_
    have hv9 : ((-100) - ((rdP S).1)) = ((impP S).1) := by first | (simp only [impP, if_neg c10]; done) | (with_reducible rfl) | (simp only [impP, if_neg c10]; rfl) | rfl | (simp [impP, c10]; done)
    have hs9 : (sn ((rdP S).2) 3 0) = ((impP S).2) := by first | (simp only [impP, if_neg c10]; done) | (with_reducible rfl) | (simp only [impP, if_neg c10]; rfl) | rfl | (simp [impP, c10]; done)
    exact W.iret (v := ((-100) - ((rdP S).1))) hx hb hr (fun t ht hW => ⟨congrArg (fun z => Outcome.returned (some (Value.int z))) hv9, by rw [ht, ← hs9]; exact hP, hS.F ht, by rw [← hs9]; exact hB⟩) hS.2.2 dX5_import0_33
  · have hq3 : nv (rdP S).2 4 ≤ nv (rdP S).2 3 := rdP_len hb0
    refine lv_aload_n hx hb dX5_import0_13 rfl (lv_at hl 1 rfl) ?_
    refine r_callW (st' := [Value.int (ifV ((rdP S).2))]) (As := []) (rest := []) ⟨hx, hb, hml, hown, ht⟩ (c_rr_importFittingRow l D g a hD ((rdP S).2) hB (by assumption)) (cwV 0 ht (gdV m_377 m_379 ms_9 m_1 m_380) rfl rfl rfl (by decide +kernel) ⟨Nat.le_of_ble_eq_true rfl, Nat.le_of_ble_eq_true rfl⟩) (va_recv hK hP (ci := 5) (q0 := 0) rfl rfl) hP hK rfl hS rfl hl.1 rfl (Nat.le_of_ble_eq_true rfl) dX5_import0_14 ⟨Nat.zero_le _, Nat.zero_le _⟩ (fun H locs hP hS hB => ?_)
    refine lv_goto (tgt := 24) hx hb dX5_import0_17 (by decide) ?_
    refine lv_istore_n (lv' := [(2, Value.int (ifV ((rdP S).2))), (1, Value.int ((rdP S).1)), (0, Value.ref (a 0))]) hx hb dX5_import0_24 rfl hl (by decide) rfl (fun ls hl => ?_)
    refine lv_aload_n hx hb dX5_import0_25 rfl (lv_at hl 2 rfl) ?_
    refine va_get (D := D) (ci := 5) (v := Value.ref (a 5)) (C := "ReaderRows") (T := TX5) (N := 6) hx hb ht inX5 hown hK hP 0 rfl rfl 4 (by decide) (ht _ m_142) (fun _ h9 => h9) rfl dX5_import0_26 ?_
    refine r_callW (st' := []) (As := []) (rest := []) ⟨hx, hb, hml, hown, ht⟩ (c_ro_clear l D g a hD (ifS ((rdP S).2)) hB ) (cwV 0 ht (gdV m_418 m_419 m_420 m_6 m_421) rfl rfl rfl (by decide +kernel) ⟨Nat.le_of_ble_eq_true rfl, Nat.le_of_ble_eq_true rfl⟩) (va_recv hK hP (ci := 4) (q0 := 5) rfl rfl) hP hK rfl hS rfl hl.1 rfl (Nat.le_of_ble_eq_true rfl) dX5_import0_29 ⟨Nat.zero_le _, Nat.zero_le _⟩ (fun H locs hP hS hB => ?_)
    refine lv_iload_n hx hb dX5_import0_32 rfl (lv_at hl 0 rfl) ?_
    have hv9 : (ifV ((rdP S).2)) = ((impP S).1) := by first | (simp only [impP, if_pos c10]; done) | (with_reducible rfl) | (simp only [impP, if_pos c10]; rfl) | rfl | (simp [impP, c10]; done)
    have hs9 : (sn (ifS ((rdP S).2)) 3 0) = ((impP S).2) := by first | (simp only [impP, if_pos c10]; done) | (with_reducible rfl) | (simp only [impP, if_pos c10]; rfl) | rfl | (simp [impP, c10]; done)
    exact W.iret (v := (ifV ((rdP S).2))) hx hb hr (fun t ht hW => ⟨congrArg (fun z => Outcome.returned (some (Value.int z))) hv9, by rw [ht, ← hs9]; exact hP, hS.F ht, by rw [← hs9]; exact hB⟩) hS.2.2 dX5_import0_33

set_option maxRecDepth 100000 in
set_option maxHeartbeats 4000000 in
theorem c_rr_like (l : Launch) (D : va_G) (g : Nat → ClassId) (a : Nat → Nat) (hD : ∀ S : St, va_D (cA a) (clW g a S))  (S : St) (hB : cbd S)  : Met l yX5_like wsX5_like ({ frames := 4, cells := 0, slots := 0, locals := 86 } : Room) (va_Pc [Value.ref (a 0)] (wPre D vwCl (clW g a S) (clT g))) (wQ (some (Value.int (nI ((likP S).1)))) D vwCl (clW g a ((likP S).2)) (cA a) (cbd ((likP S).2))) 0 0 (cA a) := by
  refine Met.ofW (cc := cX5_like) (maxL := 2) (ret := (some .int)) (by decide) rfl ?_
  intro p e s m args below meth c s₁ B hml hv
  obtain ⟨rfl, hP, hK⟩ := hv
  have hx := B.exec
  have hb := B.bytes
  have hr := B.returns
  have hts := atoms_spec (ws := wsX5_like) B.pre
  have ht := fun (w : Cond) (h : w ∈ lw_g) => hts w (List.mem_cons_of_mem _ h)
  have hown : s.vm.findClass "ReaderRows" = some m.cls := findClass_of_methodNamed B.named
  have hlocks := B.notSynchronized
  have hS : va_S (cA a) s.heap s.heap [] := va_S.rf
  have hl := lv_entry ([Value.ref (a 0)]) (n := 2) (Nat.le_of_ble_eq_true rfl)
  rw [lg_entry_eq]
  generalize (lg_sl ([Value.ref (a 0)]) ++ List.replicate (2 - (lg_sl ([Value.ref (a 0)])).length) Slot.unset).toArray = ls at hl ⊢
  have hl : lv_has ls 2 [(0, Value.ref (a 0))] := hl
  refine lv_aload_n hx hb dX5_like_0 rfl (lv_at hl 0 rfl) ?_
  refine va_get (D := D) (ci := 5) (v := Value.ref (a 5)) (C := "ReaderRows") (T := TX5) (N := 6) hx hb ht inX5 hown hK hP 0 rfl rfl 4 (by decide) (ht _ m_142) (fun _ h9 => h9) rfl dX5_like_1 ?_
  refine r_callW (st' := [Value.int (nI (bN (¬ rn S ≤ 0 ∧ rn S = nv S 3)))]) (As := []) (rest := []) ⟨hx, hb, hml, hown, ht⟩ (c_ro_readNameAlone l D g a hD S hB ) (cwV 0 ht (gdV m_426 m_427 m_428 m_6 m_429) rfl rfl rfl (by decide +kernel) ⟨Nat.le_of_ble_eq_true rfl, Nat.le_of_ble_eq_true rfl⟩) (va_recv hK hP (ci := 4) (q0 := 5) rfl rfl) hP hK rfl hS rfl hl.1 rfl (Nat.le_of_ble_eq_true rfl) dX5_like_4 ⟨Nat.zero_le _, Nat.zero_le _⟩ (fun H locs hP hS hB => ?_)
  have b_rn : rn S ≤ 12 := rn_le _
  refine r_if_eq_b (tgt := 17) hx hb dX5_like_7 (by decide) (fun c7 => ?_) (fun c7 => ?_)
  · refine lv_iconst (v := (nI 0)) hx hb dX5_like_17 (by decide) ?_
    refine lv_istore_n (lv' := [(1, Value.int (nI 0)), (0, Value.ref (a 0))]) hx hb dX5_like_18 rfl hl (by decide) rfl (fun ls hl => ?_)
    refine lv_aload_n hx hb dX5_like_19 rfl (lv_at hl 1 rfl) ?_
    refine va_get (D := D) (ci := 5) (v := Value.ref (a 5)) (C := "ReaderRows") (T := TX5) (N := 6) hx hb ht inX5 hown hK hP 0 rfl rfl 4 (by decide) (ht _ m_142) (fun _ h9 => h9) rfl dX5_like_20 ?_
    refine r_callW (st' := []) (As := []) (rest := []) ⟨hx, hb, hml, hown, ht⟩ (c_ro_clear l D g a hD (sn S 4 (rn S)) hB ) (cwV 0 ht (gdV m_418 m_419 m_420 m_6 m_421) rfl rfl rfl (by decide +kernel) ⟨Nat.le_of_ble_eq_true rfl, Nat.le_of_ble_eq_true rfl⟩) (va_recv hK hP (ci := 4) (q0 := 5) rfl rfl) hP hK rfl hS rfl hl.1 rfl (Nat.le_of_ble_eq_true rfl) dX5_like_23 ⟨Nat.zero_le _, Nat.zero_le _⟩ (fun H locs hP hS hB => ?_)
    refine lv_iload_n hx hb dX5_like_26 rfl (lv_at hl 0 rfl) ?_
    have hv9 : (nI 0) = (nI ((likP S).1)) := by first | (simp only [likP, if_neg c7]; done) | (with_reducible rfl) | (simp only [likP, if_neg c7]; rfl) | rfl | (simp [likP, c7]; done)
    have hs9 : (sn (sn S 4 (rn S)) 3 0) = ((likP S).2) := by first | (simp only [likP, if_neg c7]; done) | (with_reducible rfl) | (simp only [likP, if_neg c7]; rfl) | rfl | (simp [likP, c7]; done)
    exact W.iret (v := (nI 0)) hx hb hr (fun t ht hW => ⟨congrArg (fun z => Outcome.returned (some (Value.int z))) hv9, by rw [ht, ← hs9]; exact hP, hS.F ht, by rw [← hs9]; exact hB⟩) hS.2.2 dX5_like_27
  · refine lv_aload_n hx hb dX5_like_10 rfl (lv_at hl 0 rfl) ?_
    refine r_callW (st' := [Value.int (nI ((nnP (sn S 4 (rn S))).1))]) (As := []) (rest := []) ⟨hx, hb, hml, hown, ht⟩ (c_rr_nearestNamed l D g a hD (sn S 4 (rn S)) hB ) (cwV 0 ht (gdV m_430 m_432 ms_12 m_1 m_433) rfl rfl rfl (by decide +kernel) ⟨Nat.le_of_ble_eq_true rfl, Nat.le_of_ble_eq_true rfl⟩) (va_recv hK hP (ci := 5) (q0 := 0) rfl rfl) hP hK rfl hS rfl hl.1 rfl (Nat.le_of_ble_eq_true rfl) dX5_like_11 ⟨Nat.zero_le _, Nat.zero_le _⟩ (fun H locs hP hS hB => ?_)
    refine lv_goto (tgt := 18) hx hb dX5_like_14 (by decide) ?_
    refine lv_istore_n (lv' := [(1, Value.int (nI ((nnP (sn S 4 (rn S))).1))), (0, Value.ref (a 0))]) hx hb dX5_like_18 rfl hl (by decide) rfl (fun ls hl => ?_)
    refine lv_aload_n hx hb dX5_like_19 rfl (lv_at hl 1 rfl) ?_
    refine va_get (D := D) (ci := 5) (v := Value.ref (a 5)) (C := "ReaderRows") (T := TX5) (N := 6) hx hb ht inX5 hown hK hP 0 rfl rfl 4 (by decide) (ht _ m_142) (fun _ h9 => h9) rfl dX5_like_20 ?_
    refine r_callW (st' := []) (As := []) (rest := []) ⟨hx, hb, hml, hown, ht⟩ (c_ro_clear l D g a hD ((nnP (sn S 4 (rn S))).2) hB ) (cwV 0 ht (gdV m_418 m_419 m_420 m_6 m_421) rfl rfl rfl (by decide +kernel) ⟨Nat.le_of_ble_eq_true rfl, Nat.le_of_ble_eq_true rfl⟩) (va_recv hK hP (ci := 4) (q0 := 5) rfl rfl) hP hK rfl hS rfl hl.1 rfl (Nat.le_of_ble_eq_true rfl) dX5_like_23 ⟨Nat.zero_le _, Nat.zero_le _⟩ (fun H locs hP hS hB => ?_)
    refine lv_iload_n hx hb dX5_like_26 rfl (lv_at hl 0 rfl) ?_
    have hv9 : (nI ((nnP (sn S 4 (rn S))).1)) = (nI ((likP S).1)) := by first | (simp only [likP, if_pos c7]; done) | (with_reducible rfl) | (simp only [likP, if_pos c7]; rfl) | rfl | (simp [likP, c7]; done)
    have hs9 : (sn ((nnP (sn S 4 (rn S))).2) 3 0) = ((likP S).2) := by first | (simp only [likP, if_pos c7]; done) | (with_reducible rfl) | (simp only [likP, if_pos c7]; rfl) | rfl | (simp [likP, c7]; done)
    exact W.iret (v := (nI ((nnP (sn S 4 (rn S))).1))) hx hb hr (fun t ht hW => ⟨congrArg (fun z => Outcome.returned (some (Value.int z))) hv9, by rw [ht, ← hs9]; exact hP, hS.F ht, by rw [← hs9]; exact hB⟩) hS.2.2 dX5_like_27

set_option maxRecDepth 100000 in
set_option maxHeartbeats 4000000 in
theorem c_rr_about (l : Launch) (D : va_G) (g : Nat → ClassId) (a : Nat → Nat)  (S : St) (hB : cbd S) (x wh : Int32) : Met l yX5_about wsX5_about ({ frames := 1, cells := 0, slots := 0, locals := 23 } : Room) (va_Pc [Value.ref (a 0), Value.int x, Value.int wh] (wPre D vwCl (clW g a S) (clT g))) (k2_QcV (Value.int (abtV S x wh))) 0 0 (fun _ => False) := by
  refine Met.ofW (cc := cX5_about) (maxL := 4) (ret := (some .int)) (by decide) rfl ?_
  intro p e s m args below meth c s₁ B hml hv
  obtain ⟨rfl, hP, hK⟩ := hv
  have hx := B.exec
  have hb := B.bytes
  have hr := B.returns
  have hts := atoms_spec (ws := wsX5_about) B.pre
  have ht := fun (w : Cond) (h : w ∈ lw_g) => hts w (List.mem_cons_of_mem _ h)
  have hown : s.vm.findClass "ReaderRows" = some m.cls := findClass_of_methodNamed B.named
  have hlocks := B.notSynchronized
  have hl := lv_entry ([Value.ref (a 0), Value.int x, Value.int wh]) (n := 4) (Nat.le_of_ble_eq_true rfl)
  rw [lg_entry_eq]
  generalize (lg_sl ([Value.ref (a 0), Value.int x, Value.int wh]) ++ List.replicate (4 - (lg_sl ([Value.ref (a 0), Value.int x, Value.int wh])).length) Slot.unset).toArray = ls at hl ⊢
  have hl : lv_has ls 4 [(0, Value.ref (a 0)), (1, Value.int x), (2, Value.int wh)] := hl
  refine lv_aload_n hx hb dX5_about_0 rfl (lv_at hl 0 rfl) ?_
  refine va_get (D := D) (ci := 5) (v := Value.ref (a 1)) (C := "ReaderRows") (T := TX5) (N := 6) hx hb ht inX5 hown hK hP 0 rfl rfl 0 (by decide) (ht _ m_138) (fun _ h9 => h9) rfl dX5_about_1 ?_
  refine lv_iload_n hx hb dX5_about_4 rfl (lv_at hl 1 rfl) ?_
  refine r_callR (r := Value.int (nI (fd S x))) (As := [Value.int x]) (rest := []) ⟨hx, hb, hml, hown, ht⟩ (c_rd_find l D g a S hB x) (cwV 1 ht (gdV m_168 m_169 m_170 m_2 m_171) rfl rfl rfl (by decide +kernel) ⟨Nat.le_of_ble_eq_true rfl, Nat.le_of_ble_eq_true rfl⟩) (va_recv hK hP (ci := 3) (q0 := 1) rfl rfl) hP hK rfl hl.1 rfl (Nat.le_of_ble_eq_true rfl) dX5_about_5 ⟨Nat.zero_le _, Nat.zero_le _⟩ ?_
  have b_fd17 : fd S x ≤ 60 := fd_le hB _
  refine lv_istore_n (lv' := [(3, Value.int (nI (fd S x))), (0, Value.ref (a 0)), (1, Value.int x), (2, Value.int wh)]) hx hb dX5_about_8 rfl hl (by decide) rfl (fun ls hl => ?_)
  refine lv_iload_n hx hb dX5_about_9 rfl (lv_at hl 0 rfl) ?_
  refine r_if_ne_n (tgt := 15) hx hb dX5_about_10 (by decide) (by omega) (fun c10 => ?_) (fun c10 => ?_)
  · refine lv_iload_n hx hb dX5_about_15 rfl (lv_at hl 3 rfl) ?_
    by_cases z16_0 : wh = 0
    · refine lv_tableIn (tgt := 52) hx hb dX5_about_16 (by rw [z16_0]; decide) (by rw [z16_0]; decide) (by rw [z16_0]; rfl) (by decide) ?_
      refine lv_aload_n hx hb dX5_about_52 rfl (lv_at hl 1 rfl) ?_
      refine va_get (D := D) (ci := 5) (v := Value.ref (a 1)) (C := "ReaderRows") (T := TX5) (N := 6) hx hb ht inX5 hown hK hP 0 rfl rfl 0 (by decide) (ht _ m_138) (fun _ h9 => h9) rfl dX5_about_53 ?_
      refine lv_iload_n hx hb dX5_about_56 rfl (lv_at hl 0 rfl) ?_
      refine r_callR (r := Value.int (nI (av S 1 (fd S x)))) (As := [Value.int (nI (fd S x))]) (rest := []) ⟨hx, hb, hml, hown, ht⟩ (c_rd_kindOf l D g a S hB (fd S x) (by omega)) (cwV 1 ht (gdV m_272 m_273 m_274 m_2 m_275) rfl rfl rfl (by decide +kernel) ⟨Nat.le_of_ble_eq_true rfl, Nat.le_of_ble_eq_true rfl⟩) (va_recv hK hP (ci := 3) (q0 := 1) rfl rfl) hP hK rfl hl.1 rfl (Nat.le_of_ble_eq_true rfl) dX5_about_57 ⟨Nat.zero_le _, Nat.zero_le _⟩ ?_
      have b_kindOf28 : av S 1 (fd S x) ≤ 4 := hB.2 1 _
      have hv9 : (nI (av S 1 (fd S x))) = (abtV S x wh) := by first | (simp only [abtV, if_neg c10, if_pos z16_0]; done) | (with_reducible rfl) | (simp only [abtV, if_neg c10, if_pos z16_0]; rfl) | rfl | (simp [abtV, c10, z16_0]; done)
      exact W.iret (v := (nI (av S 1 (fd S x)))) hx hb hr (fun t ht hW => ⟨congrArg (fun z => Outcome.returned (some (Value.int z))) hv9, ht⟩) (fun _ h => by cases h) dX5_about_60
    · skip
      by_cases z16_1 : wh = 1
      · refine lv_tableIn (tgt := 61) hx hb dX5_about_16 (by rw [z16_1]; decide) (by rw [z16_1]; decide) (by rw [z16_1]; rfl) (by decide) ?_
        refine lv_aload_n hx hb dX5_about_61 rfl (lv_at hl 1 rfl) ?_
        refine va_get (D := D) (ci := 5) (v := Value.ref (a 1)) (C := "ReaderRows") (T := TX5) (N := 6) hx hb ht inX5 hown hK hP 0 rfl rfl 0 (by decide) (ht _ m_138) (fun _ h9 => h9) rfl dX5_about_62 ?_
        refine lv_iload_n hx hb dX5_about_65 rfl (lv_at hl 0 rfl) ?_
        refine r_callR (r := Value.int (nI (av S 2 (fd S x)))) (As := [Value.int (nI (fd S x))]) (rest := []) ⟨hx, hb, hml, hown, ht⟩ (c_rd_guardianOf l D g a S hB (fd S x) (by omega)) (cwV 1 ht (gdV m_172 m_173 m_174 m_2 m_175) rfl rfl rfl (by decide +kernel) ⟨Nat.le_of_ble_eq_true rfl, Nat.le_of_ble_eq_true rfl⟩) (va_recv hK hP (ci := 3) (q0 := 1) rfl rfl) hP hK rfl hl.1 rfl (Nat.le_of_ble_eq_true rfl) dX5_about_66 ⟨Nat.zero_le _, Nat.zero_le _⟩ ?_
        have b_guardianOf38 : av S 2 (fd S x) ≤ 60 := hB.2 2 _
        have hv9 : (nI (av S 2 (fd S x))) = (abtV S x wh) := by first | (simp only [abtV, if_neg c10, if_neg z16_0, if_pos z16_1]; done) | (with_reducible rfl) | (simp only [abtV, if_neg c10, if_neg z16_0, if_pos z16_1]; rfl) | rfl | (simp [abtV, c10, z16_0, z16_1]; done)
        exact W.iret (v := (nI (av S 2 (fd S x)))) hx hb hr (fun t ht hW => ⟨congrArg (fun z => Outcome.returned (some (Value.int z))) hv9, ht⟩) (fun _ h => by cases h) dX5_about_69
      · skip
        by_cases z16_2 : wh = 2
        · refine lv_tableIn (tgt := 70) hx hb dX5_about_16 (by rw [z16_2]; decide) (by rw [z16_2]; decide) (by rw [z16_2]; rfl) (by decide) ?_
          refine lv_aload_n hx hb dX5_about_70 rfl (lv_at hl 1 rfl) ?_
          refine va_get (D := D) (ci := 5) (v := Value.ref (a 3)) (C := "ReaderRows") (T := TX5) (N := 6) hx hb ht inX5 hown hK hP 0 rfl rfl 2 (by decide) (ht _ m_140) (fun _ h9 => h9) rfl dX5_about_71 ?_
          refine lv_iload_n hx hb dX5_about_74 rfl (lv_at hl 0 rfl) ?_
          refine r_callR (r := Value.int (nI (co S (fd S x)))) (As := [Value.int (nI (fd S x))]) (rest := []) ⟨hx, hb, hml, hown, ht⟩ (c_ca_countOf l D g a S hB (fd S x) (by omega)) (cwV 1 ht (gdV m_180 m_181 m_182 m_4 m_183) rfl rfl rfl (by decide +kernel) ⟨Nat.le_of_ble_eq_true rfl, Nat.le_of_ble_eq_true rfl⟩) (va_recv hK hP (ci := 0) (q0 := 3) rfl rfl) hP hK rfl hl.1 rfl (Nat.le_of_ble_eq_true rfl) dX5_about_75 ⟨Nat.zero_le _, Nat.zero_le _⟩ ?_
          have b_co48 : co S (fd S x) ≤ 300 := Nat.le_trans (ct_le _ _) (hB.1 1)
          have hv9 : (nI (co S (fd S x))) = (abtV S x wh) := by first | (simp only [abtV, if_neg c10, if_neg z16_0, if_neg z16_1, if_pos z16_2]; done) | (with_reducible rfl) | (simp only [abtV, if_neg c10, if_neg z16_0, if_neg z16_1, if_pos z16_2]; rfl) | rfl | (simp [abtV, c10, z16_0, z16_1, z16_2]; done)
          exact W.iret (v := (nI (co S (fd S x)))) hx hb hr (fun t ht hW => ⟨congrArg (fun z => Outcome.returned (some (Value.int z))) hv9, ht⟩) (fun _ h => by cases h) dX5_about_78
        · skip
          by_cases z16_3 : wh = 3
          · refine lv_tableIn (tgt := 79) hx hb dX5_about_16 (by rw [z16_3]; decide) (by rw [z16_3]; decide) (by rw [z16_3]; rfl) (by decide) ?_
            refine lv_aload_n hx hb dX5_about_79 rfl (lv_at hl 1 rfl) ?_
            refine va_get (D := D) (ci := 5) (v := Value.ref (a 1)) (C := "ReaderRows") (T := TX5) (N := 6) hx hb ht inX5 hown hK hP 0 rfl rfl 0 (by decide) (ht _ m_138) (fun _ h9 => h9) rfl dX5_about_80 ?_
            refine lv_iload_n hx hb dX5_about_83 rfl (lv_at hl 0 rfl) ?_
            refine r_callR (r := Value.int (nI (av S 3 (fd S x)))) (As := [Value.int (nI (fd S x))]) (rest := []) ⟨hx, hb, hml, hown, ht⟩ (c_rd_hasConsent l D g a S hB (fd S x) (by omega)) (cwV 1 ht (gdV m_236 m_237 m_238 m_2 m_239) rfl rfl rfl (by decide +kernel) ⟨Nat.le_of_ble_eq_true rfl, Nat.le_of_ble_eq_true rfl⟩) (va_recv hK hP (ci := 3) (q0 := 1) rfl rfl) hP hK rfl hl.1 rfl (Nat.le_of_ble_eq_true rfl) dX5_about_84 ⟨Nat.zero_le _, Nat.zero_le _⟩ ?_
            have b_hasConsent58 : av S 3 (fd S x) ≤ 1 := hB.2 3 _
            refine r_if_eq_n (tgt := 94) hx hb dX5_about_87 (by decide) (by omega) (fun c87 => ?_) (fun c87 => ?_)
            · refine lv_iconst (v := (nI 0)) hx hb dX5_about_94 (by decide) ?_
              have hv9 : (nI 0) = (abtV S x wh) := by first | (simp only [abtV, if_neg c10, if_neg z16_0, if_neg z16_1, if_neg z16_2, if_pos z16_3, if_pos c87]; done) | (with_reducible rfl) | (simp only [abtV, if_neg c10, if_neg z16_0, if_neg z16_1, if_neg z16_2, if_pos z16_3, if_pos c87]; rfl) | rfl | (simp [abtV, c10, z16_0, z16_1, z16_2, z16_3, c87]; done)
              exact W.iret (v := (nI 0)) hx hb hr (fun t ht hW => ⟨congrArg (fun z => Outcome.returned (some (Value.int z))) hv9, ht⟩) (fun _ h => by cases h) dX5_about_95
            · refine lv_iconst (v := (nI 1)) hx hb dX5_about_90 (by decide) ?_
              refine lv_goto (tgt := 95) hx hb dX5_about_91 (by decide) ?_
              have hv9 : (nI 1) = (abtV S x wh) := by first | (simp only [abtV, if_neg c10, if_neg z16_0, if_neg z16_1, if_neg z16_2, if_pos z16_3, if_neg c87]; done) | (with_reducible rfl) | (simp only [abtV, if_neg c10, if_neg z16_0, if_neg z16_1, if_neg z16_2, if_pos z16_3, if_neg c87]; rfl) | rfl | (simp [abtV, c10, z16_0, z16_1, z16_2, z16_3, c87]; done)
              exact W.iret (v := (nI 1)) hx hb hr (fun t ht hW => ⟨congrArg (fun z => Outcome.returned (some (Value.int z))) hv9, ht⟩) (fun _ h => by cases h) dX5_about_95
          · skip
            by_cases z16_4 : wh = 4
            · refine lv_tableIn (tgt := 96) hx hb dX5_about_16 (by rw [z16_4]; decide) (by rw [z16_4]; decide) (by rw [z16_4]; rfl) (by decide) ?_
              refine lv_aload_n hx hb dX5_about_96 rfl (lv_at hl 1 rfl) ?_
              refine va_get (D := D) (ci := 5) (v := Value.ref (a 4)) (C := "ReaderRows") (T := TX5) (N := 6) hx hb ht inX5 hown hK hP 0 rfl rfl 3 (by decide) (ht _ m_141) (fun _ h9 => h9) rfl dX5_about_97 ?_
              refine lv_iload_n hx hb dX5_about_100 rfl (lv_at hl 0 rfl) ?_
              refine r_callR (r := Value.int (nI (cnm S (fd S x)))) (As := [Value.int (nI (fd S x))]) (rest := []) ⟨hx, hb, hml, hown, ht⟩ (c_lo_countNamed l D g a S hB (fd S x) (by omega)) (cwV 1 ht (gdV m_449 m_450 m_451 m_5 m_452) rfl rfl rfl (by decide +kernel) ⟨Nat.le_of_ble_eq_true rfl, Nat.le_of_ble_eq_true rfl⟩) (va_recv hK hP (ci := 1) (q0 := 4) rfl rfl) hP hK rfl hl.1 rfl (Nat.le_of_ble_eq_true rfl) dX5_about_101 ⟨Nat.zero_le _, Nat.zero_le _⟩ ?_
              have hv9 : (nI (cnm S (fd S x))) = (abtV S x wh) := by first | (simp only [abtV, if_neg c10, if_neg z16_0, if_neg z16_1, if_neg z16_2, if_neg z16_3, if_pos z16_4]; done) | (with_reducible rfl) | (simp only [abtV, if_neg c10, if_neg z16_0, if_neg z16_1, if_neg z16_2, if_neg z16_3, if_pos z16_4]; rfl) | rfl | (simp [abtV, c10, z16_0, z16_1, z16_2, z16_3, z16_4]; done)
              exact W.iret (v := (nI (cnm S (fd S x)))) hx hb hr (fun t ht hW => ⟨congrArg (fun z => Outcome.returned (some (Value.int z))) hv9, ht⟩) (fun _ h => by cases h) dX5_about_104
            · skip
              refine lv_tableOut (tgt := 105) hx hb dX5_about_16 (by have q0 := lv_neT (a := 0) z16_0 (by decide); have q1 := lv_neT (a := 1) z16_1 (by decide); have q2 := lv_neT (a := 2) z16_2 (by decide); have q3 := lv_neT (a := 3) z16_3 (by decide); have q4 := lv_neT (a := 4) z16_4 (by decide); omega) (by decide) ?_
              refine lv_iconst (v := (-1)) hx hb dX5_about_105 (by decide) ?_
              have hv9 : (-1) = (abtV S x wh) := by first | (simp only [abtV, if_neg c10, if_neg z16_0, if_neg z16_1, if_neg z16_2, if_neg z16_3, if_neg z16_4]; done) | (with_reducible rfl) | (simp only [abtV, if_neg c10, if_neg z16_0, if_neg z16_1, if_neg z16_2, if_neg z16_3, if_neg z16_4]; rfl) | rfl | (simp [abtV, c10, z16_0, z16_1, z16_2, z16_3, z16_4]; done)
              exact W.iret (v := (-1)) hx hb hr (fun t ht hW => ⟨congrArg (fun z => Outcome.returned (some (Value.int z))) hv9, ht⟩) (fun _ h => by cases h) dX5_about_106
  · refine lv_iconst (v := (-1)) hx hb dX5_about_13 (by decide) ?_
    have hv9 : (-1) = (abtV S x wh) := by first | (simp only [abtV, if_pos c10]; done) | (with_reducible rfl) | (simp only [abtV, if_pos c10]; rfl) | rfl | (simp [abtV, c10]; done)
    exact W.iret (v := (-1)) hx hb hr (fun t ht hW => ⟨congrArg (fun z => Outcome.returned (some (Value.int z))) hv9, ht⟩) (fun _ h => by cases h) dX5_about_14

set_option maxRecDepth 100000 in
set_option maxHeartbeats 4000000 in
theorem c_rr_statistics (l : Launch) (D : va_G) (g : Nat → ClassId) (a : Nat → Nat)  (S : St) (hB : cbd S) (x : Int32) (fr to : Int64) : Met l yX5_statistics wsX5_statistics ({ frames := 1, cells := 0, slots := 0, locals := 27 } : Room) (va_Pc [Value.ref (a 0), Value.int x, Value.long fr, Value.long to] (wPre D vwCl (clW g a S) (clT g))) (k2_QcV (Value.int (staV S x fr to))) 0 0 (fun _ => False) := by
  refine Met.ofW (cc := cX5_statistics) (maxL := 6) (ret := (some .int)) (by decide) rfl ?_
  intro p e s m args below meth c s₁ B hml hv
  obtain ⟨rfl, hP, hK⟩ := hv
  have hx := B.exec
  have hb := B.bytes
  have hr := B.returns
  have hts := atoms_spec (ws := wsX5_statistics) B.pre
  have ht := fun (w : Cond) (h : w ∈ lw_g) => hts w (List.mem_cons_of_mem _ h)
  have hown : s.vm.findClass "ReaderRows" = some m.cls := findClass_of_methodNamed B.named
  have hlocks := B.notSynchronized
  have hl := lv_entry ([Value.ref (a 0), Value.int x, Value.long fr, Value.long to]) (n := 6) (Nat.le_of_ble_eq_true rfl)
  rw [lg_entry_eq]
  generalize (lg_sl ([Value.ref (a 0), Value.int x, Value.long fr, Value.long to]) ++ List.replicate (6 - (lg_sl ([Value.ref (a 0), Value.int x, Value.long fr, Value.long to])).length) Slot.unset).toArray = ls at hl ⊢
  have hl : lv_has ls 6 [(0, Value.ref (a 0)), (1, Value.int x), (2, Value.long fr), (4, Value.long to)] := hl
  refine lv_iload_n hx hb dX5_statistics_0 rfl (lv_at hl 1 rfl) ?_
  refine r_callS (As := [Value.int x]) (rest := []) ⟨hx, hb, hml, hown, ht⟩ (c_rr_isKind l x) (cwS 1 ht (gdS m_161 m_162 m_1 m_163) rfl rfl rfl (by decide +kernel) ⟨Nat.le_of_ble_eq_true rfl, Nat.le_of_ble_eq_true rfl⟩) rfl hl.1 rfl (Nat.le_of_ble_eq_true rfl) dX5_statistics_1 ⟨Nat.zero_le _, Nat.zero_le _⟩ ?_
  refine r_if_eq_b (tgt := 21) hx hb dX5_statistics_4 (by decide) (fun c4 => ?_) (fun c4 => ?_)
  · refine lv_iconst (v := (-1)) hx hb dX5_statistics_21 (by decide) ?_
    have hv9 : (-1) = (staV S x fr to) := by first | (simp only [staV, if_neg c4]; done) | (simp only [staV, if_neg c4, nI_clamp (show k < 2 ^ 31 by omega)]; done)
    exact W.iret (v := (-1)) hx hb hr (fun t ht hW => ⟨congrArg (fun z => Outcome.returned (some (Value.int z))) hv9, ht⟩) (fun _ h => by cases h) dX5_statistics_22
  · obtain ⟨k, hk, rfl⟩ := r_kind (by decide) c4.1 c4.2
    refine lv_aload_n hx hb dX5_statistics_7 rfl (lv_at hl 0 rfl) ?_
    refine va_get (D := D) (ci := 5) (v := Value.ref (a 4)) (C := "ReaderRows") (T := TX5) (N := 6) hx hb ht inX5 hown hK hP 0 rfl rfl 3 (by decide) (ht _ m_141) (fun _ h9 => h9) rfl dX5_statistics_8 ?_
    refine lv_iload_n hx hb dX5_statistics_11 rfl (lv_at hl 1 rfl) ?_
    refine lv_lload_n hx hb dX5_statistics_12 rfl (lv_at hl 2 rfl) ?_
    refine lv_lload hx hb dX5_statistics_13 (lv_at hl 3 rfl) ?_
    refine r_callR (r := Value.int (nI (cbg S k fr to))) (As := [Value.int (nI k), Value.long fr, Value.long to]) (rest := []) ⟨hx, hb, hml, hown, ht⟩ (c_lo_countBegun l D g a S hB k fr to (by omega)) (cwV 3 ht (gdV m_457 m_458 m_459 m_5 m_460) rfl rfl rfl (by decide +kernel) ⟨Nat.le_of_ble_eq_true rfl, Nat.le_of_ble_eq_true rfl⟩) (va_recv hK hP (ci := 1) (q0 := 4) rfl rfl) hP hK rfl hl.1 rfl (Nat.le_of_ble_eq_true rfl) dX5_statistics_15 ⟨Nat.zero_le _, Nat.zero_le _⟩ ?_
    refine lv_goto (tgt := 22) hx hb dX5_statistics_18 (by decide) ?_
    have hv9 : (nI (cbg S k fr to)) = (staV S (nI k) fr to) := by first | (simp only [staV, if_pos c4]; done) | (simp only [staV, if_pos c4, nI_clamp (show k < 2 ^ 31 by omega)]; done)
    exact W.iret (v := (nI (cbg S k fr to))) hx hb hr (fun t ht hW => ⟨congrArg (fun z => Outcome.returned (some (Value.int z))) hv9, ht⟩) (fun _ h => by cases h) dX5_statistics_22
end
