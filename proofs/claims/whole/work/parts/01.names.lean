-- ===== PART A: goes FIRST, ahead of the names: the tables' words, and 'selects' of the private methods out of them =====
/-- a private method of a class that the tables say can be made, by its rows of tables_1 -/
def lw_okq (q : MethodName × Nat) : Prop := (q.1.cls ≠ "java/lang/invoke/MethodHandle" ∧ q.1.cls ≠ "java/lang/invoke/VarHandle") ∧ Cond.instantiable q.1.cls q.2 ∈ tables_1 ∧ Cond.privateMethod q.1 ∈ tables_1 ∧ Cond.instanceMethod q.1 ∈ tables_1
theorem lw_p0 : lw_okq (⟨"ReaderRows$Cards", "placeOf", "(I)I"⟩, 4) := ⟨⟨by decide +kernel, by decide +kernel⟩, List.mem_of_getElem? (i := 67) (by decide +kernel), List.mem_of_getElem? (i := 189) (by decide +kernel), List.mem_of_getElem? (i := 190) (by decide +kernel)⟩
theorem lw_p1 : lw_okq (⟨"ReaderRows", "anonymiseLoansOf", "(IJ)I"⟩, 6) := ⟨⟨by decide +kernel, by decide +kernel⟩, List.mem_of_getElem? (i := 10) (by decide +kernel), List.mem_of_getElem? (i := 245) (by decide +kernel), List.mem_of_getElem? (i := 246) (by decide +kernel)⟩
theorem lw_p2 : lw_okq (⟨"ReaderRows", "anonymiseUnlessKept", "(IJ)Z"⟩, 6) := ⟨⟨by decide +kernel, by decide +kernel⟩, List.mem_of_getElem? (i := 10) (by decide +kernel), List.mem_of_getElem? (i := 257) (by decide +kernel), List.mem_of_getElem? (i := 258) (by decide +kernel)⟩
theorem lw_p3 : lw_okq (⟨"ReaderRows", "isKept", "(IJ)Z"⟩, 6) := ⟨⟨by decide +kernel, by decide +kernel⟩, List.mem_of_getElem? (i := 10) (by decide +kernel), List.mem_of_getElem? (i := 265) (by decide +kernel), List.mem_of_getElem? (i := 266) (by decide +kernel)⟩
theorem lw_p4 : lw_okq (⟨"ReaderRows$Loans", "putInOrder", "(I)V"⟩, 8) := ⟨⟨by decide +kernel, by decide +kernel⟩, List.mem_of_getElem? (i := 86) (by decide +kernel), List.mem_of_getElem? (i := 294) (by decide +kernel), List.mem_of_getElem? (i := 295) (by decide +kernel)⟩
theorem lw_p5 : lw_okq (⟨"ReaderRows", "mayJoin", "(II)Z"⟩, 6) := ⟨⟨by decide +kernel, by decide +kernel⟩, List.mem_of_getElem? (i := 10) (by decide +kernel), List.mem_of_getElem? (i := 319) (by decide +kernel), List.mem_of_getElem? (i := 320) (by decide +kernel)⟩
theorem lw_p6 : lw_okq (⟨"ReaderRows$Row", "readName", "()V"⟩, 5) := ⟨⟨by decide +kernel, by decide +kernel⟩, List.mem_of_getElem? (i := 117) (by decide +kernel), List.mem_of_getElem? (i := 362) (by decide +kernel), List.mem_of_getElem? (i := 363) (by decide +kernel)⟩
theorem lw_p7 : lw_okq (⟨"ReaderRows$Row", "isAmong", "(III)Z"⟩, 5) := ⟨⟨by decide +kernel, by decide +kernel⟩, List.mem_of_getElem? (i := 117) (by decide +kernel), List.mem_of_getElem? (i := 366) (by decide +kernel), List.mem_of_getElem? (i := 367) (by decide +kernel)⟩
theorem lw_p8 : lw_okq (⟨"ReaderRows$Row", "readYear", "(I)I"⟩, 5) := ⟨⟨by decide +kernel, by decide +kernel⟩, List.mem_of_getElem? (i := 117) (by decide +kernel), List.mem_of_getElem? (i := 374) (by decide +kernel), List.mem_of_getElem? (i := 375) (by decide +kernel)⟩
theorem lw_p9 : lw_okq (⟨"ReaderRows", "importFittingRow", "()I"⟩, 6) := ⟨⟨by decide +kernel, by decide +kernel⟩, List.mem_of_getElem? (i := 10) (by decide +kernel), List.mem_of_getElem? (i := 378) (by decide +kernel), List.mem_of_getElem? (i := 379) (by decide +kernel)⟩
theorem lw_p10 : lw_okq (⟨"ReaderRows", "firstNamed", "()I"⟩, 6) := ⟨⟨by decide +kernel, by decide +kernel⟩, List.mem_of_getElem? (i := 10) (by decide +kernel), List.mem_of_getElem? (i := 382) (by decide +kernel), List.mem_of_getElem? (i := 383) (by decide +kernel)⟩
theorem lw_p11 : lw_okq (⟨"ReaderRows$Names", "letterAt", "(II)I"⟩, 4) := ⟨⟨by decide +kernel, by decide +kernel⟩, List.mem_of_getElem? (i := 47) (by decide +kernel), List.mem_of_getElem? (i := 406) (by decide +kernel), List.mem_of_getElem? (i := 407) (by decide +kernel)⟩
theorem lw_p12 : lw_okq (⟨"ReaderRows", "nearestNamed", "()I"⟩, 6) := ⟨⟨by decide +kernel, by decide +kernel⟩, List.mem_of_getElem? (i := 10) (by decide +kernel), List.mem_of_getElem? (i := 431) (by decide +kernel), List.mem_of_getElem? (i := 432) (by decide +kernel)⟩
theorem lw_p13 : lw_okq (⟨"ReaderRowsModel", "who", "(I)I"⟩, 27) := ⟨⟨by decide +kernel, by decide +kernel⟩, List.mem_of_getElem? (i := 462) (by decide +kernel), List.mem_of_getElem? (i := 556) (by decide +kernel), List.mem_of_getElem? (i := 557) (by decide +kernel)⟩
theorem lw_p14 : lw_okq (⟨"ReaderRowsModel", "has", "(I)I"⟩, 27) := ⟨⟨by decide +kernel, by decide +kernel⟩, List.mem_of_getElem? (i := 462) (by decide +kernel), List.mem_of_getElem? (i := 567) (by decide +kernel), List.mem_of_getElem? (i := 568) (by decide +kernel)⟩
theorem lw_p15 : lw_okq (⟨"ReaderRowsModel", "find", "(I)I"⟩, 27) := ⟨⟨by decide +kernel, by decide +kernel⟩, List.mem_of_getElem? (i := 462) (by decide +kernel), List.mem_of_getElem? (i := 571) (by decide +kernel), List.mem_of_getElem? (i := 572) (by decide +kernel)⟩
def lw_privs_1 : List (MethodName × Nat) := [(⟨"ReaderRows$Cards", "placeOf", "(I)I"⟩, 4), (⟨"ReaderRows", "anonymiseLoansOf", "(IJ)I"⟩, 6), (⟨"ReaderRows", "anonymiseUnlessKept", "(IJ)Z"⟩, 6), (⟨"ReaderRows", "isKept", "(IJ)Z"⟩, 6), (⟨"ReaderRows$Loans", "putInOrder", "(I)V"⟩, 8), (⟨"ReaderRows", "mayJoin", "(II)Z"⟩, 6), (⟨"ReaderRows$Row", "readName", "()V"⟩, 5), (⟨"ReaderRows$Row", "isAmong", "(III)Z"⟩, 5), (⟨"ReaderRows$Row", "readYear", "(I)I"⟩, 5), (⟨"ReaderRows", "importFittingRow", "()I"⟩, 6), (⟨"ReaderRows", "firstNamed", "()I"⟩, 6), (⟨"ReaderRows$Names", "letterAt", "(II)I"⟩, 4), (⟨"ReaderRows", "nearestNamed", "()I"⟩, 6), (⟨"ReaderRowsModel", "who", "(I)I"⟩, 27), (⟨"ReaderRowsModel", "has", "(I)I"⟩, 27), (⟨"ReaderRowsModel", "find", "(I)I"⟩, 27)]
theorem lw_r1 : ∀ q ∈ lw_privs_1, lw_okq q := List.forall_mem_cons.mpr ⟨lw_p0, List.forall_mem_cons.mpr ⟨lw_p1, List.forall_mem_cons.mpr ⟨lw_p2, List.forall_mem_cons.mpr ⟨lw_p3, List.forall_mem_cons.mpr ⟨lw_p4, List.forall_mem_cons.mpr ⟨lw_p5, List.forall_mem_cons.mpr ⟨lw_p6, List.forall_mem_cons.mpr ⟨lw_p7, List.forall_mem_cons.mpr ⟨lw_p8, List.forall_mem_cons.mpr ⟨lw_p9, List.forall_mem_cons.mpr ⟨lw_p10, List.forall_mem_cons.mpr ⟨lw_p11, List.forall_mem_cons.mpr ⟨lw_p12, List.forall_mem_cons.mpr ⟨lw_p13, List.forall_mem_cons.mpr ⟨lw_p14, List.forall_mem_cons.mpr ⟨lw_p15, fun _ h => absurd h List.not_mem_nil⟩⟩⟩⟩⟩⟩⟩⟩⟩⟩⟩⟩⟩⟩⟩⟩
theorem lw_p16 : lw_okq (⟨"ReaderRowsModel", "add", "(II)V"⟩, 27) := ⟨⟨by decide +kernel, by decide +kernel⟩, List.mem_of_getElem? (i := 462) (by decide +kernel), List.mem_of_getElem? (i := 575) (by decide +kernel), List.mem_of_getElem? (i := 576) (by decide +kernel)⟩
theorem lw_p17 : lw_okq (⟨"ReaderRowsModel", "lasts", "(IIJ)Z"⟩, 27) := ⟨⟨by decide +kernel, by decide +kernel⟩, List.mem_of_getElem? (i := 462) (by decide +kernel), List.mem_of_getElem? (i := 599) (by decide +kernel), List.mem_of_getElem? (i := 600) (by decide +kernel)⟩
theorem lw_p18 : lw_okq (⟨"ReaderRowsModel", "forget", "(IJ)I"⟩, 27) := ⟨⟨by decide +kernel, by decide +kernel⟩, List.mem_of_getElem? (i := 462) (by decide +kernel), List.mem_of_getElem? (i := 607) (by decide +kernel), List.mem_of_getElem? (i := 608) (by decide +kernel)⟩
theorem lw_p19 : lw_okq (⟨"ReaderRowsModel", "isKept", "(IJ)Z"⟩, 27) := ⟨⟨by decide +kernel, by decide +kernel⟩, List.mem_of_getElem? (i := 462) (by decide +kernel), List.mem_of_getElem? (i := 611) (by decide +kernel), List.mem_of_getElem? (i := 612) (by decide +kernel)⟩
theorem lw_p20 : lw_okq (⟨"ReaderRowsModel", "isFor", "(IIJ)Z"⟩, 27) := ⟨⟨by decide +kernel, by decide +kernel⟩, List.mem_of_getElem? (i := 462) (by decide +kernel), List.mem_of_getElem? (i := 628) (by decide +kernel), List.mem_of_getElem? (i := 629) (by decide +kernel)⟩
theorem lw_p21 : lw_okq (⟨"ReaderRowsModel", "reads", "()Z"⟩, 27) := ⟨⟨by decide +kernel, by decide +kernel⟩, List.mem_of_getElem? (i := 462) (by decide +kernel), List.mem_of_getElem? (i := 653) (by decide +kernel), List.mem_of_getElem? (i := 654) (by decide +kernel)⟩
theorem lw_p22 : lw_okq (⟨"ReaderRowsModel", "letters", "()I"⟩, 27) := ⟨⟨by decide +kernel, by decide +kernel⟩, List.mem_of_getElem? (i := 462) (by decide +kernel), List.mem_of_getElem? (i := 657) (by decide +kernel), List.mem_of_getElem? (i := 658) (by decide +kernel)⟩
theorem lw_p23 : lw_okq (⟨"ReaderRowsModel", "look", "()I"⟩, 27) := ⟨⟨by decide +kernel, by decide +kernel⟩, List.mem_of_getElem? (i := 462) (by decide +kernel), List.mem_of_getElem? (i := 661) (by decide +kernel), List.mem_of_getElem? (i := 662) (by decide +kernel)⟩
theorem lw_p24 : lw_okq (⟨"ReaderRowsModel", "isNamed", "(II)Z"⟩, 27) := ⟨⟨by decide +kernel, by decide +kernel⟩, List.mem_of_getElem? (i := 462) (by decide +kernel), List.mem_of_getElem? (i := 665) (by decide +kernel), List.mem_of_getElem? (i := 666) (by decide +kernel)⟩
theorem lw_p25 : lw_okq (⟨"ReaderRowsModel", "far", "(II)I"⟩, 27) := ⟨⟨by decide +kernel, by decide +kernel⟩, List.mem_of_getElem? (i := 462) (by decide +kernel), List.mem_of_getElem? (i := 673) (by decide +kernel), List.mem_of_getElem? (i := 674) (by decide +kernel)⟩
def lw_privs_2 : List (MethodName × Nat) := [(⟨"ReaderRowsModel", "add", "(II)V"⟩, 27), (⟨"ReaderRowsModel", "lasts", "(IIJ)Z"⟩, 27), (⟨"ReaderRowsModel", "forget", "(IJ)I"⟩, 27), (⟨"ReaderRowsModel", "isKept", "(IJ)Z"⟩, 27), (⟨"ReaderRowsModel", "isFor", "(IIJ)Z"⟩, 27), (⟨"ReaderRowsModel", "reads", "()Z"⟩, 27), (⟨"ReaderRowsModel", "letters", "()I"⟩, 27), (⟨"ReaderRowsModel", "look", "()I"⟩, 27), (⟨"ReaderRowsModel", "isNamed", "(II)Z"⟩, 27), (⟨"ReaderRowsModel", "far", "(II)I"⟩, 27)]
theorem lw_r2 : ∀ q ∈ lw_privs_2, lw_okq q := List.forall_mem_cons.mpr ⟨lw_p16, List.forall_mem_cons.mpr ⟨lw_p17, List.forall_mem_cons.mpr ⟨lw_p18, List.forall_mem_cons.mpr ⟨lw_p19, List.forall_mem_cons.mpr ⟨lw_p20, List.forall_mem_cons.mpr ⟨lw_p21, List.forall_mem_cons.mpr ⟨lw_p22, List.forall_mem_cons.mpr ⟨lw_p23, List.forall_mem_cons.mpr ⟨lw_p24, List.forall_mem_cons.mpr ⟨lw_p25, fun _ h => absurd h List.not_mem_nil⟩⟩⟩⟩⟩⟩⟩⟩⟩⟩
def lw_privs : List (MethodName × Nat) := lw_privs_1 ++ (lw_privs_2)
def lw_tbl : List Cond := k2_sels lw_privs ++ tables_1
theorem lw_privs_ok : ∀ q ∈ lw_privs, lw_okq q := by
  show ∀ q ∈ lw_privs_1 ++ (lw_privs_2), lw_okq q
  exact List.forall_mem_append.mpr ⟨lw_r1, lw_r2⟩

-- the classes
def TX0 : u_T := fun k => match k with
  | 0 => ("ReaderRows$Cards", "count", "I", false)
  | 1 => ("ReaderRows$Cards", "codes", "[I", true)
  | 2 => ("ReaderRows$Cards", "holders", "[I", true)
  | _ => ("ReaderRows$Cards", "isLost", "[Z", true)
def tyX0 : Nat → FieldType := fun k => match k with
  | 0 => .int
  | 1 => .array .int
  | 2 => .array .int
  | _ => .array .boolean
theorem nmX0 : ∀ a, a < 4 → ∀ b, b < 4 → a ≠ b → (TX0 a).2.1 ≠ (TX0 b).2.1 := by decide +kernel
theorem tyX0_ok : ∀ k, k < 4 → parseFieldDescriptor (TX0 k).2.2.1 = some (tyX0 k) := by decide +kernel
def TX1 : u_T := fun k => match k with
  | 0 => ("ReaderRows$Loans", "count", "I", false)
  | 1 => ("ReaderRows$Loans", "holders", "[I", true)
  | 2 => ("ReaderRows$Loans", "kindsThen", "[I", true)
  | 3 => ("ReaderRows$Loans", "items", "[I", true)
  | 4 => ("ReaderRows$Loans", "firstDays", "[J", true)
  | 5 => ("ReaderRows$Loans", "lastDays", "[J", true)
  | 6 => ("ReaderRows$Loans", "anonymous", "[Z", true)
  | _ => ("ReaderRows$Loans", "byLastDay", "[I", true)
def tyX1 : Nat → FieldType := fun k => match k with
  | 0 => .int
  | 1 => .array .int
  | 2 => .array .int
  | 3 => .array .int
  | 4 => .array .long
  | 5 => .array .long
  | 6 => .array .boolean
  | _ => .array .int
theorem nmX1 : ∀ a, a < 8 → ∀ b, b < 8 → a ≠ b → (TX1 a).2.1 ≠ (TX1 b).2.1 := by decide +kernel
theorem tyX1_ok : ∀ k, k < 8 → parseFieldDescriptor (TX1 k).2.2.1 = some (tyX1 k) := by decide +kernel
def TX2 : u_T := fun k => match k with
  | 0 => ("ReaderRows$Names", "letters", "[C", true)
  | 1 => ("ReaderRows$Names", "lengths", "[I", true)
  | 2 => ("ReaderRows$Names", "years", "[I", true)
  | _ => ("ReaderRows$Names", "changes", "[I", true)
def tyX2 : Nat → FieldType := fun k => match k with
  | 0 => .array .char
  | 1 => .array .int
  | 2 => .array .int
  | _ => .array .int
theorem nmX2 : ∀ a, a < 4 → ∀ b, b < 4 → a ≠ b → (TX2 a).2.1 ≠ (TX2 b).2.1 := by decide +kernel
theorem tyX2_ok : ∀ k, k < 4 → parseFieldDescriptor (TX2 k).2.2.1 = some (tyX2 k) := by decide +kernel
def TX3 : u_T := fun k => match k with
  | 0 => ("ReaderRows$Readers", "count", "I", false)
  | 1 => ("ReaderRows$Readers", "standsFor", "[I", true)
  | 2 => ("ReaderRows$Readers", "kinds", "[I", true)
  | 3 => ("ReaderRows$Readers", "guardians", "[I", true)
  | 4 => ("ReaderRows$Readers", "consents", "[Z", true)
  | _ => ("ReaderRows$Readers", "blockEnds", "[J", true)
def tyX3 : Nat → FieldType := fun k => match k with
  | 0 => .int
  | 1 => .array .int
  | 2 => .array .int
  | 3 => .array .int
  | 4 => .array .boolean
  | _ => .array .long
theorem nmX3 : ∀ a, a < 6 → ∀ b, b < 6 → a ≠ b → (TX3 a).2.1 ≠ (TX3 b).2.1 := by decide +kernel
theorem tyX3_ok : ∀ k, k < 6 → parseFieldDescriptor (TX3 k).2.2.1 = some (tyX3 k) := by decide +kernel
def TX4 : u_T := fun k => match k with
  | 0 => ("ReaderRows$Row", "length", "I", false)
  | 1 => ("ReaderRows$Row", "nameLength", "I", false)
  | 2 => ("ReaderRows$Row", "kind", "I", false)
  | 3 => ("ReaderRows$Row", "year", "I", false)
  | _ => ("ReaderRows$Row", "signs", "[I", true)
def tyX4 : Nat → FieldType := fun k => match k with
  | 0 => .int
  | 1 => .int
  | 2 => .int
  | 3 => .int
  | _ => .array .int
theorem nmX4 : ∀ a, a < 5 → ∀ b, b < 5 → a ≠ b → (TX4 a).2.1 ≠ (TX4 b).2.1 := by decide +kernel
theorem tyX4_ok : ∀ k, k < 5 → parseFieldDescriptor (TX4 k).2.2.1 = some (tyX4 k) := by decide +kernel
def TX5 : u_T := fun k => match k with
  | 0 => ("ReaderRows", "readers", "LReaderRows$Readers;", true)
  | 1 => ("ReaderRows", "names", "LReaderRows$Names;", true)
  | 2 => ("ReaderRows", "cards", "LReaderRows$Cards;", true)
  | 3 => ("ReaderRows", "loans", "LReaderRows$Loans;", true)
  | 4 => ("ReaderRows", "row", "LReaderRows$Row;", true)
  | _ => ("ReaderRows", "daysKept", "[I", true)
def tyX5 : Nat → FieldType := fun k => match k with
  | 0 => .object "ReaderRows$Readers"
  | 1 => .object "ReaderRows$Names"
  | 2 => .object "ReaderRows$Cards"
  | 3 => .object "ReaderRows$Loans"
  | 4 => .object "ReaderRows$Row"
  | _ => .array .int
theorem nmX5 : ∀ a, a < 6 → ∀ b, b < 6 → a ≠ b → (TX5 a).2.1 ≠ (TX5 b).2.1 := by decide +kernel
theorem tyX5_ok : ∀ k, k < 6 → parseFieldDescriptor (TX5 k).2.2.1 = some (tyX5 k) := by decide +kernel
def TX6 : u_T := fun k => match k with
  | 0 => ("ReaderRowsModel", "thrown", "I", false)
  | 1 => ("ReaderRowsModel", "readers", "I", false)
  | 2 => ("ReaderRowsModel", "into", "[I", true)
  | 3 => ("ReaderRowsModel", "kinds", "[I", true)
  | 4 => ("ReaderRowsModel", "guardians", "[I", true)
  | 5 => ("ReaderRowsModel", "consents", "[Z", true)
  | 6 => ("ReaderRowsModel", "blocks", "[J", true)
  | 7 => ("ReaderRowsModel", "names", "[B", true)
  | 8 => ("ReaderRowsModel", "nameSizes", "[I", true)
  | 9 => ("ReaderRowsModel", "years", "[I", true)
  | 10 => ("ReaderRowsModel", "cards", "[I", true)
  | 11 => ("ReaderRowsModel", "owners", "[I", true)
  | 12 => ("ReaderRowsModel", "lost", "[Z", true)
  | 13 => ("ReaderRowsModel", "cardCount", "I", false)
  | 14 => ("ReaderRowsModel", "loanReader", "[I", true)
  | 15 => ("ReaderRowsModel", "loanKind", "[I", true)
  | 16 => ("ReaderRowsModel", "loanItem", "[I", true)
  | 17 => ("ReaderRowsModel", "loanFrom", "[J", true)
  | 18 => ("ReaderRowsModel", "loanTo", "[J", true)
  | 19 => ("ReaderRowsModel", "nobody", "[Z", true)
  | 20 => ("ReaderRowsModel", "loans", "I", false)
  | 21 => ("ReaderRowsModel", "keeps", "[I", true)
  | 22 => ("ReaderRowsModel", "said", "[B", true)
  | 23 => ("ReaderRowsModel", "size", "I", false)
  | 24 => ("ReaderRowsModel", "at", "I", false)
  | 25 => ("ReaderRowsModel", "row", "[I", true)
  | _ => ("ReaderRowsModel", "next", "[I", true)
def tyX6 : Nat → FieldType := fun k => match k with
  | 0 => .int
  | 1 => .int
  | 2 => .array .int
  | 3 => .array .int
  | 4 => .array .int
  | 5 => .array .boolean
  | 6 => .array .long
  | 7 => .array .byte
  | 8 => .array .int
  | 9 => .array .int
  | 10 => .array .int
  | 11 => .array .int
  | 12 => .array .boolean
  | 13 => .int
  | 14 => .array .int
  | 15 => .array .int
  | 16 => .array .int
  | 17 => .array .long
  | 18 => .array .long
  | 19 => .array .boolean
  | 20 => .int
  | 21 => .array .int
  | 22 => .array .byte
  | 23 => .int
  | 24 => .int
  | 25 => .array .int
  | _ => .array .int
theorem nmX6 : ∀ a, a < 27 → ∀ b, b < 27 → a ≠ b → (TX6 a).2.1 ≠ (TX6 b).2.1 := by decide +kernel
theorem tyX6_ok : ∀ k, k < 27 → parseFieldDescriptor (TX6 k).2.2.1 = some (tyX6 k) := by decide +kernel
abbrev vwCl : List vw_C := [("ReaderRows$Cards", TX0, 4), ("ReaderRows$Loans", TX1, 8), ("ReaderRows$Names", TX2, 4), ("ReaderRows$Readers", TX3, 6), ("ReaderRows$Row", TX4, 5), ("ReaderRows", TX5, 6), ("ReaderRowsModel", TX6, 27)]
-- the words of the tables, each by its place
def lw_g : List Cond := lw_tbl.filter goodWord
theorem lw_gin {w : Cond} (h : w ∈ lw_g) : w ∈ lw_tbl := (List.mem_filter.mp h).1
theorem mg {w : Cond} (h : w ∈ lw_tbl) (hg : goodWord w = true) : w ∈ lw_g := List.mem_filter.mpr ⟨h, hg⟩
theorem m_0 : (.initialized "ReaderRowsLaw" : Cond) ∈ lw_g := mg (List.mem_append_right _ (List.mem_of_getElem? (i := 0) (by decide +kernel))) rfl
theorem m_1 : (.initialized "ReaderRows" : Cond) ∈ lw_g := mg (List.mem_append_right _ (List.mem_of_getElem? (i := 1) (by decide +kernel))) rfl
theorem m_2 : (.initialized "ReaderRows$Readers" : Cond) ∈ lw_g := mg (List.mem_append_right _ (List.mem_of_getElem? (i := 2) (by decide +kernel))) rfl
theorem m_3 : (.initialized "ReaderRows$Names" : Cond) ∈ lw_g := mg (List.mem_append_right _ (List.mem_of_getElem? (i := 3) (by decide +kernel))) rfl
theorem m_4 : (.initialized "ReaderRows$Cards" : Cond) ∈ lw_g := mg (List.mem_append_right _ (List.mem_of_getElem? (i := 4) (by decide +kernel))) rfl
theorem m_5 : (.initialized "ReaderRows$Loans" : Cond) ∈ lw_g := mg (List.mem_append_right _ (List.mem_of_getElem? (i := 5) (by decide +kernel))) rfl
theorem m_6 : (.initialized "ReaderRows$Row" : Cond) ∈ lw_g := mg (List.mem_append_right _ (List.mem_of_getElem? (i := 6) (by decide +kernel))) rfl
theorem m_7 : (.initialized "ReaderRowsModel" : Cond) ∈ lw_g := mg (List.mem_append_right _ (List.mem_of_getElem? (i := 7) (by decide +kernel))) rfl
theorem m_8 : (.initialized "java/lang/Math" : Cond) ∈ lw_g := mg (List.mem_append_right _ (List.mem_of_getElem? (i := 8) (by decide +kernel))) rfl
theorem m_9 : (.classLink "ReaderRowsLaw" 7 "ReaderRows" : Cond) ∈ lw_g := mg (List.mem_append_right _ (List.mem_of_getElem? (i := 9) (by decide +kernel))) rfl
theorem m_10 : (.instantiable "ReaderRows" 6 : Cond) ∈ lw_g := mg (List.mem_append_right _ (List.mem_of_getElem? (i := 10) (by decide +kernel))) rfl
theorem m_11 : (.methodLink "ReaderRowsLaw" 9 ⟨"ReaderRows", "<init>", "()V"⟩ : Cond) ∈ lw_g := mg (List.mem_append_right _ (List.mem_of_getElem? (i := 11) (by decide +kernel))) rfl
theorem m_12 : (.instanceMethod ⟨"ReaderRows", "<init>", "()V"⟩ : Cond) ∈ lw_g := mg (List.mem_append_right _ (List.mem_of_getElem? (i := 12) (by decide +kernel))) rfl
theorem m_13 : (.code ⟨"ReaderRows", "<init>", "()V"⟩ prog_1_method_1_code 2 none : Cond) ∈ lw_g := mg (List.mem_append_right _ (List.mem_of_getElem? (i := 13) (by decide +kernel))) rfl
theorem m_14 : (.methodLink "ReaderRows" 1 ⟨"java/lang/Object", "<init>", "()V"⟩ : Cond) ∈ lw_g := mg (List.mem_append_right _ (List.mem_of_getElem? (i := 14) (by decide +kernel))) rfl
theorem m_15 : (.instanceMethod ⟨"java/lang/Object", "<init>", "()V"⟩ : Cond) ∈ lw_g := mg (List.mem_append_right _ (List.mem_of_getElem? (i := 15) (by decide +kernel))) rfl
theorem m_16 : (.code ⟨"java/lang/Object", "<init>", "()V"⟩ object_method_1_code 1 none : Cond) ∈ lw_g := mg (List.mem_append_right _ (List.mem_of_getElem? (i := 16) (by decide +kernel))) rfl
theorem m_17 : (.classLink "ReaderRows" 7 "ReaderRows$Readers" : Cond) ∈ lw_g := mg (List.mem_append_right _ (List.mem_of_getElem? (i := 17) (by decide +kernel))) rfl
theorem m_18 : (.instantiable "ReaderRows$Readers" 6 : Cond) ∈ lw_g := mg (List.mem_append_right _ (List.mem_of_getElem? (i := 18) (by decide +kernel))) rfl
theorem m_19 : (.methodLink "ReaderRows" 9 ⟨"ReaderRows$Readers", "<init>", "()V"⟩ : Cond) ∈ lw_g := mg (List.mem_append_right _ (List.mem_of_getElem? (i := 19) (by decide +kernel))) rfl
theorem m_20 : (.instanceMethod ⟨"ReaderRows$Readers", "<init>", "()V"⟩ : Cond) ∈ lw_g := mg (List.mem_append_right _ (List.mem_of_getElem? (i := 20) (by decide +kernel))) rfl
theorem m_21 : (.code ⟨"ReaderRows$Readers", "<init>", "()V"⟩ prog_5_method_1_code 2 none : Cond) ∈ lw_g := mg (List.mem_append_right _ (List.mem_of_getElem? (i := 21) (by decide +kernel))) rfl
theorem m_22 : (.methodLink "ReaderRows$Readers" 3 ⟨"java/lang/Object", "<init>", "()V"⟩ : Cond) ∈ lw_g := mg (List.mem_append_right _ (List.mem_of_getElem? (i := 22) (by decide +kernel))) rfl
theorem m_23 : (.constantLong "ReaderRows$Readers" 33 (-1) : Cond) ∈ lw_g := mg (List.mem_append_right _ (List.mem_of_getElem? (i := 23) (by decide +kernel))) rfl
theorem m_24 : (.fieldLink "ReaderRows$Readers" 9 "ReaderRows$Readers" "count" "I" : Cond) ∈ lw_g := mg (List.mem_append_right _ (List.mem_of_getElem? (i := 24) (by decide +kernel))) rfl
theorem m_25 : (.fieldLink "ReaderRows$Readers" 15 "ReaderRows$Readers" "standsFor" "[I" : Cond) ∈ lw_g := mg (List.mem_append_right _ (List.mem_of_getElem? (i := 25) (by decide +kernel))) rfl
theorem m_26 : (.fieldLink "ReaderRows$Readers" 19 "ReaderRows$Readers" "kinds" "[I" : Cond) ∈ lw_g := mg (List.mem_append_right _ (List.mem_of_getElem? (i := 26) (by decide +kernel))) rfl
theorem m_27 : (.fieldLink "ReaderRows$Readers" 22 "ReaderRows$Readers" "guardians" "[I" : Cond) ∈ lw_g := mg (List.mem_append_right _ (List.mem_of_getElem? (i := 27) (by decide +kernel))) rfl
theorem m_28 : (.fieldLink "ReaderRows$Readers" 25 "ReaderRows$Readers" "consents" "[Z" : Cond) ∈ lw_g := mg (List.mem_append_right _ (List.mem_of_getElem? (i := 28) (by decide +kernel))) rfl
theorem m_29 : (.fieldLink "ReaderRows$Readers" 29 "ReaderRows$Readers" "blockEnds" "[J" : Cond) ∈ lw_g := mg (List.mem_append_right _ (List.mem_of_getElem? (i := 29) (by decide +kernel))) rfl
theorem m_30 : (.lays "ReaderRows$Readers" "ReaderRows$Readers" "count" "I" : Cond) ∈ lw_g := mg (List.mem_append_right _ (List.mem_of_getElem? (i := 30) (by decide +kernel))) rfl
theorem m_31 : (.soleField "ReaderRows$Readers" "count" : Cond) ∈ lw_g := mg (List.mem_append_right _ (List.mem_of_getElem? (i := 31) (by decide +kernel))) rfl
theorem m_32 : (.laysFinal "ReaderRows$Readers" "ReaderRows$Readers" "standsFor" "[I" : Cond) ∈ lw_g := mg (List.mem_append_right _ (List.mem_of_getElem? (i := 32) (by decide +kernel))) rfl
theorem m_33 : (.soleField "ReaderRows$Readers" "standsFor" : Cond) ∈ lw_g := mg (List.mem_append_right _ (List.mem_of_getElem? (i := 33) (by decide +kernel))) rfl
theorem m_34 : (.laysFinal "ReaderRows$Readers" "ReaderRows$Readers" "kinds" "[I" : Cond) ∈ lw_g := mg (List.mem_append_right _ (List.mem_of_getElem? (i := 34) (by decide +kernel))) rfl
theorem m_35 : (.soleField "ReaderRows$Readers" "kinds" : Cond) ∈ lw_g := mg (List.mem_append_right _ (List.mem_of_getElem? (i := 35) (by decide +kernel))) rfl
theorem m_36 : (.laysFinal "ReaderRows$Readers" "ReaderRows$Readers" "guardians" "[I" : Cond) ∈ lw_g := mg (List.mem_append_right _ (List.mem_of_getElem? (i := 36) (by decide +kernel))) rfl
theorem m_37 : (.soleField "ReaderRows$Readers" "guardians" : Cond) ∈ lw_g := mg (List.mem_append_right _ (List.mem_of_getElem? (i := 37) (by decide +kernel))) rfl
theorem m_38 : (.laysFinal "ReaderRows$Readers" "ReaderRows$Readers" "consents" "[Z" : Cond) ∈ lw_g := mg (List.mem_append_right _ (List.mem_of_getElem? (i := 38) (by decide +kernel))) rfl
theorem m_39 : (.soleField "ReaderRows$Readers" "consents" : Cond) ∈ lw_g := mg (List.mem_append_right _ (List.mem_of_getElem? (i := 39) (by decide +kernel))) rfl
theorem m_40 : (.laysFinal "ReaderRows$Readers" "ReaderRows$Readers" "blockEnds" "[J" : Cond) ∈ lw_g := mg (List.mem_append_right _ (List.mem_of_getElem? (i := 40) (by decide +kernel))) rfl
theorem m_41 : (.soleField "ReaderRows$Readers" "blockEnds" : Cond) ∈ lw_g := mg (List.mem_append_right _ (List.mem_of_getElem? (i := 41) (by decide +kernel))) rfl
theorem m_42 : (.superclass "ReaderRows$Readers" "java/lang/Object" : Cond) ∈ lw_g := mg (List.mem_append_right _ (List.mem_of_getElem? (i := 42) (by decide +kernel))) rfl
theorem m_43 : (.arrayClass .int : Cond) ∈ lw_g := mg (List.mem_append_right _ (List.mem_of_getElem? (i := 43) (by decide +kernel))) rfl
theorem m_44 : (.arrayClass .boolean : Cond) ∈ lw_g := mg (List.mem_append_right _ (List.mem_of_getElem? (i := 44) (by decide +kernel))) rfl
theorem m_45 : (.arrayClass .long : Cond) ∈ lw_g := mg (List.mem_append_right _ (List.mem_of_getElem? (i := 45) (by decide +kernel))) rfl
theorem m_46 : (.classLink "ReaderRows" 16 "ReaderRows$Names" : Cond) ∈ lw_g := mg (List.mem_append_right _ (List.mem_of_getElem? (i := 46) (by decide +kernel))) rfl
theorem m_47 : (.instantiable "ReaderRows$Names" 4 : Cond) ∈ lw_g := mg (List.mem_append_right _ (List.mem_of_getElem? (i := 47) (by decide +kernel))) rfl
theorem m_48 : (.methodLink "ReaderRows" 18 ⟨"ReaderRows$Names", "<init>", "()V"⟩ : Cond) ∈ lw_g := mg (List.mem_append_right _ (List.mem_of_getElem? (i := 48) (by decide +kernel))) rfl
theorem m_49 : (.instanceMethod ⟨"ReaderRows$Names", "<init>", "()V"⟩ : Cond) ∈ lw_g := mg (List.mem_append_right _ (List.mem_of_getElem? (i := 49) (by decide +kernel))) rfl
theorem m_50 : (.code ⟨"ReaderRows$Names", "<init>", "()V"⟩ prog_4_method_1_code 1 none : Cond) ∈ lw_g := mg (List.mem_append_right _ (List.mem_of_getElem? (i := 50) (by decide +kernel))) rfl
theorem m_51 : (.methodLink "ReaderRows$Names" 1 ⟨"java/lang/Object", "<init>", "()V"⟩ : Cond) ∈ lw_g := mg (List.mem_append_right _ (List.mem_of_getElem? (i := 51) (by decide +kernel))) rfl
theorem m_52 : (.fieldLink "ReaderRows$Names" 11 "ReaderRows$Names" "letters" "[C" : Cond) ∈ lw_g := mg (List.mem_append_right _ (List.mem_of_getElem? (i := 52) (by decide +kernel))) rfl
theorem m_53 : (.fieldLink "ReaderRows$Names" 17 "ReaderRows$Names" "lengths" "[I" : Cond) ∈ lw_g := mg (List.mem_append_right _ (List.mem_of_getElem? (i := 53) (by decide +kernel))) rfl
theorem m_54 : (.fieldLink "ReaderRows$Names" 21 "ReaderRows$Names" "years" "[I" : Cond) ∈ lw_g := mg (List.mem_append_right _ (List.mem_of_getElem? (i := 54) (by decide +kernel))) rfl
theorem m_55 : (.fieldLink "ReaderRows$Names" 24 "ReaderRows$Names" "changes" "[I" : Cond) ∈ lw_g := mg (List.mem_append_right _ (List.mem_of_getElem? (i := 55) (by decide +kernel))) rfl
theorem m_56 : (.laysFinal "ReaderRows$Names" "ReaderRows$Names" "letters" "[C" : Cond) ∈ lw_g := mg (List.mem_append_right _ (List.mem_of_getElem? (i := 56) (by decide +kernel))) rfl
theorem m_57 : (.soleField "ReaderRows$Names" "letters" : Cond) ∈ lw_g := mg (List.mem_append_right _ (List.mem_of_getElem? (i := 57) (by decide +kernel))) rfl
theorem m_58 : (.laysFinal "ReaderRows$Names" "ReaderRows$Names" "lengths" "[I" : Cond) ∈ lw_g := mg (List.mem_append_right _ (List.mem_of_getElem? (i := 58) (by decide +kernel))) rfl
theorem m_59 : (.soleField "ReaderRows$Names" "lengths" : Cond) ∈ lw_g := mg (List.mem_append_right _ (List.mem_of_getElem? (i := 59) (by decide +kernel))) rfl
theorem m_60 : (.laysFinal "ReaderRows$Names" "ReaderRows$Names" "years" "[I" : Cond) ∈ lw_g := mg (List.mem_append_right _ (List.mem_of_getElem? (i := 60) (by decide +kernel))) rfl
theorem m_61 : (.soleField "ReaderRows$Names" "years" : Cond) ∈ lw_g := mg (List.mem_append_right _ (List.mem_of_getElem? (i := 61) (by decide +kernel))) rfl
theorem m_62 : (.laysFinal "ReaderRows$Names" "ReaderRows$Names" "changes" "[I" : Cond) ∈ lw_g := mg (List.mem_append_right _ (List.mem_of_getElem? (i := 62) (by decide +kernel))) rfl
theorem m_63 : (.soleField "ReaderRows$Names" "changes" : Cond) ∈ lw_g := mg (List.mem_append_right _ (List.mem_of_getElem? (i := 63) (by decide +kernel))) rfl
theorem m_64 : (.superclass "ReaderRows$Names" "java/lang/Object" : Cond) ∈ lw_g := mg (List.mem_append_right _ (List.mem_of_getElem? (i := 64) (by decide +kernel))) rfl
theorem m_65 : (.arrayClass .char : Cond) ∈ lw_g := mg (List.mem_append_right _ (List.mem_of_getElem? (i := 65) (by decide +kernel))) rfl
theorem m_66 : (.classLink "ReaderRows" 23 "ReaderRows$Cards" : Cond) ∈ lw_g := mg (List.mem_append_right _ (List.mem_of_getElem? (i := 66) (by decide +kernel))) rfl
theorem m_67 : (.instantiable "ReaderRows$Cards" 4 : Cond) ∈ lw_g := mg (List.mem_append_right _ (List.mem_of_getElem? (i := 67) (by decide +kernel))) rfl
theorem m_68 : (.methodLink "ReaderRows" 25 ⟨"ReaderRows$Cards", "<init>", "()V"⟩ : Cond) ∈ lw_g := mg (List.mem_append_right _ (List.mem_of_getElem? (i := 68) (by decide +kernel))) rfl
theorem m_69 : (.instanceMethod ⟨"ReaderRows$Cards", "<init>", "()V"⟩ : Cond) ∈ lw_g := mg (List.mem_append_right _ (List.mem_of_getElem? (i := 69) (by decide +kernel))) rfl
theorem m_70 : (.code ⟨"ReaderRows$Cards", "<init>", "()V"⟩ prog_2_method_1_code 1 none : Cond) ∈ lw_g := mg (List.mem_append_right _ (List.mem_of_getElem? (i := 70) (by decide +kernel))) rfl
theorem m_71 : (.methodLink "ReaderRows$Cards" 5 ⟨"java/lang/Object", "<init>", "()V"⟩ : Cond) ∈ lw_g := mg (List.mem_append_right _ (List.mem_of_getElem? (i := 71) (by decide +kernel))) rfl
theorem m_72 : (.fieldLink "ReaderRows$Cards" 11 "ReaderRows$Cards" "count" "I" : Cond) ∈ lw_g := mg (List.mem_append_right _ (List.mem_of_getElem? (i := 72) (by decide +kernel))) rfl
theorem m_73 : (.fieldLink "ReaderRows$Cards" 17 "ReaderRows$Cards" "codes" "[I" : Cond) ∈ lw_g := mg (List.mem_append_right _ (List.mem_of_getElem? (i := 73) (by decide +kernel))) rfl
theorem m_74 : (.fieldLink "ReaderRows$Cards" 21 "ReaderRows$Cards" "holders" "[I" : Cond) ∈ lw_g := mg (List.mem_append_right _ (List.mem_of_getElem? (i := 74) (by decide +kernel))) rfl
theorem m_75 : (.fieldLink "ReaderRows$Cards" 24 "ReaderRows$Cards" "isLost" "[Z" : Cond) ∈ lw_g := mg (List.mem_append_right _ (List.mem_of_getElem? (i := 75) (by decide +kernel))) rfl
theorem m_76 : (.lays "ReaderRows$Cards" "ReaderRows$Cards" "count" "I" : Cond) ∈ lw_g := mg (List.mem_append_right _ (List.mem_of_getElem? (i := 76) (by decide +kernel))) rfl
theorem m_77 : (.soleField "ReaderRows$Cards" "count" : Cond) ∈ lw_g := mg (List.mem_append_right _ (List.mem_of_getElem? (i := 77) (by decide +kernel))) rfl
theorem m_78 : (.laysFinal "ReaderRows$Cards" "ReaderRows$Cards" "codes" "[I" : Cond) ∈ lw_g := mg (List.mem_append_right _ (List.mem_of_getElem? (i := 78) (by decide +kernel))) rfl
theorem m_79 : (.soleField "ReaderRows$Cards" "codes" : Cond) ∈ lw_g := mg (List.mem_append_right _ (List.mem_of_getElem? (i := 79) (by decide +kernel))) rfl
theorem m_80 : (.laysFinal "ReaderRows$Cards" "ReaderRows$Cards" "holders" "[I" : Cond) ∈ lw_g := mg (List.mem_append_right _ (List.mem_of_getElem? (i := 80) (by decide +kernel))) rfl
theorem m_81 : (.soleField "ReaderRows$Cards" "holders" : Cond) ∈ lw_g := mg (List.mem_append_right _ (List.mem_of_getElem? (i := 81) (by decide +kernel))) rfl
theorem m_82 : (.laysFinal "ReaderRows$Cards" "ReaderRows$Cards" "isLost" "[Z" : Cond) ∈ lw_g := mg (List.mem_append_right _ (List.mem_of_getElem? (i := 82) (by decide +kernel))) rfl
theorem m_83 : (.soleField "ReaderRows$Cards" "isLost" : Cond) ∈ lw_g := mg (List.mem_append_right _ (List.mem_of_getElem? (i := 83) (by decide +kernel))) rfl
theorem m_84 : (.superclass "ReaderRows$Cards" "java/lang/Object" : Cond) ∈ lw_g := mg (List.mem_append_right _ (List.mem_of_getElem? (i := 84) (by decide +kernel))) rfl
theorem m_85 : (.classLink "ReaderRows" 30 "ReaderRows$Loans" : Cond) ∈ lw_g := mg (List.mem_append_right _ (List.mem_of_getElem? (i := 85) (by decide +kernel))) rfl
theorem m_86 : (.instantiable "ReaderRows$Loans" 8 : Cond) ∈ lw_g := mg (List.mem_append_right _ (List.mem_of_getElem? (i := 86) (by decide +kernel))) rfl
theorem m_87 : (.methodLink "ReaderRows" 32 ⟨"ReaderRows$Loans", "<init>", "()V"⟩ : Cond) ∈ lw_g := mg (List.mem_append_right _ (List.mem_of_getElem? (i := 87) (by decide +kernel))) rfl
theorem m_88 : (.instanceMethod ⟨"ReaderRows$Loans", "<init>", "()V"⟩ : Cond) ∈ lw_g := mg (List.mem_append_right _ (List.mem_of_getElem? (i := 88) (by decide +kernel))) rfl
theorem m_89 : (.code ⟨"ReaderRows$Loans", "<init>", "()V"⟩ prog_3_method_1_code 1 none : Cond) ∈ lw_g := mg (List.mem_append_right _ (List.mem_of_getElem? (i := 89) (by decide +kernel))) rfl
theorem m_90 : (.methodLink "ReaderRows$Loans" 1 ⟨"java/lang/Object", "<init>", "()V"⟩ : Cond) ∈ lw_g := mg (List.mem_append_right _ (List.mem_of_getElem? (i := 90) (by decide +kernel))) rfl
theorem m_91 : (.fieldLink "ReaderRows$Loans" 7 "ReaderRows$Loans" "count" "I" : Cond) ∈ lw_g := mg (List.mem_append_right _ (List.mem_of_getElem? (i := 91) (by decide +kernel))) rfl
theorem m_92 : (.fieldLink "ReaderRows$Loans" 13 "ReaderRows$Loans" "holders" "[I" : Cond) ∈ lw_g := mg (List.mem_append_right _ (List.mem_of_getElem? (i := 92) (by decide +kernel))) rfl
theorem m_93 : (.fieldLink "ReaderRows$Loans" 17 "ReaderRows$Loans" "kindsThen" "[I" : Cond) ∈ lw_g := mg (List.mem_append_right _ (List.mem_of_getElem? (i := 93) (by decide +kernel))) rfl
theorem m_94 : (.fieldLink "ReaderRows$Loans" 20 "ReaderRows$Loans" "items" "[I" : Cond) ∈ lw_g := mg (List.mem_append_right _ (List.mem_of_getElem? (i := 94) (by decide +kernel))) rfl
theorem m_95 : (.fieldLink "ReaderRows$Loans" 23 "ReaderRows$Loans" "firstDays" "[J" : Cond) ∈ lw_g := mg (List.mem_append_right _ (List.mem_of_getElem? (i := 95) (by decide +kernel))) rfl
theorem m_96 : (.fieldLink "ReaderRows$Loans" 27 "ReaderRows$Loans" "lastDays" "[J" : Cond) ∈ lw_g := mg (List.mem_append_right _ (List.mem_of_getElem? (i := 96) (by decide +kernel))) rfl
theorem m_97 : (.fieldLink "ReaderRows$Loans" 30 "ReaderRows$Loans" "anonymous" "[Z" : Cond) ∈ lw_g := mg (List.mem_append_right _ (List.mem_of_getElem? (i := 97) (by decide +kernel))) rfl
theorem m_98 : (.fieldLink "ReaderRows$Loans" 34 "ReaderRows$Loans" "byLastDay" "[I" : Cond) ∈ lw_g := mg (List.mem_append_right _ (List.mem_of_getElem? (i := 98) (by decide +kernel))) rfl
theorem m_99 : (.lays "ReaderRows$Loans" "ReaderRows$Loans" "count" "I" : Cond) ∈ lw_g := mg (List.mem_append_right _ (List.mem_of_getElem? (i := 99) (by decide +kernel))) rfl
theorem m_100 : (.soleField "ReaderRows$Loans" "count" : Cond) ∈ lw_g := mg (List.mem_append_right _ (List.mem_of_getElem? (i := 100) (by decide +kernel))) rfl
theorem m_101 : (.laysFinal "ReaderRows$Loans" "ReaderRows$Loans" "holders" "[I" : Cond) ∈ lw_g := mg (List.mem_append_right _ (List.mem_of_getElem? (i := 101) (by decide +kernel))) rfl
theorem m_102 : (.soleField "ReaderRows$Loans" "holders" : Cond) ∈ lw_g := mg (List.mem_append_right _ (List.mem_of_getElem? (i := 102) (by decide +kernel))) rfl
theorem m_103 : (.laysFinal "ReaderRows$Loans" "ReaderRows$Loans" "kindsThen" "[I" : Cond) ∈ lw_g := mg (List.mem_append_right _ (List.mem_of_getElem? (i := 103) (by decide +kernel))) rfl
theorem m_104 : (.soleField "ReaderRows$Loans" "kindsThen" : Cond) ∈ lw_g := mg (List.mem_append_right _ (List.mem_of_getElem? (i := 104) (by decide +kernel))) rfl
theorem m_105 : (.laysFinal "ReaderRows$Loans" "ReaderRows$Loans" "items" "[I" : Cond) ∈ lw_g := mg (List.mem_append_right _ (List.mem_of_getElem? (i := 105) (by decide +kernel))) rfl
theorem m_106 : (.soleField "ReaderRows$Loans" "items" : Cond) ∈ lw_g := mg (List.mem_append_right _ (List.mem_of_getElem? (i := 106) (by decide +kernel))) rfl
theorem m_107 : (.laysFinal "ReaderRows$Loans" "ReaderRows$Loans" "firstDays" "[J" : Cond) ∈ lw_g := mg (List.mem_append_right _ (List.mem_of_getElem? (i := 107) (by decide +kernel))) rfl
theorem m_108 : (.soleField "ReaderRows$Loans" "firstDays" : Cond) ∈ lw_g := mg (List.mem_append_right _ (List.mem_of_getElem? (i := 108) (by decide +kernel))) rfl
theorem m_109 : (.laysFinal "ReaderRows$Loans" "ReaderRows$Loans" "lastDays" "[J" : Cond) ∈ lw_g := mg (List.mem_append_right _ (List.mem_of_getElem? (i := 109) (by decide +kernel))) rfl
theorem m_110 : (.soleField "ReaderRows$Loans" "lastDays" : Cond) ∈ lw_g := mg (List.mem_append_right _ (List.mem_of_getElem? (i := 110) (by decide +kernel))) rfl
theorem m_111 : (.laysFinal "ReaderRows$Loans" "ReaderRows$Loans" "anonymous" "[Z" : Cond) ∈ lw_g := mg (List.mem_append_right _ (List.mem_of_getElem? (i := 111) (by decide +kernel))) rfl
theorem m_112 : (.soleField "ReaderRows$Loans" "anonymous" : Cond) ∈ lw_g := mg (List.mem_append_right _ (List.mem_of_getElem? (i := 112) (by decide +kernel))) rfl
theorem m_113 : (.laysFinal "ReaderRows$Loans" "ReaderRows$Loans" "byLastDay" "[I" : Cond) ∈ lw_g := mg (List.mem_append_right _ (List.mem_of_getElem? (i := 113) (by decide +kernel))) rfl
theorem m_114 : (.soleField "ReaderRows$Loans" "byLastDay" : Cond) ∈ lw_g := mg (List.mem_append_right _ (List.mem_of_getElem? (i := 114) (by decide +kernel))) rfl
theorem m_115 : (.superclass "ReaderRows$Loans" "java/lang/Object" : Cond) ∈ lw_g := mg (List.mem_append_right _ (List.mem_of_getElem? (i := 115) (by decide +kernel))) rfl
theorem m_116 : (.classLink "ReaderRows" 37 "ReaderRows$Row" : Cond) ∈ lw_g := mg (List.mem_append_right _ (List.mem_of_getElem? (i := 116) (by decide +kernel))) rfl
theorem m_117 : (.instantiable "ReaderRows$Row" 5 : Cond) ∈ lw_g := mg (List.mem_append_right _ (List.mem_of_getElem? (i := 117) (by decide +kernel))) rfl
theorem m_118 : (.methodLink "ReaderRows" 39 ⟨"ReaderRows$Row", "<init>", "()V"⟩ : Cond) ∈ lw_g := mg (List.mem_append_right _ (List.mem_of_getElem? (i := 118) (by decide +kernel))) rfl
theorem m_119 : (.instanceMethod ⟨"ReaderRows$Row", "<init>", "()V"⟩ : Cond) ∈ lw_g := mg (List.mem_append_right _ (List.mem_of_getElem? (i := 119) (by decide +kernel))) rfl
theorem m_120 : (.code ⟨"ReaderRows$Row", "<init>", "()V"⟩ prog_6_method_1_code 1 none : Cond) ∈ lw_g := mg (List.mem_append_right _ (List.mem_of_getElem? (i := 120) (by decide +kernel))) rfl
theorem m_121 : (.methodLink "ReaderRows$Row" 3 ⟨"java/lang/Object", "<init>", "()V"⟩ : Cond) ∈ lw_g := mg (List.mem_append_right _ (List.mem_of_getElem? (i := 121) (by decide +kernel))) rfl
theorem m_122 : (.fieldLink "ReaderRows$Row" 9 "ReaderRows$Row" "length" "I" : Cond) ∈ lw_g := mg (List.mem_append_right _ (List.mem_of_getElem? (i := 122) (by decide +kernel))) rfl
theorem m_123 : (.fieldLink "ReaderRows$Row" 19 "ReaderRows$Row" "nameLength" "I" : Cond) ∈ lw_g := mg (List.mem_append_right _ (List.mem_of_getElem? (i := 123) (by decide +kernel))) rfl
theorem m_124 : (.fieldLink "ReaderRows$Row" 22 "ReaderRows$Row" "kind" "I" : Cond) ∈ lw_g := mg (List.mem_append_right _ (List.mem_of_getElem? (i := 124) (by decide +kernel))) rfl
theorem m_125 : (.fieldLink "ReaderRows$Row" 25 "ReaderRows$Row" "year" "I" : Cond) ∈ lw_g := mg (List.mem_append_right _ (List.mem_of_getElem? (i := 125) (by decide +kernel))) rfl
theorem m_126 : (.fieldLink "ReaderRows$Row" 15 "ReaderRows$Row" "signs" "[I" : Cond) ∈ lw_g := mg (List.mem_append_right _ (List.mem_of_getElem? (i := 126) (by decide +kernel))) rfl
theorem m_127 : (.lays "ReaderRows$Row" "ReaderRows$Row" "length" "I" : Cond) ∈ lw_g := mg (List.mem_append_right _ (List.mem_of_getElem? (i := 127) (by decide +kernel))) rfl
theorem m_128 : (.soleField "ReaderRows$Row" "length" : Cond) ∈ lw_g := mg (List.mem_append_right _ (List.mem_of_getElem? (i := 128) (by decide +kernel))) rfl
theorem m_129 : (.lays "ReaderRows$Row" "ReaderRows$Row" "nameLength" "I" : Cond) ∈ lw_g := mg (List.mem_append_right _ (List.mem_of_getElem? (i := 129) (by decide +kernel))) rfl
theorem m_130 : (.soleField "ReaderRows$Row" "nameLength" : Cond) ∈ lw_g := mg (List.mem_append_right _ (List.mem_of_getElem? (i := 130) (by decide +kernel))) rfl
theorem m_131 : (.lays "ReaderRows$Row" "ReaderRows$Row" "kind" "I" : Cond) ∈ lw_g := mg (List.mem_append_right _ (List.mem_of_getElem? (i := 131) (by decide +kernel))) rfl
theorem m_132 : (.soleField "ReaderRows$Row" "kind" : Cond) ∈ lw_g := mg (List.mem_append_right _ (List.mem_of_getElem? (i := 132) (by decide +kernel))) rfl
theorem m_133 : (.lays "ReaderRows$Row" "ReaderRows$Row" "year" "I" : Cond) ∈ lw_g := mg (List.mem_append_right _ (List.mem_of_getElem? (i := 133) (by decide +kernel))) rfl
theorem m_134 : (.soleField "ReaderRows$Row" "year" : Cond) ∈ lw_g := mg (List.mem_append_right _ (List.mem_of_getElem? (i := 134) (by decide +kernel))) rfl
theorem m_135 : (.laysFinal "ReaderRows$Row" "ReaderRows$Row" "signs" "[I" : Cond) ∈ lw_g := mg (List.mem_append_right _ (List.mem_of_getElem? (i := 135) (by decide +kernel))) rfl
theorem m_136 : (.soleField "ReaderRows$Row" "signs" : Cond) ∈ lw_g := mg (List.mem_append_right _ (List.mem_of_getElem? (i := 136) (by decide +kernel))) rfl
theorem m_137 : (.superclass "ReaderRows$Row" "java/lang/Object" : Cond) ∈ lw_g := mg (List.mem_append_right _ (List.mem_of_getElem? (i := 137) (by decide +kernel))) rfl
theorem m_138 : (.fieldLink "ReaderRows" 10 "ReaderRows" "readers" "LReaderRows$Readers;" : Cond) ∈ lw_g := mg (List.mem_append_right _ (List.mem_of_getElem? (i := 138) (by decide +kernel))) rfl
theorem m_139 : (.fieldLink "ReaderRows" 19 "ReaderRows" "names" "LReaderRows$Names;" : Cond) ∈ lw_g := mg (List.mem_append_right _ (List.mem_of_getElem? (i := 139) (by decide +kernel))) rfl
theorem m_140 : (.fieldLink "ReaderRows" 26 "ReaderRows" "cards" "LReaderRows$Cards;" : Cond) ∈ lw_g := mg (List.mem_append_right _ (List.mem_of_getElem? (i := 140) (by decide +kernel))) rfl
theorem m_141 : (.fieldLink "ReaderRows" 33 "ReaderRows" "loans" "LReaderRows$Loans;" : Cond) ∈ lw_g := mg (List.mem_append_right _ (List.mem_of_getElem? (i := 141) (by decide +kernel))) rfl
theorem m_142 : (.fieldLink "ReaderRows" 40 "ReaderRows" "row" "LReaderRows$Row;" : Cond) ∈ lw_g := mg (List.mem_append_right _ (List.mem_of_getElem? (i := 142) (by decide +kernel))) rfl
theorem m_143 : (.fieldLink "ReaderRows" 44 "ReaderRows" "daysKept" "[I" : Cond) ∈ lw_g := mg (List.mem_append_right _ (List.mem_of_getElem? (i := 143) (by decide +kernel))) rfl
theorem m_144 : (.laysFinal "ReaderRows" "ReaderRows" "readers" "LReaderRows$Readers;" : Cond) ∈ lw_g := mg (List.mem_append_right _ (List.mem_of_getElem? (i := 144) (by decide +kernel))) rfl
theorem m_145 : (.soleField "ReaderRows" "readers" : Cond) ∈ lw_g := mg (List.mem_append_right _ (List.mem_of_getElem? (i := 145) (by decide +kernel))) rfl
theorem m_146 : (.laysFinal "ReaderRows" "ReaderRows" "names" "LReaderRows$Names;" : Cond) ∈ lw_g := mg (List.mem_append_right _ (List.mem_of_getElem? (i := 146) (by decide +kernel))) rfl
theorem m_147 : (.soleField "ReaderRows" "names" : Cond) ∈ lw_g := mg (List.mem_append_right _ (List.mem_of_getElem? (i := 147) (by decide +kernel))) rfl
theorem m_148 : (.laysFinal "ReaderRows" "ReaderRows" "cards" "LReaderRows$Cards;" : Cond) ∈ lw_g := mg (List.mem_append_right _ (List.mem_of_getElem? (i := 148) (by decide +kernel))) rfl
theorem m_149 : (.soleField "ReaderRows" "cards" : Cond) ∈ lw_g := mg (List.mem_append_right _ (List.mem_of_getElem? (i := 149) (by decide +kernel))) rfl
theorem m_150 : (.laysFinal "ReaderRows" "ReaderRows" "loans" "LReaderRows$Loans;" : Cond) ∈ lw_g := mg (List.mem_append_right _ (List.mem_of_getElem? (i := 150) (by decide +kernel))) rfl
theorem m_151 : (.soleField "ReaderRows" "loans" : Cond) ∈ lw_g := mg (List.mem_append_right _ (List.mem_of_getElem? (i := 151) (by decide +kernel))) rfl
theorem m_152 : (.laysFinal "ReaderRows" "ReaderRows" "row" "LReaderRows$Row;" : Cond) ∈ lw_g := mg (List.mem_append_right _ (List.mem_of_getElem? (i := 152) (by decide +kernel))) rfl
theorem m_153 : (.soleField "ReaderRows" "row" : Cond) ∈ lw_g := mg (List.mem_append_right _ (List.mem_of_getElem? (i := 153) (by decide +kernel))) rfl
theorem m_154 : (.laysFinal "ReaderRows" "ReaderRows" "daysKept" "[I" : Cond) ∈ lw_g := mg (List.mem_append_right _ (List.mem_of_getElem? (i := 154) (by decide +kernel))) rfl
theorem m_155 : (.soleField "ReaderRows" "daysKept" : Cond) ∈ lw_g := mg (List.mem_append_right _ (List.mem_of_getElem? (i := 155) (by decide +kernel))) rfl
theorem m_156 : (.superclass "ReaderRows" "java/lang/Object" : Cond) ∈ lw_g := mg (List.mem_append_right _ (List.mem_of_getElem? (i := 156) (by decide +kernel))) rfl
theorem m_157 : (.methodLink "ReaderRowsLaw" 13 ⟨"ReaderRows", "reader", "(II)I"⟩ : Cond) ∈ lw_g := mg (List.mem_append_right _ (List.mem_of_getElem? (i := 157) (by decide +kernel))) rfl
theorem m_158 : (.instanceMethod ⟨"ReaderRows", "reader", "(II)I"⟩ : Cond) ∈ lw_g := mg (List.mem_append_right _ (List.mem_of_getElem? (i := 158) (by decide +kernel))) rfl
theorem m_159 : (.selects "ReaderRows" ⟨"ReaderRows", "reader", "(II)I"⟩ ⟨"ReaderRows", "reader", "(II)I"⟩ : Cond) ∈ lw_g := mg (List.mem_append_right _ (List.mem_of_getElem? (i := 159) (by decide +kernel))) rfl
theorem m_160 : (.code ⟨"ReaderRows", "reader", "(II)I"⟩ prog_1_method_2_code 4 (some .int) : Cond) ∈ lw_g := mg (List.mem_append_right _ (List.mem_of_getElem? (i := 160) (by decide +kernel))) rfl
theorem m_161 : (.methodLink "ReaderRows" 48 ⟨"ReaderRows", "isKind", "(I)Z"⟩ : Cond) ∈ lw_g := mg (List.mem_append_right _ (List.mem_of_getElem? (i := 161) (by decide +kernel))) rfl
theorem m_162 : (.static ⟨"ReaderRows", "isKind", "(I)Z"⟩ : Cond) ∈ lw_g := mg (List.mem_append_right _ (List.mem_of_getElem? (i := 162) (by decide +kernel))) rfl
theorem m_163 : (.code ⟨"ReaderRows", "isKind", "(I)Z"⟩ prog_1_method_20_code 1 (some .boolean) : Cond) ∈ lw_g := mg (List.mem_append_right _ (List.mem_of_getElem? (i := 163) (by decide +kernel))) rfl
theorem m_164 : (.methodLink "ReaderRows" 52 ⟨"ReaderRows$Readers", "add", "(II)I"⟩ : Cond) ∈ lw_g := mg (List.mem_append_right _ (List.mem_of_getElem? (i := 164) (by decide +kernel))) rfl
theorem m_165 : (.instanceMethod ⟨"ReaderRows$Readers", "add", "(II)I"⟩ : Cond) ∈ lw_g := mg (List.mem_append_right _ (List.mem_of_getElem? (i := 165) (by decide +kernel))) rfl
theorem m_166 : (.selects "ReaderRows$Readers" ⟨"ReaderRows$Readers", "add", "(II)I"⟩ ⟨"ReaderRows$Readers", "add", "(II)I"⟩ : Cond) ∈ lw_g := mg (List.mem_append_right _ (List.mem_of_getElem? (i := 166) (by decide +kernel))) rfl
theorem m_167 : (.code ⟨"ReaderRows$Readers", "add", "(II)I"⟩ prog_5_method_3_code 3 (some .int) : Cond) ∈ lw_g := mg (List.mem_append_right _ (List.mem_of_getElem? (i := 167) (by decide +kernel))) rfl
theorem m_168 : (.methodLink "ReaderRows" 56 ⟨"ReaderRows$Readers", "find", "(I)I"⟩ : Cond) ∈ lw_g := mg (List.mem_append_right _ (List.mem_of_getElem? (i := 168) (by decide +kernel))) rfl
theorem m_169 : (.instanceMethod ⟨"ReaderRows$Readers", "find", "(I)I"⟩ : Cond) ∈ lw_g := mg (List.mem_append_right _ (List.mem_of_getElem? (i := 169) (by decide +kernel))) rfl
theorem m_170 : (.selects "ReaderRows$Readers" ⟨"ReaderRows$Readers", "find", "(I)I"⟩ ⟨"ReaderRows$Readers", "find", "(I)I"⟩ : Cond) ∈ lw_g := mg (List.mem_append_right _ (List.mem_of_getElem? (i := 170) (by decide +kernel))) rfl
theorem m_171 : (.code ⟨"ReaderRows$Readers", "find", "(I)I"⟩ prog_5_method_4_code 2 (some .int) : Cond) ∈ lw_g := mg (List.mem_append_right _ (List.mem_of_getElem? (i := 171) (by decide +kernel))) rfl
theorem m_172 : (.methodLink "ReaderRows" 60 ⟨"ReaderRows$Readers", "guardianOf", "(I)I"⟩ : Cond) ∈ lw_g := mg (List.mem_append_right _ (List.mem_of_getElem? (i := 172) (by decide +kernel))) rfl
theorem m_173 : (.instanceMethod ⟨"ReaderRows$Readers", "guardianOf", "(I)I"⟩ : Cond) ∈ lw_g := mg (List.mem_append_right _ (List.mem_of_getElem? (i := 173) (by decide +kernel))) rfl
theorem m_174 : (.selects "ReaderRows$Readers" ⟨"ReaderRows$Readers", "guardianOf", "(I)I"⟩ ⟨"ReaderRows$Readers", "guardianOf", "(I)I"⟩ : Cond) ∈ lw_g := mg (List.mem_append_right _ (List.mem_of_getElem? (i := 174) (by decide +kernel))) rfl
theorem m_175 : (.code ⟨"ReaderRows$Readers", "guardianOf", "(I)I"⟩ prog_5_method_7_code 2 (some .int) : Cond) ∈ lw_g := mg (List.mem_append_right _ (List.mem_of_getElem? (i := 175) (by decide +kernel))) rfl
theorem m_176 : (.methodLink "ReaderRowsLaw" 18 ⟨"ReaderRows", "card", "(II)I"⟩ : Cond) ∈ lw_g := mg (List.mem_append_right _ (List.mem_of_getElem? (i := 176) (by decide +kernel))) rfl
theorem m_177 : (.instanceMethod ⟨"ReaderRows", "card", "(II)I"⟩ : Cond) ∈ lw_g := mg (List.mem_append_right _ (List.mem_of_getElem? (i := 177) (by decide +kernel))) rfl
theorem m_178 : (.selects "ReaderRows" ⟨"ReaderRows", "card", "(II)I"⟩ ⟨"ReaderRows", "card", "(II)I"⟩ : Cond) ∈ lw_g := mg (List.mem_append_right _ (List.mem_of_getElem? (i := 178) (by decide +kernel))) rfl
theorem m_179 : (.code ⟨"ReaderRows", "card", "(II)I"⟩ prog_1_method_3_code 4 (some .int) : Cond) ∈ lw_g := mg (List.mem_append_right _ (List.mem_of_getElem? (i := 179) (by decide +kernel))) rfl
theorem m_180 : (.methodLink "ReaderRows" 63 ⟨"ReaderRows$Cards", "countOf", "(I)I"⟩ : Cond) ∈ lw_g := mg (List.mem_append_right _ (List.mem_of_getElem? (i := 180) (by decide +kernel))) rfl
theorem m_181 : (.instanceMethod ⟨"ReaderRows$Cards", "countOf", "(I)I"⟩ : Cond) ∈ lw_g := mg (List.mem_append_right _ (List.mem_of_getElem? (i := 181) (by decide +kernel))) rfl
theorem m_182 : (.selects "ReaderRows$Cards" ⟨"ReaderRows$Cards", "countOf", "(I)I"⟩ ⟨"ReaderRows$Cards", "countOf", "(I)I"⟩ : Cond) ∈ lw_g := mg (List.mem_append_right _ (List.mem_of_getElem? (i := 182) (by decide +kernel))) rfl
theorem m_183 : (.code ⟨"ReaderRows$Cards", "countOf", "(I)I"⟩ prog_2_method_6_code 4 (some .int) : Cond) ∈ lw_g := mg (List.mem_append_right _ (List.mem_of_getElem? (i := 183) (by decide +kernel))) rfl
theorem m_184 : (.methodLink "ReaderRows" 66 ⟨"ReaderRows$Cards", "isTaken", "(I)Z"⟩ : Cond) ∈ lw_g := mg (List.mem_append_right _ (List.mem_of_getElem? (i := 184) (by decide +kernel))) rfl
theorem m_185 : (.instanceMethod ⟨"ReaderRows$Cards", "isTaken", "(I)Z"⟩ : Cond) ∈ lw_g := mg (List.mem_append_right _ (List.mem_of_getElem? (i := 185) (by decide +kernel))) rfl
theorem m_186 : (.selects "ReaderRows$Cards" ⟨"ReaderRows$Cards", "isTaken", "(I)Z"⟩ ⟨"ReaderRows$Cards", "isTaken", "(I)Z"⟩ : Cond) ∈ lw_g := mg (List.mem_append_right _ (List.mem_of_getElem? (i := 186) (by decide +kernel))) rfl
theorem m_187 : (.code ⟨"ReaderRows$Cards", "isTaken", "(I)Z"⟩ prog_2_method_3_code 2 (some .boolean) : Cond) ∈ lw_g := mg (List.mem_append_right _ (List.mem_of_getElem? (i := 187) (by decide +kernel))) rfl
theorem m_188 : (.methodLink "ReaderRows$Cards" 28 ⟨"ReaderRows$Cards", "placeOf", "(I)I"⟩ : Cond) ∈ lw_g := mg (List.mem_append_right _ (List.mem_of_getElem? (i := 188) (by decide +kernel))) rfl
theorem m_190 : (.instanceMethod ⟨"ReaderRows$Cards", "placeOf", "(I)I"⟩ : Cond) ∈ lw_g := mg (List.mem_append_right _ (List.mem_of_getElem? (i := 190) (by decide +kernel))) rfl
theorem m_191 : (.code ⟨"ReaderRows$Cards", "placeOf", "(I)I"⟩ prog_2_method_8_code 3 (some .int) : Cond) ∈ lw_g := mg (List.mem_append_right _ (List.mem_of_getElem? (i := 191) (by decide +kernel))) rfl
theorem m_192 : (.methodLink "ReaderRows" 69 ⟨"ReaderRows$Cards", "add", "(II)V"⟩ : Cond) ∈ lw_g := mg (List.mem_append_right _ (List.mem_of_getElem? (i := 192) (by decide +kernel))) rfl
theorem m_193 : (.instanceMethod ⟨"ReaderRows$Cards", "add", "(II)V"⟩ : Cond) ∈ lw_g := mg (List.mem_append_right _ (List.mem_of_getElem? (i := 193) (by decide +kernel))) rfl
theorem m_194 : (.selects "ReaderRows$Cards" ⟨"ReaderRows$Cards", "add", "(II)V"⟩ ⟨"ReaderRows$Cards", "add", "(II)V"⟩ : Cond) ∈ lw_g := mg (List.mem_append_right _ (List.mem_of_getElem? (i := 194) (by decide +kernel))) rfl
theorem m_195 : (.code ⟨"ReaderRows$Cards", "add", "(II)V"⟩ prog_2_method_2_code 3 none : Cond) ∈ lw_g := mg (List.mem_append_right _ (List.mem_of_getElem? (i := 195) (by decide +kernel))) rfl
theorem m_196 : (.methodLink "ReaderRowsLaw" 22 ⟨"ReaderRows", "whose", "(I)I"⟩ : Cond) ∈ lw_g := mg (List.mem_append_right _ (List.mem_of_getElem? (i := 196) (by decide +kernel))) rfl
theorem m_197 : (.instanceMethod ⟨"ReaderRows", "whose", "(I)I"⟩ : Cond) ∈ lw_g := mg (List.mem_append_right _ (List.mem_of_getElem? (i := 197) (by decide +kernel))) rfl
theorem m_198 : (.selects "ReaderRows" ⟨"ReaderRows", "whose", "(I)I"⟩ ⟨"ReaderRows", "whose", "(I)I"⟩ : Cond) ∈ lw_g := mg (List.mem_append_right _ (List.mem_of_getElem? (i := 198) (by decide +kernel))) rfl
theorem m_199 : (.code ⟨"ReaderRows", "whose", "(I)I"⟩ prog_1_method_4_code 2 (some .int) : Cond) ∈ lw_g := mg (List.mem_append_right _ (List.mem_of_getElem? (i := 199) (by decide +kernel))) rfl
theorem m_200 : (.methodLink "ReaderRows" 72 ⟨"ReaderRows$Cards", "holderOfGood", "(I)I"⟩ : Cond) ∈ lw_g := mg (List.mem_append_right _ (List.mem_of_getElem? (i := 200) (by decide +kernel))) rfl
theorem m_201 : (.instanceMethod ⟨"ReaderRows$Cards", "holderOfGood", "(I)I"⟩ : Cond) ∈ lw_g := mg (List.mem_append_right _ (List.mem_of_getElem? (i := 201) (by decide +kernel))) rfl
theorem m_202 : (.selects "ReaderRows$Cards" ⟨"ReaderRows$Cards", "holderOfGood", "(I)I"⟩ ⟨"ReaderRows$Cards", "holderOfGood", "(I)I"⟩ : Cond) ∈ lw_g := mg (List.mem_append_right _ (List.mem_of_getElem? (i := 202) (by decide +kernel))) rfl
theorem m_203 : (.code ⟨"ReaderRows$Cards", "holderOfGood", "(I)I"⟩ prog_2_method_4_code 3 (some .int) : Cond) ∈ lw_g := mg (List.mem_append_right _ (List.mem_of_getElem? (i := 203) (by decide +kernel))) rfl
theorem m_204 : (.methodLink "ReaderRowsLaw" 27 ⟨"ReaderRows", "lost", "(II)I"⟩ : Cond) ∈ lw_g := mg (List.mem_append_right _ (List.mem_of_getElem? (i := 204) (by decide +kernel))) rfl
theorem m_205 : (.instanceMethod ⟨"ReaderRows", "lost", "(II)I"⟩ : Cond) ∈ lw_g := mg (List.mem_append_right _ (List.mem_of_getElem? (i := 205) (by decide +kernel))) rfl
theorem m_206 : (.selects "ReaderRows" ⟨"ReaderRows", "lost", "(II)I"⟩ ⟨"ReaderRows", "lost", "(II)I"⟩ : Cond) ∈ lw_g := mg (List.mem_append_right _ (List.mem_of_getElem? (i := 206) (by decide +kernel))) rfl
theorem m_207 : (.code ⟨"ReaderRows", "lost", "(II)I"⟩ prog_1_method_5_code 4 (some .int) : Cond) ∈ lw_g := mg (List.mem_append_right _ (List.mem_of_getElem? (i := 207) (by decide +kernel))) rfl
theorem m_208 : (.methodLink "ReaderRows" 75 ⟨"ReaderRows$Cards", "lose", "(I)V"⟩ : Cond) ∈ lw_g := mg (List.mem_append_right _ (List.mem_of_getElem? (i := 208) (by decide +kernel))) rfl
theorem m_209 : (.instanceMethod ⟨"ReaderRows$Cards", "lose", "(I)V"⟩ : Cond) ∈ lw_g := mg (List.mem_append_right _ (List.mem_of_getElem? (i := 209) (by decide +kernel))) rfl
theorem m_210 : (.selects "ReaderRows$Cards" ⟨"ReaderRows$Cards", "lose", "(I)V"⟩ ⟨"ReaderRows$Cards", "lose", "(I)V"⟩ : Cond) ∈ lw_g := mg (List.mem_append_right _ (List.mem_of_getElem? (i := 210) (by decide +kernel))) rfl
theorem m_211 : (.code ⟨"ReaderRows$Cards", "lose", "(I)V"⟩ prog_2_method_5_code 3 none : Cond) ∈ lw_g := mg (List.mem_append_right _ (List.mem_of_getElem? (i := 211) (by decide +kernel))) rfl
theorem m_212 : (.methodLink "ReaderRowsLaw" 33 ⟨"ReaderRows", "block", "(IIJ)I"⟩ : Cond) ∈ lw_g := mg (List.mem_append_right _ (List.mem_of_getElem? (i := 212) (by decide +kernel))) rfl
theorem m_213 : (.instanceMethod ⟨"ReaderRows", "block", "(IIJ)I"⟩ : Cond) ∈ lw_g := mg (List.mem_append_right _ (List.mem_of_getElem? (i := 213) (by decide +kernel))) rfl
theorem m_214 : (.selects "ReaderRows" ⟨"ReaderRows", "block", "(IIJ)I"⟩ ⟨"ReaderRows", "block", "(IIJ)I"⟩ : Cond) ∈ lw_g := mg (List.mem_append_right _ (List.mem_of_getElem? (i := 214) (by decide +kernel))) rfl
theorem m_215 : (.code ⟨"ReaderRows", "block", "(IIJ)I"⟩ prog_1_method_6_code 6 (some .int) : Cond) ∈ lw_g := mg (List.mem_append_right _ (List.mem_of_getElem? (i := 215) (by decide +kernel))) rfl
theorem m_216 : (.methodLink "ReaderRows" 79 ⟨"ReaderRows", "isDay", "(J)Z"⟩ : Cond) ∈ lw_g := mg (List.mem_append_right _ (List.mem_of_getElem? (i := 216) (by decide +kernel))) rfl
theorem m_217 : (.static ⟨"ReaderRows", "isDay", "(J)Z"⟩ : Cond) ∈ lw_g := mg (List.mem_append_right _ (List.mem_of_getElem? (i := 217) (by decide +kernel))) rfl
theorem m_218 : (.code ⟨"ReaderRows", "isDay", "(J)Z"⟩ prog_1_method_21_code 2 (some .boolean) : Cond) ∈ lw_g := mg (List.mem_append_right _ (List.mem_of_getElem? (i := 218) (by decide +kernel))) rfl
theorem m_219 : (.constantLong "ReaderRows" 170 (1000000000) : Cond) ∈ lw_g := mg (List.mem_append_right _ (List.mem_of_getElem? (i := 219) (by decide +kernel))) rfl
theorem m_220 : (.methodLink "ReaderRows" 83 ⟨"ReaderRows$Readers", "setBlock", "(IIJ)V"⟩ : Cond) ∈ lw_g := mg (List.mem_append_right _ (List.mem_of_getElem? (i := 220) (by decide +kernel))) rfl
theorem m_221 : (.instanceMethod ⟨"ReaderRows$Readers", "setBlock", "(IIJ)V"⟩ : Cond) ∈ lw_g := mg (List.mem_append_right _ (List.mem_of_getElem? (i := 221) (by decide +kernel))) rfl
theorem m_222 : (.selects "ReaderRows$Readers" ⟨"ReaderRows$Readers", "setBlock", "(IIJ)V"⟩ ⟨"ReaderRows$Readers", "setBlock", "(IIJ)V"⟩ : Cond) ∈ lw_g := mg (List.mem_append_right _ (List.mem_of_getElem? (i := 222) (by decide +kernel))) rfl
theorem m_223 : (.code ⟨"ReaderRows$Readers", "setBlock", "(IIJ)V"⟩ prog_5_method_10_code 5 none : Cond) ∈ lw_g := mg (List.mem_append_right _ (List.mem_of_getElem? (i := 223) (by decide +kernel))) rfl
theorem m_224 : (.methodLink "ReaderRowsLaw" 38 ⟨"ReaderRows", "blocked", "(IJ)I"⟩ : Cond) ∈ lw_g := mg (List.mem_append_right _ (List.mem_of_getElem? (i := 224) (by decide +kernel))) rfl
theorem m_225 : (.instanceMethod ⟨"ReaderRows", "blocked", "(IJ)I"⟩ : Cond) ∈ lw_g := mg (List.mem_append_right _ (List.mem_of_getElem? (i := 225) (by decide +kernel))) rfl
theorem m_226 : (.selects "ReaderRows" ⟨"ReaderRows", "blocked", "(IJ)I"⟩ ⟨"ReaderRows", "blocked", "(IJ)I"⟩ : Cond) ∈ lw_g := mg (List.mem_append_right _ (List.mem_of_getElem? (i := 226) (by decide +kernel))) rfl
theorem m_227 : (.code ⟨"ReaderRows", "blocked", "(IJ)I"⟩ prog_1_method_7_code 7 (some .int) : Cond) ∈ lw_g := mg (List.mem_append_right _ (List.mem_of_getElem? (i := 227) (by decide +kernel))) rfl
theorem m_228 : (.methodLink "ReaderRows" 87 ⟨"ReaderRows$Readers", "hasBlock", "(IIJ)Z"⟩ : Cond) ∈ lw_g := mg (List.mem_append_right _ (List.mem_of_getElem? (i := 228) (by decide +kernel))) rfl
theorem m_229 : (.instanceMethod ⟨"ReaderRows$Readers", "hasBlock", "(IIJ)Z"⟩ : Cond) ∈ lw_g := mg (List.mem_append_right _ (List.mem_of_getElem? (i := 229) (by decide +kernel))) rfl
theorem m_230 : (.selects "ReaderRows$Readers" ⟨"ReaderRows$Readers", "hasBlock", "(IIJ)Z"⟩ ⟨"ReaderRows$Readers", "hasBlock", "(IIJ)Z"⟩ : Cond) ∈ lw_g := mg (List.mem_append_right _ (List.mem_of_getElem? (i := 230) (by decide +kernel))) rfl
theorem m_231 : (.code ⟨"ReaderRows$Readers", "hasBlock", "(IIJ)Z"⟩ prog_5_method_11_code 7 (some .boolean) : Cond) ∈ lw_g := mg (List.mem_append_right _ (List.mem_of_getElem? (i := 231) (by decide +kernel))) rfl
theorem m_232 : (.methodLink "ReaderRowsLaw" 43 ⟨"ReaderRows", "consent", "(IZJ)I"⟩ : Cond) ∈ lw_g := mg (List.mem_append_right _ (List.mem_of_getElem? (i := 232) (by decide +kernel))) rfl
theorem m_233 : (.instanceMethod ⟨"ReaderRows", "consent", "(IZJ)I"⟩ : Cond) ∈ lw_g := mg (List.mem_append_right _ (List.mem_of_getElem? (i := 233) (by decide +kernel))) rfl
theorem m_234 : (.selects "ReaderRows" ⟨"ReaderRows", "consent", "(IZJ)I"⟩ ⟨"ReaderRows", "consent", "(IZJ)I"⟩ : Cond) ∈ lw_g := mg (List.mem_append_right _ (List.mem_of_getElem? (i := 234) (by decide +kernel))) rfl
theorem m_235 : (.code ⟨"ReaderRows", "consent", "(IZJ)I"⟩ prog_1_method_8_code 7 (some .int) : Cond) ∈ lw_g := mg (List.mem_append_right _ (List.mem_of_getElem? (i := 235) (by decide +kernel))) rfl
theorem m_236 : (.methodLink "ReaderRows" 91 ⟨"ReaderRows$Readers", "hasConsent", "(I)Z"⟩ : Cond) ∈ lw_g := mg (List.mem_append_right _ (List.mem_of_getElem? (i := 236) (by decide +kernel))) rfl
theorem m_237 : (.instanceMethod ⟨"ReaderRows$Readers", "hasConsent", "(I)Z"⟩ : Cond) ∈ lw_g := mg (List.mem_append_right _ (List.mem_of_getElem? (i := 237) (by decide +kernel))) rfl
theorem m_238 : (.selects "ReaderRows$Readers" ⟨"ReaderRows$Readers", "hasConsent", "(I)Z"⟩ ⟨"ReaderRows$Readers", "hasConsent", "(I)Z"⟩ : Cond) ∈ lw_g := mg (List.mem_append_right _ (List.mem_of_getElem? (i := 238) (by decide +kernel))) rfl
theorem m_239 : (.code ⟨"ReaderRows$Readers", "hasConsent", "(I)Z"⟩ prog_5_method_8_code 2 (some .boolean) : Cond) ∈ lw_g := mg (List.mem_append_right _ (List.mem_of_getElem? (i := 239) (by decide +kernel))) rfl
theorem m_240 : (.methodLink "ReaderRows" 94 ⟨"ReaderRows$Readers", "setConsent", "(IZ)V"⟩ : Cond) ∈ lw_g := mg (List.mem_append_right _ (List.mem_of_getElem? (i := 240) (by decide +kernel))) rfl
theorem m_241 : (.instanceMethod ⟨"ReaderRows$Readers", "setConsent", "(IZ)V"⟩ : Cond) ∈ lw_g := mg (List.mem_append_right _ (List.mem_of_getElem? (i := 241) (by decide +kernel))) rfl
theorem m_242 : (.selects "ReaderRows$Readers" ⟨"ReaderRows$Readers", "setConsent", "(IZ)V"⟩ ⟨"ReaderRows$Readers", "setConsent", "(IZ)V"⟩ : Cond) ∈ lw_g := mg (List.mem_append_right _ (List.mem_of_getElem? (i := 242) (by decide +kernel))) rfl
theorem m_243 : (.code ⟨"ReaderRows$Readers", "setConsent", "(IZ)V"⟩ prog_5_method_9_code 3 none : Cond) ∈ lw_g := mg (List.mem_append_right _ (List.mem_of_getElem? (i := 243) (by decide +kernel))) rfl
theorem m_244 : (.methodLink "ReaderRows" 98 ⟨"ReaderRows", "anonymiseLoansOf", "(IJ)I"⟩ : Cond) ∈ lw_g := mg (List.mem_append_right _ (List.mem_of_getElem? (i := 244) (by decide +kernel))) rfl
theorem m_246 : (.instanceMethod ⟨"ReaderRows", "anonymiseLoansOf", "(IJ)I"⟩ : Cond) ∈ lw_g := mg (List.mem_append_right _ (List.mem_of_getElem? (i := 246) (by decide +kernel))) rfl
theorem m_247 : (.code ⟨"ReaderRows", "anonymiseLoansOf", "(IJ)I"⟩ prog_1_method_24_code 6 (some .int) : Cond) ∈ lw_g := mg (List.mem_append_right _ (List.mem_of_getElem? (i := 247) (by decide +kernel))) rfl
theorem m_248 : (.methodLink "ReaderRows" 110 ⟨"ReaderRows$Loans", "count", "()I"⟩ : Cond) ∈ lw_g := mg (List.mem_append_right _ (List.mem_of_getElem? (i := 248) (by decide +kernel))) rfl
theorem m_249 : (.instanceMethod ⟨"ReaderRows$Loans", "count", "()I"⟩ : Cond) ∈ lw_g := mg (List.mem_append_right _ (List.mem_of_getElem? (i := 249) (by decide +kernel))) rfl
theorem m_250 : (.selects "ReaderRows$Loans" ⟨"ReaderRows$Loans", "count", "()I"⟩ ⟨"ReaderRows$Loans", "count", "()I"⟩ : Cond) ∈ lw_g := mg (List.mem_append_right _ (List.mem_of_getElem? (i := 250) (by decide +kernel))) rfl
theorem m_251 : (.code ⟨"ReaderRows$Loans", "count", "()I"⟩ prog_3_method_2_code 1 (some .int) : Cond) ∈ lw_g := mg (List.mem_append_right _ (List.mem_of_getElem? (i := 251) (by decide +kernel))) rfl
theorem m_252 : (.methodLink "ReaderRows" 117 ⟨"ReaderRows$Loans", "holderOf", "(I)I"⟩ : Cond) ∈ lw_g := mg (List.mem_append_right _ (List.mem_of_getElem? (i := 252) (by decide +kernel))) rfl
theorem m_253 : (.instanceMethod ⟨"ReaderRows$Loans", "holderOf", "(I)I"⟩ : Cond) ∈ lw_g := mg (List.mem_append_right _ (List.mem_of_getElem? (i := 253) (by decide +kernel))) rfl
theorem m_254 : (.selects "ReaderRows$Loans" ⟨"ReaderRows$Loans", "holderOf", "(I)I"⟩ ⟨"ReaderRows$Loans", "holderOf", "(I)I"⟩ : Cond) ∈ lw_g := mg (List.mem_append_right _ (List.mem_of_getElem? (i := 254) (by decide +kernel))) rfl
theorem m_255 : (.code ⟨"ReaderRows$Loans", "holderOf", "(I)I"⟩ prog_3_method_6_code 2 (some .int) : Cond) ∈ lw_g := mg (List.mem_append_right _ (List.mem_of_getElem? (i := 255) (by decide +kernel))) rfl
theorem m_256 : (.methodLink "ReaderRows" 127 ⟨"ReaderRows", "anonymiseUnlessKept", "(IJ)Z"⟩ : Cond) ∈ lw_g := mg (List.mem_append_right _ (List.mem_of_getElem? (i := 256) (by decide +kernel))) rfl
theorem m_258 : (.instanceMethod ⟨"ReaderRows", "anonymiseUnlessKept", "(IJ)Z"⟩ : Cond) ∈ lw_g := mg (List.mem_append_right _ (List.mem_of_getElem? (i := 258) (by decide +kernel))) rfl
theorem m_259 : (.code ⟨"ReaderRows", "anonymiseUnlessKept", "(IJ)Z"⟩ prog_1_method_23_code 4 (some .boolean) : Cond) ∈ lw_g := mg (List.mem_append_right _ (List.mem_of_getElem? (i := 259) (by decide +kernel))) rfl
theorem m_260 : (.methodLink "ReaderRows" 172 ⟨"ReaderRows$Loans", "isAnonymous", "(I)Z"⟩ : Cond) ∈ lw_g := mg (List.mem_append_right _ (List.mem_of_getElem? (i := 260) (by decide +kernel))) rfl
theorem m_261 : (.instanceMethod ⟨"ReaderRows$Loans", "isAnonymous", "(I)Z"⟩ : Cond) ∈ lw_g := mg (List.mem_append_right _ (List.mem_of_getElem? (i := 261) (by decide +kernel))) rfl
theorem m_262 : (.selects "ReaderRows$Loans" ⟨"ReaderRows$Loans", "isAnonymous", "(I)Z"⟩ ⟨"ReaderRows$Loans", "isAnonymous", "(I)Z"⟩ : Cond) ∈ lw_g := mg (List.mem_append_right _ (List.mem_of_getElem? (i := 262) (by decide +kernel))) rfl
theorem m_263 : (.code ⟨"ReaderRows$Loans", "isAnonymous", "(I)Z"⟩ prog_3_method_9_code 2 (some .boolean) : Cond) ∈ lw_g := mg (List.mem_append_right _ (List.mem_of_getElem? (i := 263) (by decide +kernel))) rfl
theorem m_264 : (.methodLink "ReaderRows" 120 ⟨"ReaderRows", "isKept", "(IJ)Z"⟩ : Cond) ∈ lw_g := mg (List.mem_append_right _ (List.mem_of_getElem? (i := 264) (by decide +kernel))) rfl
theorem m_266 : (.instanceMethod ⟨"ReaderRows", "isKept", "(IJ)Z"⟩ : Cond) ∈ lw_g := mg (List.mem_append_right _ (List.mem_of_getElem? (i := 266) (by decide +kernel))) rfl
theorem m_267 : (.code ⟨"ReaderRows", "isKept", "(IJ)Z"⟩ prog_1_method_22_code 5 (some .boolean) : Cond) ∈ lw_g := mg (List.mem_append_right _ (List.mem_of_getElem? (i := 267) (by decide +kernel))) rfl
theorem m_268 : (.methodLink "ReaderRows" 175 ⟨"ReaderRows$Loans", "lastDayOf", "(I)J"⟩ : Cond) ∈ lw_g := mg (List.mem_append_right _ (List.mem_of_getElem? (i := 268) (by decide +kernel))) rfl
theorem m_269 : (.instanceMethod ⟨"ReaderRows$Loans", "lastDayOf", "(I)J"⟩ : Cond) ∈ lw_g := mg (List.mem_append_right _ (List.mem_of_getElem? (i := 269) (by decide +kernel))) rfl
theorem m_270 : (.selects "ReaderRows$Loans" ⟨"ReaderRows$Loans", "lastDayOf", "(I)J"⟩ ⟨"ReaderRows$Loans", "lastDayOf", "(I)J"⟩ : Cond) ∈ lw_g := mg (List.mem_append_right _ (List.mem_of_getElem? (i := 270) (by decide +kernel))) rfl
theorem m_271 : (.code ⟨"ReaderRows$Loans", "lastDayOf", "(I)J"⟩ prog_3_method_8_code 2 (some .long) : Cond) ∈ lw_g := mg (List.mem_append_right _ (List.mem_of_getElem? (i := 271) (by decide +kernel))) rfl
theorem m_272 : (.methodLink "ReaderRows" 103 ⟨"ReaderRows$Readers", "kindOf", "(I)I"⟩ : Cond) ∈ lw_g := mg (List.mem_append_right _ (List.mem_of_getElem? (i := 272) (by decide +kernel))) rfl
theorem m_273 : (.instanceMethod ⟨"ReaderRows$Readers", "kindOf", "(I)I"⟩ : Cond) ∈ lw_g := mg (List.mem_append_right _ (List.mem_of_getElem? (i := 273) (by decide +kernel))) rfl
theorem m_274 : (.selects "ReaderRows$Readers" ⟨"ReaderRows$Readers", "kindOf", "(I)I"⟩ ⟨"ReaderRows$Readers", "kindOf", "(I)I"⟩ : Cond) ∈ lw_g := mg (List.mem_append_right _ (List.mem_of_getElem? (i := 274) (by decide +kernel))) rfl
theorem m_275 : (.code ⟨"ReaderRows$Readers", "kindOf", "(I)I"⟩ prog_5_method_6_code 2 (some .int) : Cond) ∈ lw_g := mg (List.mem_append_right _ (List.mem_of_getElem? (i := 275) (by decide +kernel))) rfl
theorem m_276 : (.methodLink "ReaderRows" 179 ⟨"ReaderRows$Loans", "makeAnonymous", "(I)V"⟩ : Cond) ∈ lw_g := mg (List.mem_append_right _ (List.mem_of_getElem? (i := 276) (by decide +kernel))) rfl
theorem m_277 : (.instanceMethod ⟨"ReaderRows$Loans", "makeAnonymous", "(I)V"⟩ : Cond) ∈ lw_g := mg (List.mem_append_right _ (List.mem_of_getElem? (i := 277) (by decide +kernel))) rfl
theorem m_278 : (.selects "ReaderRows$Loans" ⟨"ReaderRows$Loans", "makeAnonymous", "(I)V"⟩ ⟨"ReaderRows$Loans", "makeAnonymous", "(I)V"⟩ : Cond) ∈ lw_g := mg (List.mem_append_right _ (List.mem_of_getElem? (i := 278) (by decide +kernel))) rfl
theorem m_279 : (.code ⟨"ReaderRows$Loans", "makeAnonymous", "(I)V"⟩ prog_3_method_10_code 2 none : Cond) ∈ lw_g := mg (List.mem_append_right _ (List.mem_of_getElem? (i := 279) (by decide +kernel))) rfl
theorem m_280 : (.methodLink "ReaderRowsLaw" 48 ⟨"ReaderRows", "keeps", "(II)I"⟩ : Cond) ∈ lw_g := mg (List.mem_append_right _ (List.mem_of_getElem? (i := 280) (by decide +kernel))) rfl
theorem m_281 : (.instanceMethod ⟨"ReaderRows", "keeps", "(II)I"⟩ : Cond) ∈ lw_g := mg (List.mem_append_right _ (List.mem_of_getElem? (i := 281) (by decide +kernel))) rfl
theorem m_282 : (.selects "ReaderRows" ⟨"ReaderRows", "keeps", "(II)I"⟩ ⟨"ReaderRows", "keeps", "(II)I"⟩ : Cond) ∈ lw_g := mg (List.mem_append_right _ (List.mem_of_getElem? (i := 282) (by decide +kernel))) rfl
theorem m_283 : (.code ⟨"ReaderRows", "keeps", "(II)I"⟩ prog_1_method_9_code 4 (some .int) : Cond) ∈ lw_g := mg (List.mem_append_right _ (List.mem_of_getElem? (i := 283) (by decide +kernel))) rfl
theorem m_284 : (.constant "ReaderRows" 102 (100000) : Cond) ∈ lw_g := mg (List.mem_append_right _ (List.mem_of_getElem? (i := 284) (by decide +kernel))) rfl
theorem m_285 : (.methodLink "ReaderRowsLaw" 52 ⟨"ReaderRows", "loan", "(IIJJ)I"⟩ : Cond) ∈ lw_g := mg (List.mem_append_right _ (List.mem_of_getElem? (i := 285) (by decide +kernel))) rfl
theorem m_286 : (.instanceMethod ⟨"ReaderRows", "loan", "(IIJJ)I"⟩ : Cond) ∈ lw_g := mg (List.mem_append_right _ (List.mem_of_getElem? (i := 286) (by decide +kernel))) rfl
theorem m_287 : (.selects "ReaderRows" ⟨"ReaderRows", "loan", "(IIJJ)I"⟩ ⟨"ReaderRows", "loan", "(IIJJ)I"⟩ : Cond) ∈ lw_g := mg (List.mem_append_right _ (List.mem_of_getElem? (i := 287) (by decide +kernel))) rfl
theorem m_288 : (.code ⟨"ReaderRows", "loan", "(IIJJ)I"⟩ prog_1_method_10_code 8 (some .int) : Cond) ∈ lw_g := mg (List.mem_append_right _ (List.mem_of_getElem? (i := 288) (by decide +kernel))) rfl
theorem m_289 : (.methodLink "ReaderRows" 106 ⟨"ReaderRows$Loans", "add", "(IIIJJ)I"⟩ : Cond) ∈ lw_g := mg (List.mem_append_right _ (List.mem_of_getElem? (i := 289) (by decide +kernel))) rfl
theorem m_290 : (.instanceMethod ⟨"ReaderRows$Loans", "add", "(IIIJJ)I"⟩ : Cond) ∈ lw_g := mg (List.mem_append_right _ (List.mem_of_getElem? (i := 290) (by decide +kernel))) rfl
theorem m_291 : (.selects "ReaderRows$Loans" ⟨"ReaderRows$Loans", "add", "(IIIJJ)I"⟩ ⟨"ReaderRows$Loans", "add", "(IIIJJ)I"⟩ : Cond) ∈ lw_g := mg (List.mem_append_right _ (List.mem_of_getElem? (i := 291) (by decide +kernel))) rfl
theorem m_292 : (.code ⟨"ReaderRows$Loans", "add", "(IIIJJ)I"⟩ prog_3_method_3_code 8 (some .int) : Cond) ∈ lw_g := mg (List.mem_append_right _ (List.mem_of_getElem? (i := 292) (by decide +kernel))) rfl
theorem m_293 : (.methodLink "ReaderRows$Loans" 37 ⟨"ReaderRows$Loans", "putInOrder", "(I)V"⟩ : Cond) ∈ lw_g := mg (List.mem_append_right _ (List.mem_of_getElem? (i := 293) (by decide +kernel))) rfl
theorem m_295 : (.instanceMethod ⟨"ReaderRows$Loans", "putInOrder", "(I)V"⟩ : Cond) ∈ lw_g := mg (List.mem_append_right _ (List.mem_of_getElem? (i := 295) (by decide +kernel))) rfl
theorem m_296 : (.code ⟨"ReaderRows$Loans", "putInOrder", "(I)V"⟩ prog_3_method_4_code 3 none : Cond) ∈ lw_g := mg (List.mem_append_right _ (List.mem_of_getElem? (i := 296) (by decide +kernel))) rfl
theorem m_297 : (.methodLink "ReaderRowsLaw" 57 ⟨"ReaderRows", "kept", "(IIJ)I"⟩ : Cond) ∈ lw_g := mg (List.mem_append_right _ (List.mem_of_getElem? (i := 297) (by decide +kernel))) rfl
theorem m_298 : (.instanceMethod ⟨"ReaderRows", "kept", "(IIJ)I"⟩ : Cond) ∈ lw_g := mg (List.mem_append_right _ (List.mem_of_getElem? (i := 298) (by decide +kernel))) rfl
theorem m_299 : (.selects "ReaderRows" ⟨"ReaderRows", "kept", "(IIJ)I"⟩ ⟨"ReaderRows", "kept", "(IIJ)I"⟩ : Cond) ∈ lw_g := mg (List.mem_append_right _ (List.mem_of_getElem? (i := 299) (by decide +kernel))) rfl
theorem m_300 : (.code ⟨"ReaderRows", "kept", "(IIJ)I"⟩ prog_1_method_11_code 9 (some .int) : Cond) ∈ lw_g := mg (List.mem_append_right _ (List.mem_of_getElem? (i := 300) (by decide +kernel))) rfl
theorem m_301 : (.constant "ReaderRows" 109 (-1000000007) : Cond) ∈ lw_g := mg (List.mem_append_right _ (List.mem_of_getElem? (i := 301) (by decide +kernel))) rfl
theorem m_302 : (.methodLink "ReaderRows" 114 ⟨"ReaderRows$Loans", "atPlace", "(I)I"⟩ : Cond) ∈ lw_g := mg (List.mem_append_right _ (List.mem_of_getElem? (i := 302) (by decide +kernel))) rfl
theorem m_303 : (.instanceMethod ⟨"ReaderRows$Loans", "atPlace", "(I)I"⟩ : Cond) ∈ lw_g := mg (List.mem_append_right _ (List.mem_of_getElem? (i := 303) (by decide +kernel))) rfl
theorem m_304 : (.selects "ReaderRows$Loans" ⟨"ReaderRows$Loans", "atPlace", "(I)I"⟩ ⟨"ReaderRows$Loans", "atPlace", "(I)I"⟩ : Cond) ∈ lw_g := mg (List.mem_append_right _ (List.mem_of_getElem? (i := 304) (by decide +kernel))) rfl
theorem m_305 : (.code ⟨"ReaderRows$Loans", "atPlace", "(I)I"⟩ prog_3_method_5_code 2 (some .int) : Cond) ∈ lw_g := mg (List.mem_append_right _ (List.mem_of_getElem? (i := 305) (by decide +kernel))) rfl
theorem m_306 : (.methodLink "ReaderRows" 124 ⟨"ReaderRows$Loans", "itemOf", "(I)I"⟩ : Cond) ∈ lw_g := mg (List.mem_append_right _ (List.mem_of_getElem? (i := 306) (by decide +kernel))) rfl
theorem m_307 : (.instanceMethod ⟨"ReaderRows$Loans", "itemOf", "(I)I"⟩ : Cond) ∈ lw_g := mg (List.mem_append_right _ (List.mem_of_getElem? (i := 307) (by decide +kernel))) rfl
theorem m_308 : (.selects "ReaderRows$Loans" ⟨"ReaderRows$Loans", "itemOf", "(I)I"⟩ ⟨"ReaderRows$Loans", "itemOf", "(I)I"⟩ : Cond) ∈ lw_g := mg (List.mem_append_right _ (List.mem_of_getElem? (i := 308) (by decide +kernel))) rfl
theorem m_309 : (.code ⟨"ReaderRows$Loans", "itemOf", "(I)I"⟩ prog_3_method_7_code 2 (some .int) : Cond) ∈ lw_g := mg (List.mem_append_right _ (List.mem_of_getElem? (i := 309) (by decide +kernel))) rfl
theorem m_310 : (.methodLink "ReaderRowsLaw" 61 ⟨"ReaderRows", "anonymise", "(J)I"⟩ : Cond) ∈ lw_g := mg (List.mem_append_right _ (List.mem_of_getElem? (i := 310) (by decide +kernel))) rfl
theorem m_311 : (.instanceMethod ⟨"ReaderRows", "anonymise", "(J)I"⟩ : Cond) ∈ lw_g := mg (List.mem_append_right _ (List.mem_of_getElem? (i := 311) (by decide +kernel))) rfl
theorem m_312 : (.selects "ReaderRows" ⟨"ReaderRows", "anonymise", "(J)I"⟩ ⟨"ReaderRows", "anonymise", "(J)I"⟩ : Cond) ∈ lw_g := mg (List.mem_append_right _ (List.mem_of_getElem? (i := 312) (by decide +kernel))) rfl
theorem m_313 : (.code ⟨"ReaderRows", "anonymise", "(J)I"⟩ prog_1_method_12_code 5 (some .int) : Cond) ∈ lw_g := mg (List.mem_append_right _ (List.mem_of_getElem? (i := 313) (by decide +kernel))) rfl
theorem m_314 : (.methodLink "ReaderRowsLaw" 66 ⟨"ReaderRows", "join", "(II)I"⟩ : Cond) ∈ lw_g := mg (List.mem_append_right _ (List.mem_of_getElem? (i := 314) (by decide +kernel))) rfl
theorem m_315 : (.instanceMethod ⟨"ReaderRows", "join", "(II)I"⟩ : Cond) ∈ lw_g := mg (List.mem_append_right _ (List.mem_of_getElem? (i := 315) (by decide +kernel))) rfl
theorem m_316 : (.selects "ReaderRows" ⟨"ReaderRows", "join", "(II)I"⟩ ⟨"ReaderRows", "join", "(II)I"⟩ : Cond) ∈ lw_g := mg (List.mem_append_right _ (List.mem_of_getElem? (i := 316) (by decide +kernel))) rfl
theorem m_317 : (.code ⟨"ReaderRows", "join", "(II)I"⟩ prog_1_method_13_code 5 (some .int) : Cond) ∈ lw_g := mg (List.mem_append_right _ (List.mem_of_getElem? (i := 317) (by decide +kernel))) rfl
theorem m_318 : (.methodLink "ReaderRows" 130 ⟨"ReaderRows", "mayJoin", "(II)Z"⟩ : Cond) ∈ lw_g := mg (List.mem_append_right _ (List.mem_of_getElem? (i := 318) (by decide +kernel))) rfl
theorem m_320 : (.instanceMethod ⟨"ReaderRows", "mayJoin", "(II)Z"⟩ : Cond) ∈ lw_g := mg (List.mem_append_right _ (List.mem_of_getElem? (i := 320) (by decide +kernel))) rfl
theorem m_321 : (.code ⟨"ReaderRows", "mayJoin", "(II)Z"⟩ prog_1_method_25_code 4 (some .boolean) : Cond) ∈ lw_g := mg (List.mem_append_right _ (List.mem_of_getElem? (i := 321) (by decide +kernel))) rfl
theorem m_322 : (.methodLink "ReaderRows" 141 ⟨"ReaderRows$Readers", "wardOf", "(II)I"⟩ : Cond) ∈ lw_g := mg (List.mem_append_right _ (List.mem_of_getElem? (i := 322) (by decide +kernel))) rfl
theorem m_323 : (.instanceMethod ⟨"ReaderRows$Readers", "wardOf", "(II)I"⟩ : Cond) ∈ lw_g := mg (List.mem_append_right _ (List.mem_of_getElem? (i := 323) (by decide +kernel))) rfl
theorem m_324 : (.selects "ReaderRows$Readers" ⟨"ReaderRows$Readers", "wardOf", "(II)I"⟩ ⟨"ReaderRows$Readers", "wardOf", "(II)I"⟩ : Cond) ∈ lw_g := mg (List.mem_append_right _ (List.mem_of_getElem? (i := 324) (by decide +kernel))) rfl
theorem m_325 : (.code ⟨"ReaderRows$Readers", "wardOf", "(II)I"⟩ prog_5_method_12_code 5 (some .int) : Cond) ∈ lw_g := mg (List.mem_append_right _ (List.mem_of_getElem? (i := 325) (by decide +kernel))) rfl
theorem m_326 : (.methodLink "ReaderRows" 134 ⟨"ReaderRows$Readers", "merge", "(II)V"⟩ : Cond) ∈ lw_g := mg (List.mem_append_right _ (List.mem_of_getElem? (i := 326) (by decide +kernel))) rfl
theorem m_327 : (.instanceMethod ⟨"ReaderRows$Readers", "merge", "(II)V"⟩ : Cond) ∈ lw_g := mg (List.mem_append_right _ (List.mem_of_getElem? (i := 327) (by decide +kernel))) rfl
theorem m_328 : (.selects "ReaderRows$Readers" ⟨"ReaderRows$Readers", "merge", "(II)V"⟩ ⟨"ReaderRows$Readers", "merge", "(II)V"⟩ : Cond) ∈ lw_g := mg (List.mem_append_right _ (List.mem_of_getElem? (i := 328) (by decide +kernel))) rfl
theorem m_329 : (.code ⟨"ReaderRows$Readers", "merge", "(II)V"⟩ prog_5_method_13_code 7 none : Cond) ∈ lw_g := mg (List.mem_append_right _ (List.mem_of_getElem? (i := 329) (by decide +kernel))) rfl
theorem m_330 : (.methodLink "ReaderRows$Readers" 35 ⟨"java/lang/Math", "max", "(JJ)J"⟩ : Cond) ∈ lw_g := mg (List.mem_append_right _ (List.mem_of_getElem? (i := 330) (by decide +kernel))) rfl
theorem m_331 : (.static ⟨"java/lang/Math", "max", "(JJ)J"⟩ : Cond) ∈ lw_g := mg (List.mem_append_right _ (List.mem_of_getElem? (i := 331) (by decide +kernel))) rfl
theorem m_332 : (.code ⟨"java/lang/Math", "max", "(JJ)J"⟩ prog_9_method_66_code 4 (some .long) : Cond) ∈ lw_g := mg (List.mem_append_right _ (List.mem_of_getElem? (i := 332) (by decide +kernel))) rfl
theorem m_333 : (.methodLink "ReaderRows" 137 ⟨"ReaderRows$Cards", "moveAll", "(II)V"⟩ : Cond) ∈ lw_g := mg (List.mem_append_right _ (List.mem_of_getElem? (i := 333) (by decide +kernel))) rfl
theorem m_334 : (.instanceMethod ⟨"ReaderRows$Cards", "moveAll", "(II)V"⟩ : Cond) ∈ lw_g := mg (List.mem_append_right _ (List.mem_of_getElem? (i := 334) (by decide +kernel))) rfl
theorem m_335 : (.selects "ReaderRows$Cards" ⟨"ReaderRows$Cards", "moveAll", "(II)V"⟩ ⟨"ReaderRows$Cards", "moveAll", "(II)V"⟩ : Cond) ∈ lw_g := mg (List.mem_append_right _ (List.mem_of_getElem? (i := 335) (by decide +kernel))) rfl
theorem m_336 : (.code ⟨"ReaderRows$Cards", "moveAll", "(II)V"⟩ prog_2_method_7_code 4 none : Cond) ∈ lw_g := mg (List.mem_append_right _ (List.mem_of_getElem? (i := 336) (by decide +kernel))) rfl
theorem m_337 : (.methodLink "ReaderRows" 140 ⟨"ReaderRows$Loans", "moveAll", "(II)V"⟩ : Cond) ∈ lw_g := mg (List.mem_append_right _ (List.mem_of_getElem? (i := 337) (by decide +kernel))) rfl
theorem m_338 : (.instanceMethod ⟨"ReaderRows$Loans", "moveAll", "(II)V"⟩ : Cond) ∈ lw_g := mg (List.mem_append_right _ (List.mem_of_getElem? (i := 338) (by decide +kernel))) rfl
theorem m_339 : (.selects "ReaderRows$Loans" ⟨"ReaderRows$Loans", "moveAll", "(II)V"⟩ ⟨"ReaderRows$Loans", "moveAll", "(II)V"⟩ : Cond) ∈ lw_g := mg (List.mem_append_right _ (List.mem_of_getElem? (i := 339) (by decide +kernel))) rfl
theorem m_340 : (.code ⟨"ReaderRows$Loans", "moveAll", "(II)V"⟩ prog_3_method_13_code 4 none : Cond) ∈ lw_g := mg (List.mem_append_right _ (List.mem_of_getElem? (i := 340) (by decide +kernel))) rfl
theorem m_341 : (.methodLink "ReaderRowsLaw" 70 ⟨"ReaderRows", "family", "(II)I"⟩ : Cond) ∈ lw_g := mg (List.mem_append_right _ (List.mem_of_getElem? (i := 341) (by decide +kernel))) rfl
theorem m_342 : (.instanceMethod ⟨"ReaderRows", "family", "(II)I"⟩ : Cond) ∈ lw_g := mg (List.mem_append_right _ (List.mem_of_getElem? (i := 342) (by decide +kernel))) rfl
theorem m_343 : (.selects "ReaderRows" ⟨"ReaderRows", "family", "(II)I"⟩ ⟨"ReaderRows", "family", "(II)I"⟩ : Cond) ∈ lw_g := mg (List.mem_append_right _ (List.mem_of_getElem? (i := 343) (by decide +kernel))) rfl
theorem m_344 : (.code ⟨"ReaderRows", "family", "(II)I"⟩ prog_1_method_14_code 6 (some .int) : Cond) ∈ lw_g := mg (List.mem_append_right _ (List.mem_of_getElem? (i := 344) (by decide +kernel))) rfl
theorem m_345 : (.methodLink "ReaderRowsLaw" 74 ⟨"ReaderRows", "sign", "(I)V"⟩ : Cond) ∈ lw_g := mg (List.mem_append_right _ (List.mem_of_getElem? (i := 345) (by decide +kernel))) rfl
theorem m_346 : (.instanceMethod ⟨"ReaderRows", "sign", "(I)V"⟩ : Cond) ∈ lw_g := mg (List.mem_append_right _ (List.mem_of_getElem? (i := 346) (by decide +kernel))) rfl
theorem m_347 : (.selects "ReaderRows" ⟨"ReaderRows", "sign", "(I)V"⟩ ⟨"ReaderRows", "sign", "(I)V"⟩ : Cond) ∈ lw_g := mg (List.mem_append_right _ (List.mem_of_getElem? (i := 347) (by decide +kernel))) rfl
theorem m_348 : (.code ⟨"ReaderRows", "sign", "(I)V"⟩ prog_1_method_15_code 2 none : Cond) ∈ lw_g := mg (List.mem_append_right _ (List.mem_of_getElem? (i := 348) (by decide +kernel))) rfl
theorem m_349 : (.methodLink "ReaderRows" 144 ⟨"ReaderRows$Row", "collect", "(I)V"⟩ : Cond) ∈ lw_g := mg (List.mem_append_right _ (List.mem_of_getElem? (i := 349) (by decide +kernel))) rfl
theorem m_350 : (.instanceMethod ⟨"ReaderRows$Row", "collect", "(I)V"⟩ : Cond) ∈ lw_g := mg (List.mem_append_right _ (List.mem_of_getElem? (i := 350) (by decide +kernel))) rfl
theorem m_351 : (.selects "ReaderRows$Row" ⟨"ReaderRows$Row", "collect", "(I)V"⟩ ⟨"ReaderRows$Row", "collect", "(I)V"⟩ : Cond) ∈ lw_g := mg (List.mem_append_right _ (List.mem_of_getElem? (i := 351) (by decide +kernel))) rfl
theorem m_352 : (.code ⟨"ReaderRows$Row", "collect", "(I)V"⟩ prog_6_method_2_code 2 none : Cond) ∈ lw_g := mg (List.mem_append_right _ (List.mem_of_getElem? (i := 352) (by decide +kernel))) rfl
theorem m_353 : (.methodLink "ReaderRowsLaw" 79 ⟨"ReaderRows", "import0", "()I"⟩ : Cond) ∈ lw_g := mg (List.mem_append_right _ (List.mem_of_getElem? (i := 353) (by decide +kernel))) rfl
theorem m_354 : (.instanceMethod ⟨"ReaderRows", "import0", "()I"⟩ : Cond) ∈ lw_g := mg (List.mem_append_right _ (List.mem_of_getElem? (i := 354) (by decide +kernel))) rfl
theorem m_355 : (.selects "ReaderRows" ⟨"ReaderRows", "import0", "()I"⟩ ⟨"ReaderRows", "import0", "()I"⟩ : Cond) ∈ lw_g := mg (List.mem_append_right _ (List.mem_of_getElem? (i := 355) (by decide +kernel))) rfl
theorem m_356 : (.code ⟨"ReaderRows", "import0", "()I"⟩ prog_1_method_16_code 3 (some .int) : Cond) ∈ lw_g := mg (List.mem_append_right _ (List.mem_of_getElem? (i := 356) (by decide +kernel))) rfl
theorem m_357 : (.methodLink "ReaderRows" 147 ⟨"ReaderRows$Row", "readAll", "()I"⟩ : Cond) ∈ lw_g := mg (List.mem_append_right _ (List.mem_of_getElem? (i := 357) (by decide +kernel))) rfl
theorem m_358 : (.instanceMethod ⟨"ReaderRows$Row", "readAll", "()I"⟩ : Cond) ∈ lw_g := mg (List.mem_append_right _ (List.mem_of_getElem? (i := 358) (by decide +kernel))) rfl
theorem m_359 : (.selects "ReaderRows$Row" ⟨"ReaderRows$Row", "readAll", "()I"⟩ ⟨"ReaderRows$Row", "readAll", "()I"⟩ : Cond) ∈ lw_g := mg (List.mem_append_right _ (List.mem_of_getElem? (i := 359) (by decide +kernel))) rfl
theorem m_360 : (.code ⟨"ReaderRows$Row", "readAll", "()I"⟩ prog_6_method_9_code 2 (some .int) : Cond) ∈ lw_g := mg (List.mem_append_right _ (List.mem_of_getElem? (i := 360) (by decide +kernel))) rfl
theorem m_361 : (.methodLink "ReaderRows$Row" 28 ⟨"ReaderRows$Row", "readName", "()V"⟩ : Cond) ∈ lw_g := mg (List.mem_append_right _ (List.mem_of_getElem? (i := 361) (by decide +kernel))) rfl
theorem m_363 : (.instanceMethod ⟨"ReaderRows$Row", "readName", "()V"⟩ : Cond) ∈ lw_g := mg (List.mem_append_right _ (List.mem_of_getElem? (i := 363) (by decide +kernel))) rfl
theorem m_364 : (.code ⟨"ReaderRows$Row", "readName", "()V"⟩ prog_6_method_10_code 2 none : Cond) ∈ lw_g := mg (List.mem_append_right _ (List.mem_of_getElem? (i := 364) (by decide +kernel))) rfl
theorem m_365 : (.methodLink "ReaderRows$Row" 35 ⟨"ReaderRows$Row", "isAmong", "(III)Z"⟩ : Cond) ∈ lw_g := mg (List.mem_append_right _ (List.mem_of_getElem? (i := 365) (by decide +kernel))) rfl
theorem m_367 : (.instanceMethod ⟨"ReaderRows$Row", "isAmong", "(III)Z"⟩ : Cond) ∈ lw_g := mg (List.mem_append_right _ (List.mem_of_getElem? (i := 367) (by decide +kernel))) rfl
theorem m_368 : (.code ⟨"ReaderRows$Row", "isAmong", "(III)Z"⟩ prog_6_method_12_code 5 (some .boolean) : Cond) ∈ lw_g := mg (List.mem_append_right _ (List.mem_of_getElem? (i := 368) (by decide +kernel))) rfl
theorem m_369 : (.methodLink "ReaderRows$Row" 31 ⟨"ReaderRows$Row", "signAt", "(I)I"⟩ : Cond) ∈ lw_g := mg (List.mem_append_right _ (List.mem_of_getElem? (i := 369) (by decide +kernel))) rfl
theorem m_370 : (.instanceMethod ⟨"ReaderRows$Row", "signAt", "(I)I"⟩ : Cond) ∈ lw_g := mg (List.mem_append_right _ (List.mem_of_getElem? (i := 370) (by decide +kernel))) rfl
theorem m_371 : (.selects "ReaderRows$Row" ⟨"ReaderRows$Row", "signAt", "(I)I"⟩ ⟨"ReaderRows$Row", "signAt", "(I)I"⟩ : Cond) ∈ lw_g := mg (List.mem_append_right _ (List.mem_of_getElem? (i := 371) (by decide +kernel))) rfl
theorem m_372 : (.code ⟨"ReaderRows$Row", "signAt", "(I)I"⟩ prog_6_method_4_code 2 (some .int) : Cond) ∈ lw_g := mg (List.mem_append_right _ (List.mem_of_getElem? (i := 372) (by decide +kernel))) rfl
theorem m_373 : (.methodLink "ReaderRows$Row" 39 ⟨"ReaderRows$Row", "readYear", "(I)I"⟩ : Cond) ∈ lw_g := mg (List.mem_append_right _ (List.mem_of_getElem? (i := 373) (by decide +kernel))) rfl
theorem m_375 : (.instanceMethod ⟨"ReaderRows$Row", "readYear", "(I)I"⟩ : Cond) ∈ lw_g := mg (List.mem_append_right _ (List.mem_of_getElem? (i := 375) (by decide +kernel))) rfl
theorem m_376 : (.code ⟨"ReaderRows$Row", "readYear", "(I)I"⟩ prog_6_method_11_code 3 (some .int) : Cond) ∈ lw_g := mg (List.mem_append_right _ (List.mem_of_getElem? (i := 376) (by decide +kernel))) rfl
theorem m_377 : (.methodLink "ReaderRows" 150 ⟨"ReaderRows", "importFittingRow", "()I"⟩ : Cond) ∈ lw_g := mg (List.mem_append_right _ (List.mem_of_getElem? (i := 377) (by decide +kernel))) rfl
theorem m_379 : (.instanceMethod ⟨"ReaderRows", "importFittingRow", "()I"⟩ : Cond) ∈ lw_g := mg (List.mem_append_right _ (List.mem_of_getElem? (i := 379) (by decide +kernel))) rfl
theorem m_380 : (.code ⟨"ReaderRows", "importFittingRow", "()I"⟩ prog_1_method_26_code 3 (some .int) : Cond) ∈ lw_g := mg (List.mem_append_right _ (List.mem_of_getElem? (i := 380) (by decide +kernel))) rfl
theorem m_381 : (.methodLink "ReaderRows" 182 ⟨"ReaderRows", "firstNamed", "()I"⟩ : Cond) ∈ lw_g := mg (List.mem_append_right _ (List.mem_of_getElem? (i := 381) (by decide +kernel))) rfl
theorem m_383 : (.instanceMethod ⟨"ReaderRows", "firstNamed", "()I"⟩ : Cond) ∈ lw_g := mg (List.mem_append_right _ (List.mem_of_getElem? (i := 383) (by decide +kernel))) rfl
theorem m_384 : (.code ⟨"ReaderRows", "firstNamed", "()I"⟩ prog_1_method_27_code 2 (some .int) : Cond) ∈ lw_g := mg (List.mem_append_right _ (List.mem_of_getElem? (i := 384) (by decide +kernel))) rfl
theorem m_385 : (.methodLink "ReaderRows" 192 ⟨"ReaderRows$Readers", "count", "()I"⟩ : Cond) ∈ lw_g := mg (List.mem_append_right _ (List.mem_of_getElem? (i := 385) (by decide +kernel))) rfl
theorem m_386 : (.instanceMethod ⟨"ReaderRows$Readers", "count", "()I"⟩ : Cond) ∈ lw_g := mg (List.mem_append_right _ (List.mem_of_getElem? (i := 386) (by decide +kernel))) rfl
theorem m_387 : (.selects "ReaderRows$Readers" ⟨"ReaderRows$Readers", "count", "()I"⟩ ⟨"ReaderRows$Readers", "count", "()I"⟩ : Cond) ∈ lw_g := mg (List.mem_append_right _ (List.mem_of_getElem? (i := 387) (by decide +kernel))) rfl
theorem m_388 : (.code ⟨"ReaderRows$Readers", "count", "()I"⟩ prog_5_method_2_code 1 (some .int) : Cond) ∈ lw_g := mg (List.mem_append_right _ (List.mem_of_getElem? (i := 388) (by decide +kernel))) rfl
theorem m_389 : (.methodLink "ReaderRows" 193 ⟨"ReaderRows$Readers", "isJoined", "(I)Z"⟩ : Cond) ∈ lw_g := mg (List.mem_append_right _ (List.mem_of_getElem? (i := 389) (by decide +kernel))) rfl
theorem m_390 : (.instanceMethod ⟨"ReaderRows$Readers", "isJoined", "(I)Z"⟩ : Cond) ∈ lw_g := mg (List.mem_append_right _ (List.mem_of_getElem? (i := 390) (by decide +kernel))) rfl
theorem m_391 : (.selects "ReaderRows$Readers" ⟨"ReaderRows$Readers", "isJoined", "(I)Z"⟩ ⟨"ReaderRows$Readers", "isJoined", "(I)Z"⟩ : Cond) ∈ lw_g := mg (List.mem_append_right _ (List.mem_of_getElem? (i := 391) (by decide +kernel))) rfl
theorem m_392 : (.code ⟨"ReaderRows$Readers", "isJoined", "(I)Z"⟩ prog_5_method_5_code 2 (some .boolean) : Cond) ∈ lw_g := mg (List.mem_append_right _ (List.mem_of_getElem? (i := 392) (by decide +kernel))) rfl
theorem m_393 : (.methodLink "ReaderRows" 196 ⟨"ReaderRows$Names", "isSame", "(ILReaderRows$Row;)Z"⟩ : Cond) ∈ lw_g := mg (List.mem_append_right _ (List.mem_of_getElem? (i := 393) (by decide +kernel))) rfl
theorem m_394 : (.instanceMethod ⟨"ReaderRows$Names", "isSame", "(ILReaderRows$Row;)Z"⟩ : Cond) ∈ lw_g := mg (List.mem_append_right _ (List.mem_of_getElem? (i := 394) (by decide +kernel))) rfl
theorem m_395 : (.selects "ReaderRows$Names" ⟨"ReaderRows$Names", "isSame", "(ILReaderRows$Row;)Z"⟩ ⟨"ReaderRows$Names", "isSame", "(ILReaderRows$Row;)Z"⟩ : Cond) ∈ lw_g := mg (List.mem_append_right _ (List.mem_of_getElem? (i := 395) (by decide +kernel))) rfl
theorem m_396 : (.code ⟨"ReaderRows$Names", "isSame", "(ILReaderRows$Row;)Z"⟩ prog_4_method_4_code 5 (some .boolean) : Cond) ∈ lw_g := mg (List.mem_append_right _ (List.mem_of_getElem? (i := 396) (by decide +kernel))) rfl
theorem m_397 : (.methodLink "ReaderRows$Names" 27 ⟨"ReaderRows$Row", "nameLength", "()I"⟩ : Cond) ∈ lw_g := mg (List.mem_append_right _ (List.mem_of_getElem? (i := 397) (by decide +kernel))) rfl
theorem m_398 : (.instanceMethod ⟨"ReaderRows$Row", "nameLength", "()I"⟩ : Cond) ∈ lw_g := mg (List.mem_append_right _ (List.mem_of_getElem? (i := 398) (by decide +kernel))) rfl
theorem m_399 : (.selects "ReaderRows$Row" ⟨"ReaderRows$Row", "nameLength", "()I"⟩ ⟨"ReaderRows$Row", "nameLength", "()I"⟩ : Cond) ∈ lw_g := mg (List.mem_append_right _ (List.mem_of_getElem? (i := 399) (by decide +kernel))) rfl
theorem m_400 : (.code ⟨"ReaderRows$Row", "nameLength", "()I"⟩ prog_6_method_5_code 1 (some .int) : Cond) ∈ lw_g := mg (List.mem_append_right _ (List.mem_of_getElem? (i := 400) (by decide +kernel))) rfl
theorem m_401 : (.methodLink "ReaderRows$Names" 35 ⟨"ReaderRows$Row", "year", "()I"⟩ : Cond) ∈ lw_g := mg (List.mem_append_right _ (List.mem_of_getElem? (i := 401) (by decide +kernel))) rfl
theorem m_402 : (.instanceMethod ⟨"ReaderRows$Row", "year", "()I"⟩ : Cond) ∈ lw_g := mg (List.mem_append_right _ (List.mem_of_getElem? (i := 402) (by decide +kernel))) rfl
theorem m_403 : (.selects "ReaderRows$Row" ⟨"ReaderRows$Row", "year", "()I"⟩ ⟨"ReaderRows$Row", "year", "()I"⟩ : Cond) ∈ lw_g := mg (List.mem_append_right _ (List.mem_of_getElem? (i := 403) (by decide +kernel))) rfl
theorem m_404 : (.code ⟨"ReaderRows$Row", "year", "()I"⟩ prog_6_method_7_code 1 (some .int) : Cond) ∈ lw_g := mg (List.mem_append_right _ (List.mem_of_getElem? (i := 404) (by decide +kernel))) rfl
theorem m_405 : (.methodLink "ReaderRows$Names" 38 ⟨"ReaderRows$Names", "letterAt", "(II)I"⟩ : Cond) ∈ lw_g := mg (List.mem_append_right _ (List.mem_of_getElem? (i := 405) (by decide +kernel))) rfl
theorem m_407 : (.instanceMethod ⟨"ReaderRows$Names", "letterAt", "(II)I"⟩ : Cond) ∈ lw_g := mg (List.mem_append_right _ (List.mem_of_getElem? (i := 407) (by decide +kernel))) rfl
theorem m_408 : (.code ⟨"ReaderRows$Names", "letterAt", "(II)I"⟩ prog_4_method_6_code 3 (some .int) : Cond) ∈ lw_g := mg (List.mem_append_right _ (List.mem_of_getElem? (i := 408) (by decide +kernel))) rfl
theorem m_409 : (.methodLink "ReaderRows$Names" 31 ⟨"ReaderRows$Row", "signAt", "(I)I"⟩ : Cond) ∈ lw_g := mg (List.mem_append_right _ (List.mem_of_getElem? (i := 409) (by decide +kernel))) rfl
theorem m_410 : (.methodLink "ReaderRows" 185 ⟨"ReaderRows$Row", "kind", "()I"⟩ : Cond) ∈ lw_g := mg (List.mem_append_right _ (List.mem_of_getElem? (i := 410) (by decide +kernel))) rfl
theorem m_411 : (.instanceMethod ⟨"ReaderRows$Row", "kind", "()I"⟩ : Cond) ∈ lw_g := mg (List.mem_append_right _ (List.mem_of_getElem? (i := 411) (by decide +kernel))) rfl
theorem m_412 : (.selects "ReaderRows$Row" ⟨"ReaderRows$Row", "kind", "()I"⟩ ⟨"ReaderRows$Row", "kind", "()I"⟩ : Cond) ∈ lw_g := mg (List.mem_append_right _ (List.mem_of_getElem? (i := 412) (by decide +kernel))) rfl
theorem m_413 : (.code ⟨"ReaderRows$Row", "kind", "()I"⟩ prog_6_method_6_code 1 (some .int) : Cond) ∈ lw_g := mg (List.mem_append_right _ (List.mem_of_getElem? (i := 413) (by decide +kernel))) rfl
theorem m_414 : (.methodLink "ReaderRows" 188 ⟨"ReaderRows$Names", "put", "(ILReaderRows$Row;)V"⟩ : Cond) ∈ lw_g := mg (List.mem_append_right _ (List.mem_of_getElem? (i := 414) (by decide +kernel))) rfl
theorem m_415 : (.instanceMethod ⟨"ReaderRows$Names", "put", "(ILReaderRows$Row;)V"⟩ : Cond) ∈ lw_g := mg (List.mem_append_right _ (List.mem_of_getElem? (i := 415) (by decide +kernel))) rfl
theorem m_416 : (.selects "ReaderRows$Names" ⟨"ReaderRows$Names", "put", "(ILReaderRows$Row;)V"⟩ ⟨"ReaderRows$Names", "put", "(ILReaderRows$Row;)V"⟩ : Cond) ∈ lw_g := mg (List.mem_append_right _ (List.mem_of_getElem? (i := 416) (by decide +kernel))) rfl
theorem m_417 : (.code ⟨"ReaderRows$Names", "put", "(ILReaderRows$Row;)V"⟩ prog_4_method_2_code 5 none : Cond) ∈ lw_g := mg (List.mem_append_right _ (List.mem_of_getElem? (i := 417) (by decide +kernel))) rfl
theorem m_418 : (.methodLink "ReaderRows" 153 ⟨"ReaderRows$Row", "clear", "()V"⟩ : Cond) ∈ lw_g := mg (List.mem_append_right _ (List.mem_of_getElem? (i := 418) (by decide +kernel))) rfl
theorem m_419 : (.instanceMethod ⟨"ReaderRows$Row", "clear", "()V"⟩ : Cond) ∈ lw_g := mg (List.mem_append_right _ (List.mem_of_getElem? (i := 419) (by decide +kernel))) rfl
theorem m_420 : (.selects "ReaderRows$Row" ⟨"ReaderRows$Row", "clear", "()V"⟩ ⟨"ReaderRows$Row", "clear", "()V"⟩ : Cond) ∈ lw_g := mg (List.mem_append_right _ (List.mem_of_getElem? (i := 420) (by decide +kernel))) rfl
theorem m_421 : (.code ⟨"ReaderRows$Row", "clear", "()V"⟩ prog_6_method_3_code 1 none : Cond) ∈ lw_g := mg (List.mem_append_right _ (List.mem_of_getElem? (i := 421) (by decide +kernel))) rfl
theorem m_422 : (.methodLink "ReaderRowsLaw" 84 ⟨"ReaderRows", "like", "()I"⟩ : Cond) ∈ lw_g := mg (List.mem_append_right _ (List.mem_of_getElem? (i := 422) (by decide +kernel))) rfl
theorem m_423 : (.instanceMethod ⟨"ReaderRows", "like", "()I"⟩ : Cond) ∈ lw_g := mg (List.mem_append_right _ (List.mem_of_getElem? (i := 423) (by decide +kernel))) rfl
theorem m_424 : (.selects "ReaderRows" ⟨"ReaderRows", "like", "()I"⟩ ⟨"ReaderRows", "like", "()I"⟩ : Cond) ∈ lw_g := mg (List.mem_append_right _ (List.mem_of_getElem? (i := 424) (by decide +kernel))) rfl
theorem m_425 : (.code ⟨"ReaderRows", "like", "()I"⟩ prog_1_method_17_code 2 (some .int) : Cond) ∈ lw_g := mg (List.mem_append_right _ (List.mem_of_getElem? (i := 425) (by decide +kernel))) rfl
theorem m_426 : (.methodLink "ReaderRows" 156 ⟨"ReaderRows$Row", "readNameAlone", "()Z"⟩ : Cond) ∈ lw_g := mg (List.mem_append_right _ (List.mem_of_getElem? (i := 426) (by decide +kernel))) rfl
theorem m_427 : (.instanceMethod ⟨"ReaderRows$Row", "readNameAlone", "()Z"⟩ : Cond) ∈ lw_g := mg (List.mem_append_right _ (List.mem_of_getElem? (i := 427) (by decide +kernel))) rfl
theorem m_428 : (.selects "ReaderRows$Row" ⟨"ReaderRows$Row", "readNameAlone", "()Z"⟩ ⟨"ReaderRows$Row", "readNameAlone", "()Z"⟩ : Cond) ∈ lw_g := mg (List.mem_append_right _ (List.mem_of_getElem? (i := 428) (by decide +kernel))) rfl
theorem m_429 : (.code ⟨"ReaderRows$Row", "readNameAlone", "()Z"⟩ prog_6_method_8_code 1 (some .boolean) : Cond) ∈ lw_g := mg (List.mem_append_right _ (List.mem_of_getElem? (i := 429) (by decide +kernel))) rfl
theorem m_430 : (.methodLink "ReaderRows" 160 ⟨"ReaderRows", "nearestNamed", "()I"⟩ : Cond) ∈ lw_g := mg (List.mem_append_right _ (List.mem_of_getElem? (i := 430) (by decide +kernel))) rfl
theorem m_432 : (.instanceMethod ⟨"ReaderRows", "nearestNamed", "()I"⟩ : Cond) ∈ lw_g := mg (List.mem_append_right _ (List.mem_of_getElem? (i := 432) (by decide +kernel))) rfl
theorem m_433 : (.code ⟨"ReaderRows", "nearestNamed", "()I"⟩ prog_1_method_28_code 5 (some .int) : Cond) ∈ lw_g := mg (List.mem_append_right _ (List.mem_of_getElem? (i := 433) (by decide +kernel))) rfl
theorem m_434 : (.methodLink "ReaderRows" 200 ⟨"ReaderRows$Names", "has", "(I)Z"⟩ : Cond) ∈ lw_g := mg (List.mem_append_right _ (List.mem_of_getElem? (i := 434) (by decide +kernel))) rfl
theorem m_435 : (.instanceMethod ⟨"ReaderRows$Names", "has", "(I)Z"⟩ : Cond) ∈ lw_g := mg (List.mem_append_right _ (List.mem_of_getElem? (i := 435) (by decide +kernel))) rfl
theorem m_436 : (.selects "ReaderRows$Names" ⟨"ReaderRows$Names", "has", "(I)Z"⟩ ⟨"ReaderRows$Names", "has", "(I)Z"⟩ : Cond) ∈ lw_g := mg (List.mem_append_right _ (List.mem_of_getElem? (i := 436) (by decide +kernel))) rfl
theorem m_437 : (.code ⟨"ReaderRows$Names", "has", "(I)Z"⟩ prog_4_method_3_code 2 (some .boolean) : Cond) ∈ lw_g := mg (List.mem_append_right _ (List.mem_of_getElem? (i := 437) (by decide +kernel))) rfl
theorem m_438 : (.methodLink "ReaderRows" 203 ⟨"ReaderRows$Names", "distance", "(ILReaderRows$Row;)I"⟩ : Cond) ∈ lw_g := mg (List.mem_append_right _ (List.mem_of_getElem? (i := 438) (by decide +kernel))) rfl
theorem m_439 : (.instanceMethod ⟨"ReaderRows$Names", "distance", "(ILReaderRows$Row;)I"⟩ : Cond) ∈ lw_g := mg (List.mem_append_right _ (List.mem_of_getElem? (i := 439) (by decide +kernel))) rfl
theorem m_440 : (.selects "ReaderRows$Names" ⟨"ReaderRows$Names", "distance", "(ILReaderRows$Row;)I"⟩ ⟨"ReaderRows$Names", "distance", "(ILReaderRows$Row;)I"⟩ : Cond) ∈ lw_g := mg (List.mem_append_right _ (List.mem_of_getElem? (i := 440) (by decide +kernel))) rfl
theorem m_441 : (.code ⟨"ReaderRows$Names", "distance", "(ILReaderRows$Row;)I"⟩ prog_4_method_5_code 10 (some .int) : Cond) ∈ lw_g := mg (List.mem_append_right _ (List.mem_of_getElem? (i := 441) (by decide +kernel))) rfl
theorem m_442 : (.methodLink "ReaderRows$Names" 42 ⟨"java/lang/Math", "min", "(II)I"⟩ : Cond) ∈ lw_g := mg (List.mem_append_right _ (List.mem_of_getElem? (i := 442) (by decide +kernel))) rfl
theorem m_443 : (.static ⟨"java/lang/Math", "min", "(II)I"⟩ : Cond) ∈ lw_g := mg (List.mem_append_right _ (List.mem_of_getElem? (i := 443) (by decide +kernel))) rfl
theorem m_444 : (.code ⟨"java/lang/Math", "min", "(II)I"⟩ prog_9_method_69_code 2 (some .int) : Cond) ∈ lw_g := mg (List.mem_append_right _ (List.mem_of_getElem? (i := 444) (by decide +kernel))) rfl
theorem m_445 : (.methodLink "ReaderRowsLaw" 88 ⟨"ReaderRows", "about", "(II)I"⟩ : Cond) ∈ lw_g := mg (List.mem_append_right _ (List.mem_of_getElem? (i := 445) (by decide +kernel))) rfl
theorem m_446 : (.instanceMethod ⟨"ReaderRows", "about", "(II)I"⟩ : Cond) ∈ lw_g := mg (List.mem_append_right _ (List.mem_of_getElem? (i := 446) (by decide +kernel))) rfl
theorem m_447 : (.selects "ReaderRows" ⟨"ReaderRows", "about", "(II)I"⟩ ⟨"ReaderRows", "about", "(II)I"⟩ : Cond) ∈ lw_g := mg (List.mem_append_right _ (List.mem_of_getElem? (i := 447) (by decide +kernel))) rfl
theorem m_448 : (.code ⟨"ReaderRows", "about", "(II)I"⟩ prog_1_method_18_code 4 (some .int) : Cond) ∈ lw_g := mg (List.mem_append_right _ (List.mem_of_getElem? (i := 448) (by decide +kernel))) rfl
theorem m_449 : (.methodLink "ReaderRows" 163 ⟨"ReaderRows$Loans", "countNamed", "(I)I"⟩ : Cond) ∈ lw_g := mg (List.mem_append_right _ (List.mem_of_getElem? (i := 449) (by decide +kernel))) rfl
theorem m_450 : (.instanceMethod ⟨"ReaderRows$Loans", "countNamed", "(I)I"⟩ : Cond) ∈ lw_g := mg (List.mem_append_right _ (List.mem_of_getElem? (i := 450) (by decide +kernel))) rfl
theorem m_451 : (.selects "ReaderRows$Loans" ⟨"ReaderRows$Loans", "countNamed", "(I)I"⟩ ⟨"ReaderRows$Loans", "countNamed", "(I)I"⟩ : Cond) ∈ lw_g := mg (List.mem_append_right _ (List.mem_of_getElem? (i := 451) (by decide +kernel))) rfl
theorem m_452 : (.code ⟨"ReaderRows$Loans", "countNamed", "(I)I"⟩ prog_3_method_11_code 4 (some .int) : Cond) ∈ lw_g := mg (List.mem_append_right _ (List.mem_of_getElem? (i := 452) (by decide +kernel))) rfl
theorem m_453 : (.methodLink "ReaderRowsLaw" 92 ⟨"ReaderRows", "statistics", "(IJJ)I"⟩ : Cond) ∈ lw_g := mg (List.mem_append_right _ (List.mem_of_getElem? (i := 453) (by decide +kernel))) rfl
theorem m_454 : (.instanceMethod ⟨"ReaderRows", "statistics", "(IJJ)I"⟩ : Cond) ∈ lw_g := mg (List.mem_append_right _ (List.mem_of_getElem? (i := 454) (by decide +kernel))) rfl
theorem m_455 : (.selects "ReaderRows" ⟨"ReaderRows", "statistics", "(IJJ)I"⟩ ⟨"ReaderRows", "statistics", "(IJJ)I"⟩ : Cond) ∈ lw_g := mg (List.mem_append_right _ (List.mem_of_getElem? (i := 455) (by decide +kernel))) rfl
theorem m_456 : (.code ⟨"ReaderRows", "statistics", "(IJJ)I"⟩ prog_1_method_19_code 6 (some .int) : Cond) ∈ lw_g := mg (List.mem_append_right _ (List.mem_of_getElem? (i := 456) (by decide +kernel))) rfl
theorem m_457 : (.methodLink "ReaderRows" 166 ⟨"ReaderRows$Loans", "countBegun", "(IJJ)I"⟩ : Cond) ∈ lw_g := mg (List.mem_append_right _ (List.mem_of_getElem? (i := 457) (by decide +kernel))) rfl
theorem m_458 : (.instanceMethod ⟨"ReaderRows$Loans", "countBegun", "(IJJ)I"⟩ : Cond) ∈ lw_g := mg (List.mem_append_right _ (List.mem_of_getElem? (i := 458) (by decide +kernel))) rfl
theorem m_459 : (.selects "ReaderRows$Loans" ⟨"ReaderRows$Loans", "countBegun", "(IJJ)I"⟩ ⟨"ReaderRows$Loans", "countBegun", "(IJJ)I"⟩ : Cond) ∈ lw_g := mg (List.mem_append_right _ (List.mem_of_getElem? (i := 459) (by decide +kernel))) rfl
theorem m_460 : (.code ⟨"ReaderRows$Loans", "countBegun", "(IJJ)I"⟩ prog_3_method_12_code 8 (some .int) : Cond) ∈ lw_g := mg (List.mem_append_right _ (List.mem_of_getElem? (i := 460) (by decide +kernel))) rfl
theorem m_461 : (.classLink "ReaderRowsLaw" 10 "ReaderRowsModel" : Cond) ∈ lw_g := mg (List.mem_append_right _ (List.mem_of_getElem? (i := 461) (by decide +kernel))) rfl
theorem m_462 : (.instantiable "ReaderRowsModel" 27 : Cond) ∈ lw_g := mg (List.mem_append_right _ (List.mem_of_getElem? (i := 462) (by decide +kernel))) rfl
theorem m_463 : (.methodLink "ReaderRowsLaw" 12 ⟨"ReaderRowsModel", "<init>", "()V"⟩ : Cond) ∈ lw_g := mg (List.mem_append_right _ (List.mem_of_getElem? (i := 463) (by decide +kernel))) rfl
theorem m_464 : (.instanceMethod ⟨"ReaderRowsModel", "<init>", "()V"⟩ : Cond) ∈ lw_g := mg (List.mem_append_right _ (List.mem_of_getElem? (i := 464) (by decide +kernel))) rfl
theorem m_465 : (.code ⟨"ReaderRowsModel", "<init>", "()V"⟩ prog_8_method_1_code 2 none : Cond) ∈ lw_g := mg (List.mem_append_right _ (List.mem_of_getElem? (i := 465) (by decide +kernel))) rfl
theorem m_466 : (.methodLink "ReaderRowsModel" 1 ⟨"java/lang/Object", "<init>", "()V"⟩ : Cond) ∈ lw_g := mg (List.mem_append_right _ (List.mem_of_getElem? (i := 466) (by decide +kernel))) rfl
theorem m_467 : (.constantLong "ReaderRowsModel" 76 (-1) : Cond) ∈ lw_g := mg (List.mem_append_right _ (List.mem_of_getElem? (i := 467) (by decide +kernel))) rfl
theorem m_468 : (.fieldLink "ReaderRowsModel" 78 "ReaderRowsModel" "thrown" "I" : Cond) ∈ lw_g := mg (List.mem_append_right _ (List.mem_of_getElem? (i := 468) (by decide +kernel))) rfl
theorem m_469 : (.fieldLink "ReaderRowsModel" 82 "ReaderRowsModel" "readers" "I" : Cond) ∈ lw_g := mg (List.mem_append_right _ (List.mem_of_getElem? (i := 469) (by decide +kernel))) rfl
theorem m_470 : (.fieldLink "ReaderRowsModel" 7 "ReaderRowsModel" "into" "[I" : Cond) ∈ lw_g := mg (List.mem_append_right _ (List.mem_of_getElem? (i := 470) (by decide +kernel))) rfl
theorem m_471 : (.fieldLink "ReaderRowsModel" 13 "ReaderRowsModel" "kinds" "[I" : Cond) ∈ lw_g := mg (List.mem_append_right _ (List.mem_of_getElem? (i := 471) (by decide +kernel))) rfl
theorem m_472 : (.fieldLink "ReaderRowsModel" 16 "ReaderRowsModel" "guardians" "[I" : Cond) ∈ lw_g := mg (List.mem_append_right _ (List.mem_of_getElem? (i := 472) (by decide +kernel))) rfl
theorem m_473 : (.fieldLink "ReaderRowsModel" 19 "ReaderRowsModel" "consents" "[Z" : Cond) ∈ lw_g := mg (List.mem_append_right _ (List.mem_of_getElem? (i := 473) (by decide +kernel))) rfl
theorem m_474 : (.fieldLink "ReaderRowsModel" 23 "ReaderRowsModel" "blocks" "[J" : Cond) ∈ lw_g := mg (List.mem_append_right _ (List.mem_of_getElem? (i := 474) (by decide +kernel))) rfl
theorem m_475 : (.fieldLink "ReaderRowsModel" 27 "ReaderRowsModel" "names" "[B" : Cond) ∈ lw_g := mg (List.mem_append_right _ (List.mem_of_getElem? (i := 475) (by decide +kernel))) rfl
theorem m_476 : (.fieldLink "ReaderRowsModel" 31 "ReaderRowsModel" "nameSizes" "[I" : Cond) ∈ lw_g := mg (List.mem_append_right _ (List.mem_of_getElem? (i := 476) (by decide +kernel))) rfl
theorem m_477 : (.fieldLink "ReaderRowsModel" 34 "ReaderRowsModel" "years" "[I" : Cond) ∈ lw_g := mg (List.mem_append_right _ (List.mem_of_getElem? (i := 477) (by decide +kernel))) rfl
theorem m_478 : (.fieldLink "ReaderRowsModel" 37 "ReaderRowsModel" "cards" "[I" : Cond) ∈ lw_g := mg (List.mem_append_right _ (List.mem_of_getElem? (i := 478) (by decide +kernel))) rfl
theorem m_479 : (.fieldLink "ReaderRowsModel" 40 "ReaderRowsModel" "owners" "[I" : Cond) ∈ lw_g := mg (List.mem_append_right _ (List.mem_of_getElem? (i := 479) (by decide +kernel))) rfl
theorem m_480 : (.fieldLink "ReaderRowsModel" 43 "ReaderRowsModel" "lost" "[Z" : Cond) ∈ lw_g := mg (List.mem_append_right _ (List.mem_of_getElem? (i := 480) (by decide +kernel))) rfl
theorem m_481 : (.fieldLink "ReaderRowsModel" 95 "ReaderRowsModel" "cardCount" "I" : Cond) ∈ lw_g := mg (List.mem_append_right _ (List.mem_of_getElem? (i := 481) (by decide +kernel))) rfl
theorem m_482 : (.fieldLink "ReaderRowsModel" 46 "ReaderRowsModel" "loanReader" "[I" : Cond) ∈ lw_g := mg (List.mem_append_right _ (List.mem_of_getElem? (i := 482) (by decide +kernel))) rfl
theorem m_483 : (.fieldLink "ReaderRowsModel" 49 "ReaderRowsModel" "loanKind" "[I" : Cond) ∈ lw_g := mg (List.mem_append_right _ (List.mem_of_getElem? (i := 483) (by decide +kernel))) rfl
theorem m_484 : (.fieldLink "ReaderRowsModel" 52 "ReaderRowsModel" "loanItem" "[I" : Cond) ∈ lw_g := mg (List.mem_append_right _ (List.mem_of_getElem? (i := 484) (by decide +kernel))) rfl
theorem m_485 : (.fieldLink "ReaderRowsModel" 55 "ReaderRowsModel" "loanFrom" "[J" : Cond) ∈ lw_g := mg (List.mem_append_right _ (List.mem_of_getElem? (i := 485) (by decide +kernel))) rfl
theorem m_486 : (.fieldLink "ReaderRowsModel" 58 "ReaderRowsModel" "loanTo" "[J" : Cond) ∈ lw_g := mg (List.mem_append_right _ (List.mem_of_getElem? (i := 486) (by decide +kernel))) rfl
theorem m_487 : (.fieldLink "ReaderRowsModel" 61 "ReaderRowsModel" "nobody" "[Z" : Cond) ∈ lw_g := mg (List.mem_append_right _ (List.mem_of_getElem? (i := 487) (by decide +kernel))) rfl
theorem m_488 : (.fieldLink "ReaderRowsModel" 116 "ReaderRowsModel" "loans" "I" : Cond) ∈ lw_g := mg (List.mem_append_right _ (List.mem_of_getElem? (i := 488) (by decide +kernel))) rfl
theorem m_489 : (.fieldLink "ReaderRowsModel" 64 "ReaderRowsModel" "keeps" "[I" : Cond) ∈ lw_g := mg (List.mem_append_right _ (List.mem_of_getElem? (i := 489) (by decide +kernel))) rfl
theorem m_490 : (.fieldLink "ReaderRowsModel" 67 "ReaderRowsModel" "said" "[B" : Cond) ∈ lw_g := mg (List.mem_append_right _ (List.mem_of_getElem? (i := 490) (by decide +kernel))) rfl
theorem m_491 : (.fieldLink "ReaderRowsModel" 132 "ReaderRowsModel" "size" "I" : Cond) ∈ lw_g := mg (List.mem_append_right _ (List.mem_of_getElem? (i := 491) (by decide +kernel))) rfl
theorem m_492 : (.fieldLink "ReaderRowsModel" 135 "ReaderRowsModel" "at" "I" : Cond) ∈ lw_g := mg (List.mem_append_right _ (List.mem_of_getElem? (i := 492) (by decide +kernel))) rfl
theorem m_493 : (.fieldLink "ReaderRowsModel" 70 "ReaderRowsModel" "row" "[I" : Cond) ∈ lw_g := mg (List.mem_append_right _ (List.mem_of_getElem? (i := 493) (by decide +kernel))) rfl
theorem m_494 : (.fieldLink "ReaderRowsModel" 73 "ReaderRowsModel" "next" "[I" : Cond) ∈ lw_g := mg (List.mem_append_right _ (List.mem_of_getElem? (i := 494) (by decide +kernel))) rfl
theorem m_495 : (.lays "ReaderRowsModel" "ReaderRowsModel" "thrown" "I" : Cond) ∈ lw_g := mg (List.mem_append_right _ (List.mem_of_getElem? (i := 495) (by decide +kernel))) rfl
theorem m_496 : (.soleField "ReaderRowsModel" "thrown" : Cond) ∈ lw_g := mg (List.mem_append_right _ (List.mem_of_getElem? (i := 496) (by decide +kernel))) rfl
theorem m_497 : (.lays "ReaderRowsModel" "ReaderRowsModel" "readers" "I" : Cond) ∈ lw_g := mg (List.mem_append_right _ (List.mem_of_getElem? (i := 497) (by decide +kernel))) rfl
theorem m_498 : (.soleField "ReaderRowsModel" "readers" : Cond) ∈ lw_g := mg (List.mem_append_right _ (List.mem_of_getElem? (i := 498) (by decide +kernel))) rfl
theorem m_499 : (.laysFinal "ReaderRowsModel" "ReaderRowsModel" "into" "[I" : Cond) ∈ lw_g := mg (List.mem_append_right _ (List.mem_of_getElem? (i := 499) (by decide +kernel))) rfl
theorem m_500 : (.soleField "ReaderRowsModel" "into" : Cond) ∈ lw_g := mg (List.mem_append_right _ (List.mem_of_getElem? (i := 500) (by decide +kernel))) rfl
theorem m_501 : (.laysFinal "ReaderRowsModel" "ReaderRowsModel" "kinds" "[I" : Cond) ∈ lw_g := mg (List.mem_append_right _ (List.mem_of_getElem? (i := 501) (by decide +kernel))) rfl
theorem m_502 : (.soleField "ReaderRowsModel" "kinds" : Cond) ∈ lw_g := mg (List.mem_append_right _ (List.mem_of_getElem? (i := 502) (by decide +kernel))) rfl
theorem m_503 : (.laysFinal "ReaderRowsModel" "ReaderRowsModel" "guardians" "[I" : Cond) ∈ lw_g := mg (List.mem_append_right _ (List.mem_of_getElem? (i := 503) (by decide +kernel))) rfl
theorem m_504 : (.soleField "ReaderRowsModel" "guardians" : Cond) ∈ lw_g := mg (List.mem_append_right _ (List.mem_of_getElem? (i := 504) (by decide +kernel))) rfl
theorem m_505 : (.laysFinal "ReaderRowsModel" "ReaderRowsModel" "consents" "[Z" : Cond) ∈ lw_g := mg (List.mem_append_right _ (List.mem_of_getElem? (i := 505) (by decide +kernel))) rfl
theorem m_506 : (.soleField "ReaderRowsModel" "consents" : Cond) ∈ lw_g := mg (List.mem_append_right _ (List.mem_of_getElem? (i := 506) (by decide +kernel))) rfl
theorem m_507 : (.laysFinal "ReaderRowsModel" "ReaderRowsModel" "blocks" "[J" : Cond) ∈ lw_g := mg (List.mem_append_right _ (List.mem_of_getElem? (i := 507) (by decide +kernel))) rfl
theorem m_508 : (.soleField "ReaderRowsModel" "blocks" : Cond) ∈ lw_g := mg (List.mem_append_right _ (List.mem_of_getElem? (i := 508) (by decide +kernel))) rfl
theorem m_509 : (.laysFinal "ReaderRowsModel" "ReaderRowsModel" "names" "[B" : Cond) ∈ lw_g := mg (List.mem_append_right _ (List.mem_of_getElem? (i := 509) (by decide +kernel))) rfl
theorem m_510 : (.soleField "ReaderRowsModel" "names" : Cond) ∈ lw_g := mg (List.mem_append_right _ (List.mem_of_getElem? (i := 510) (by decide +kernel))) rfl
theorem m_511 : (.laysFinal "ReaderRowsModel" "ReaderRowsModel" "nameSizes" "[I" : Cond) ∈ lw_g := mg (List.mem_append_right _ (List.mem_of_getElem? (i := 511) (by decide +kernel))) rfl
theorem m_512 : (.soleField "ReaderRowsModel" "nameSizes" : Cond) ∈ lw_g := mg (List.mem_append_right _ (List.mem_of_getElem? (i := 512) (by decide +kernel))) rfl
theorem m_513 : (.laysFinal "ReaderRowsModel" "ReaderRowsModel" "years" "[I" : Cond) ∈ lw_g := mg (List.mem_append_right _ (List.mem_of_getElem? (i := 513) (by decide +kernel))) rfl
theorem m_514 : (.soleField "ReaderRowsModel" "years" : Cond) ∈ lw_g := mg (List.mem_append_right _ (List.mem_of_getElem? (i := 514) (by decide +kernel))) rfl
theorem m_515 : (.laysFinal "ReaderRowsModel" "ReaderRowsModel" "cards" "[I" : Cond) ∈ lw_g := mg (List.mem_append_right _ (List.mem_of_getElem? (i := 515) (by decide +kernel))) rfl
theorem m_516 : (.soleField "ReaderRowsModel" "cards" : Cond) ∈ lw_g := mg (List.mem_append_right _ (List.mem_of_getElem? (i := 516) (by decide +kernel))) rfl
theorem m_517 : (.laysFinal "ReaderRowsModel" "ReaderRowsModel" "owners" "[I" : Cond) ∈ lw_g := mg (List.mem_append_right _ (List.mem_of_getElem? (i := 517) (by decide +kernel))) rfl
theorem m_518 : (.soleField "ReaderRowsModel" "owners" : Cond) ∈ lw_g := mg (List.mem_append_right _ (List.mem_of_getElem? (i := 518) (by decide +kernel))) rfl
theorem m_519 : (.laysFinal "ReaderRowsModel" "ReaderRowsModel" "lost" "[Z" : Cond) ∈ lw_g := mg (List.mem_append_right _ (List.mem_of_getElem? (i := 519) (by decide +kernel))) rfl
theorem m_520 : (.soleField "ReaderRowsModel" "lost" : Cond) ∈ lw_g := mg (List.mem_append_right _ (List.mem_of_getElem? (i := 520) (by decide +kernel))) rfl
theorem m_521 : (.lays "ReaderRowsModel" "ReaderRowsModel" "cardCount" "I" : Cond) ∈ lw_g := mg (List.mem_append_right _ (List.mem_of_getElem? (i := 521) (by decide +kernel))) rfl
theorem m_522 : (.soleField "ReaderRowsModel" "cardCount" : Cond) ∈ lw_g := mg (List.mem_append_right _ (List.mem_of_getElem? (i := 522) (by decide +kernel))) rfl
theorem m_523 : (.laysFinal "ReaderRowsModel" "ReaderRowsModel" "loanReader" "[I" : Cond) ∈ lw_g := mg (List.mem_append_right _ (List.mem_of_getElem? (i := 523) (by decide +kernel))) rfl
theorem m_524 : (.soleField "ReaderRowsModel" "loanReader" : Cond) ∈ lw_g := mg (List.mem_append_right _ (List.mem_of_getElem? (i := 524) (by decide +kernel))) rfl
theorem m_525 : (.laysFinal "ReaderRowsModel" "ReaderRowsModel" "loanKind" "[I" : Cond) ∈ lw_g := mg (List.mem_append_right _ (List.mem_of_getElem? (i := 525) (by decide +kernel))) rfl
theorem m_526 : (.soleField "ReaderRowsModel" "loanKind" : Cond) ∈ lw_g := mg (List.mem_append_right _ (List.mem_of_getElem? (i := 526) (by decide +kernel))) rfl
theorem m_527 : (.laysFinal "ReaderRowsModel" "ReaderRowsModel" "loanItem" "[I" : Cond) ∈ lw_g := mg (List.mem_append_right _ (List.mem_of_getElem? (i := 527) (by decide +kernel))) rfl
theorem m_528 : (.soleField "ReaderRowsModel" "loanItem" : Cond) ∈ lw_g := mg (List.mem_append_right _ (List.mem_of_getElem? (i := 528) (by decide +kernel))) rfl
theorem m_529 : (.laysFinal "ReaderRowsModel" "ReaderRowsModel" "loanFrom" "[J" : Cond) ∈ lw_g := mg (List.mem_append_right _ (List.mem_of_getElem? (i := 529) (by decide +kernel))) rfl
theorem m_530 : (.soleField "ReaderRowsModel" "loanFrom" : Cond) ∈ lw_g := mg (List.mem_append_right _ (List.mem_of_getElem? (i := 530) (by decide +kernel))) rfl
theorem m_531 : (.laysFinal "ReaderRowsModel" "ReaderRowsModel" "loanTo" "[J" : Cond) ∈ lw_g := mg (List.mem_append_right _ (List.mem_of_getElem? (i := 531) (by decide +kernel))) rfl
theorem m_532 : (.soleField "ReaderRowsModel" "loanTo" : Cond) ∈ lw_g := mg (List.mem_append_right _ (List.mem_of_getElem? (i := 532) (by decide +kernel))) rfl
theorem m_533 : (.laysFinal "ReaderRowsModel" "ReaderRowsModel" "nobody" "[Z" : Cond) ∈ lw_g := mg (List.mem_append_right _ (List.mem_of_getElem? (i := 533) (by decide +kernel))) rfl
theorem m_534 : (.soleField "ReaderRowsModel" "nobody" : Cond) ∈ lw_g := mg (List.mem_append_right _ (List.mem_of_getElem? (i := 534) (by decide +kernel))) rfl
theorem m_535 : (.lays "ReaderRowsModel" "ReaderRowsModel" "loans" "I" : Cond) ∈ lw_g := mg (List.mem_append_right _ (List.mem_of_getElem? (i := 535) (by decide +kernel))) rfl
theorem m_536 : (.soleField "ReaderRowsModel" "loans" : Cond) ∈ lw_g := mg (List.mem_append_right _ (List.mem_of_getElem? (i := 536) (by decide +kernel))) rfl
theorem m_537 : (.laysFinal "ReaderRowsModel" "ReaderRowsModel" "keeps" "[I" : Cond) ∈ lw_g := mg (List.mem_append_right _ (List.mem_of_getElem? (i := 537) (by decide +kernel))) rfl
theorem m_538 : (.soleField "ReaderRowsModel" "keeps" : Cond) ∈ lw_g := mg (List.mem_append_right _ (List.mem_of_getElem? (i := 538) (by decide +kernel))) rfl
theorem m_539 : (.laysFinal "ReaderRowsModel" "ReaderRowsModel" "said" "[B" : Cond) ∈ lw_g := mg (List.mem_append_right _ (List.mem_of_getElem? (i := 539) (by decide +kernel))) rfl
theorem m_540 : (.soleField "ReaderRowsModel" "said" : Cond) ∈ lw_g := mg (List.mem_append_right _ (List.mem_of_getElem? (i := 540) (by decide +kernel))) rfl
theorem m_541 : (.lays "ReaderRowsModel" "ReaderRowsModel" "size" "I" : Cond) ∈ lw_g := mg (List.mem_append_right _ (List.mem_of_getElem? (i := 541) (by decide +kernel))) rfl
theorem m_542 : (.soleField "ReaderRowsModel" "size" : Cond) ∈ lw_g := mg (List.mem_append_right _ (List.mem_of_getElem? (i := 542) (by decide +kernel))) rfl
theorem m_543 : (.lays "ReaderRowsModel" "ReaderRowsModel" "at" "I" : Cond) ∈ lw_g := mg (List.mem_append_right _ (List.mem_of_getElem? (i := 543) (by decide +kernel))) rfl
theorem m_544 : (.soleField "ReaderRowsModel" "at" : Cond) ∈ lw_g := mg (List.mem_append_right _ (List.mem_of_getElem? (i := 544) (by decide +kernel))) rfl
theorem m_545 : (.laysFinal "ReaderRowsModel" "ReaderRowsModel" "row" "[I" : Cond) ∈ lw_g := mg (List.mem_append_right _ (List.mem_of_getElem? (i := 545) (by decide +kernel))) rfl
theorem m_546 : (.soleField "ReaderRowsModel" "row" : Cond) ∈ lw_g := mg (List.mem_append_right _ (List.mem_of_getElem? (i := 546) (by decide +kernel))) rfl
theorem m_547 : (.laysFinal "ReaderRowsModel" "ReaderRowsModel" "next" "[I" : Cond) ∈ lw_g := mg (List.mem_append_right _ (List.mem_of_getElem? (i := 547) (by decide +kernel))) rfl
theorem m_548 : (.soleField "ReaderRowsModel" "next" : Cond) ∈ lw_g := mg (List.mem_append_right _ (List.mem_of_getElem? (i := 548) (by decide +kernel))) rfl
theorem m_549 : (.superclass "ReaderRowsModel" "java/lang/Object" : Cond) ∈ lw_g := mg (List.mem_append_right _ (List.mem_of_getElem? (i := 549) (by decide +kernel))) rfl
theorem m_550 : (.arrayClass .byte : Cond) ∈ lw_g := mg (List.mem_append_right _ (List.mem_of_getElem? (i := 550) (by decide +kernel))) rfl
theorem m_551 : (.methodLink "ReaderRowsLaw" 17 ⟨"ReaderRowsModel", "reader", "(II)I"⟩ : Cond) ∈ lw_g := mg (List.mem_append_right _ (List.mem_of_getElem? (i := 551) (by decide +kernel))) rfl
theorem m_552 : (.instanceMethod ⟨"ReaderRowsModel", "reader", "(II)I"⟩ : Cond) ∈ lw_g := mg (List.mem_append_right _ (List.mem_of_getElem? (i := 552) (by decide +kernel))) rfl
theorem m_553 : (.selects "ReaderRowsModel" ⟨"ReaderRowsModel", "reader", "(II)I"⟩ ⟨"ReaderRowsModel", "reader", "(II)I"⟩ : Cond) ∈ lw_g := mg (List.mem_append_right _ (List.mem_of_getElem? (i := 553) (by decide +kernel))) rfl
theorem m_554 : (.code ⟨"ReaderRowsModel", "reader", "(II)I"⟩ prog_8_method_6_code 4 (some .int) : Cond) ∈ lw_g := mg (List.mem_append_right _ (List.mem_of_getElem? (i := 554) (by decide +kernel))) rfl
theorem m_555 : (.methodLink "ReaderRowsModel" 87 ⟨"ReaderRowsModel", "who", "(I)I"⟩ : Cond) ∈ lw_g := mg (List.mem_append_right _ (List.mem_of_getElem? (i := 555) (by decide +kernel))) rfl
theorem m_557 : (.instanceMethod ⟨"ReaderRowsModel", "who", "(I)I"⟩ : Cond) ∈ lw_g := mg (List.mem_append_right _ (List.mem_of_getElem? (i := 557) (by decide +kernel))) rfl
theorem m_558 : (.code ⟨"ReaderRowsModel", "who", "(I)I"⟩ prog_8_method_3_code 3 (some .int) : Cond) ∈ lw_g := mg (List.mem_append_right _ (List.mem_of_getElem? (i := 558) (by decide +kernel))) rfl
theorem m_559 : (.methodLink "ReaderRowsModel" 91 ⟨"ReaderRowsModel", "isKind", "(I)Z"⟩ : Cond) ∈ lw_g := mg (List.mem_append_right _ (List.mem_of_getElem? (i := 559) (by decide +kernel))) rfl
theorem m_560 : (.static ⟨"ReaderRowsModel", "isKind", "(I)Z"⟩ : Cond) ∈ lw_g := mg (List.mem_append_right _ (List.mem_of_getElem? (i := 560) (by decide +kernel))) rfl
theorem m_561 : (.code ⟨"ReaderRowsModel", "isKind", "(I)Z"⟩ prog_8_method_5_code 1 (some .boolean) : Cond) ∈ lw_g := mg (List.mem_append_right _ (List.mem_of_getElem? (i := 561) (by decide +kernel))) rfl
theorem m_562 : (.methodLink "ReaderRowsLaw" 21 ⟨"ReaderRowsModel", "card", "(II)I"⟩ : Cond) ∈ lw_g := mg (List.mem_append_right _ (List.mem_of_getElem? (i := 562) (by decide +kernel))) rfl
theorem m_563 : (.instanceMethod ⟨"ReaderRowsModel", "card", "(II)I"⟩ : Cond) ∈ lw_g := mg (List.mem_append_right _ (List.mem_of_getElem? (i := 563) (by decide +kernel))) rfl
theorem m_564 : (.selects "ReaderRowsModel" ⟨"ReaderRowsModel", "card", "(II)I"⟩ ⟨"ReaderRowsModel", "card", "(II)I"⟩ : Cond) ∈ lw_g := mg (List.mem_append_right _ (List.mem_of_getElem? (i := 564) (by decide +kernel))) rfl
theorem m_565 : (.code ⟨"ReaderRowsModel", "card", "(II)I"⟩ prog_8_method_10_code 4 (some .int) : Cond) ∈ lw_g := mg (List.mem_append_right _ (List.mem_of_getElem? (i := 565) (by decide +kernel))) rfl
theorem m_566 : (.methodLink "ReaderRowsModel" 98 ⟨"ReaderRowsModel", "has", "(I)I"⟩ : Cond) ∈ lw_g := mg (List.mem_append_right _ (List.mem_of_getElem? (i := 566) (by decide +kernel))) rfl
theorem m_568 : (.instanceMethod ⟨"ReaderRowsModel", "has", "(I)I"⟩ : Cond) ∈ lw_g := mg (List.mem_append_right _ (List.mem_of_getElem? (i := 568) (by decide +kernel))) rfl
theorem m_569 : (.code ⟨"ReaderRowsModel", "has", "(I)I"⟩ prog_8_method_8_code 4 (some .int) : Cond) ∈ lw_g := mg (List.mem_append_right _ (List.mem_of_getElem? (i := 569) (by decide +kernel))) rfl
theorem m_570 : (.methodLink "ReaderRowsModel" 101 ⟨"ReaderRowsModel", "find", "(I)I"⟩ : Cond) ∈ lw_g := mg (List.mem_append_right _ (List.mem_of_getElem? (i := 570) (by decide +kernel))) rfl
theorem m_572 : (.instanceMethod ⟨"ReaderRowsModel", "find", "(I)I"⟩ : Cond) ∈ lw_g := mg (List.mem_append_right _ (List.mem_of_getElem? (i := 572) (by decide +kernel))) rfl
theorem m_573 : (.code ⟨"ReaderRowsModel", "find", "(I)I"⟩ prog_8_method_7_code 3 (some .int) : Cond) ∈ lw_g := mg (List.mem_append_right _ (List.mem_of_getElem? (i := 573) (by decide +kernel))) rfl
theorem m_574 : (.methodLink "ReaderRowsModel" 104 ⟨"ReaderRowsModel", "add", "(II)V"⟩ : Cond) ∈ lw_g := mg (List.mem_append_right _ (List.mem_of_getElem? (i := 574) (by decide +kernel))) rfl
theorem m_576 : (.instanceMethod ⟨"ReaderRowsModel", "add", "(II)V"⟩ : Cond) ∈ lw_g := mg (List.mem_append_right _ (List.mem_of_getElem? (i := 576) (by decide +kernel))) rfl
theorem m_577 : (.code ⟨"ReaderRowsModel", "add", "(II)V"⟩ prog_8_method_9_code 3 none : Cond) ∈ lw_g := mg (List.mem_append_right _ (List.mem_of_getElem? (i := 577) (by decide +kernel))) rfl
theorem m_578 : (.methodLink "ReaderRowsLaw" 26 ⟨"ReaderRowsModel", "whose", "(I)I"⟩ : Cond) ∈ lw_g := mg (List.mem_append_right _ (List.mem_of_getElem? (i := 578) (by decide +kernel))) rfl
theorem m_579 : (.instanceMethod ⟨"ReaderRowsModel", "whose", "(I)I"⟩ : Cond) ∈ lw_g := mg (List.mem_append_right _ (List.mem_of_getElem? (i := 579) (by decide +kernel))) rfl
theorem m_580 : (.selects "ReaderRowsModel" ⟨"ReaderRowsModel", "whose", "(I)I"⟩ ⟨"ReaderRowsModel", "whose", "(I)I"⟩ : Cond) ∈ lw_g := mg (List.mem_append_right _ (List.mem_of_getElem? (i := 580) (by decide +kernel))) rfl
theorem m_581 : (.code ⟨"ReaderRowsModel", "whose", "(I)I"⟩ prog_8_method_11_code 3 (some .int) : Cond) ∈ lw_g := mg (List.mem_append_right _ (List.mem_of_getElem? (i := 581) (by decide +kernel))) rfl
theorem m_582 : (.methodLink "ReaderRowsLaw" 30 ⟨"ReaderRowsModel", "lost", "(II)I"⟩ : Cond) ∈ lw_g := mg (List.mem_append_right _ (List.mem_of_getElem? (i := 582) (by decide +kernel))) rfl
theorem m_583 : (.instanceMethod ⟨"ReaderRowsModel", "lost", "(II)I"⟩ : Cond) ∈ lw_g := mg (List.mem_append_right _ (List.mem_of_getElem? (i := 583) (by decide +kernel))) rfl
theorem m_584 : (.selects "ReaderRowsModel" ⟨"ReaderRowsModel", "lost", "(II)I"⟩ ⟨"ReaderRowsModel", "lost", "(II)I"⟩ : Cond) ∈ lw_g := mg (List.mem_append_right _ (List.mem_of_getElem? (i := 584) (by decide +kernel))) rfl
theorem m_585 : (.code ⟨"ReaderRowsModel", "lost", "(II)I"⟩ prog_8_method_12_code 4 (some .int) : Cond) ∈ lw_g := mg (List.mem_append_right _ (List.mem_of_getElem? (i := 585) (by decide +kernel))) rfl
theorem m_586 : (.methodLink "ReaderRowsLaw" 37 ⟨"ReaderRowsModel", "block", "(IIJ)I"⟩ : Cond) ∈ lw_g := mg (List.mem_append_right _ (List.mem_of_getElem? (i := 586) (by decide +kernel))) rfl
theorem m_587 : (.instanceMethod ⟨"ReaderRowsModel", "block", "(IIJ)I"⟩ : Cond) ∈ lw_g := mg (List.mem_append_right _ (List.mem_of_getElem? (i := 587) (by decide +kernel))) rfl
theorem m_588 : (.selects "ReaderRowsModel" ⟨"ReaderRowsModel", "block", "(IIJ)I"⟩ ⟨"ReaderRowsModel", "block", "(IIJ)I"⟩ : Cond) ∈ lw_g := mg (List.mem_append_right _ (List.mem_of_getElem? (i := 588) (by decide +kernel))) rfl
theorem m_589 : (.code ⟨"ReaderRowsModel", "block", "(IIJ)I"⟩ prog_8_method_13_code 6 (some .int) : Cond) ∈ lw_g := mg (List.mem_append_right _ (List.mem_of_getElem? (i := 589) (by decide +kernel))) rfl
theorem m_590 : (.methodLink "ReaderRowsModel" 108 ⟨"ReaderRowsModel", "isDay", "(J)Z"⟩ : Cond) ∈ lw_g := mg (List.mem_append_right _ (List.mem_of_getElem? (i := 590) (by decide +kernel))) rfl
theorem m_591 : (.static ⟨"ReaderRowsModel", "isDay", "(J)Z"⟩ : Cond) ∈ lw_g := mg (List.mem_append_right _ (List.mem_of_getElem? (i := 591) (by decide +kernel))) rfl
theorem m_592 : (.code ⟨"ReaderRowsModel", "isDay", "(J)Z"⟩ prog_8_method_4_code 2 (some .boolean) : Cond) ∈ lw_g := mg (List.mem_append_right _ (List.mem_of_getElem? (i := 592) (by decide +kernel))) rfl
theorem m_593 : (.constantLong "ReaderRowsModel" 85 (1000000000) : Cond) ∈ lw_g := mg (List.mem_append_right _ (List.mem_of_getElem? (i := 593) (by decide +kernel))) rfl
theorem m_594 : (.methodLink "ReaderRowsLaw" 42 ⟨"ReaderRowsModel", "blocked", "(IJ)I"⟩ : Cond) ∈ lw_g := mg (List.mem_append_right _ (List.mem_of_getElem? (i := 594) (by decide +kernel))) rfl
theorem m_595 : (.instanceMethod ⟨"ReaderRowsModel", "blocked", "(IJ)I"⟩ : Cond) ∈ lw_g := mg (List.mem_append_right _ (List.mem_of_getElem? (i := 595) (by decide +kernel))) rfl
theorem m_596 : (.selects "ReaderRowsModel" ⟨"ReaderRowsModel", "blocked", "(IJ)I"⟩ ⟨"ReaderRowsModel", "blocked", "(IJ)I"⟩ : Cond) ∈ lw_g := mg (List.mem_append_right _ (List.mem_of_getElem? (i := 596) (by decide +kernel))) rfl
theorem m_597 : (.code ⟨"ReaderRowsModel", "blocked", "(IJ)I"⟩ prog_8_method_14_code 6 (some .int) : Cond) ∈ lw_g := mg (List.mem_append_right _ (List.mem_of_getElem? (i := 597) (by decide +kernel))) rfl
theorem m_598 : (.methodLink "ReaderRowsModel" 112 ⟨"ReaderRowsModel", "lasts", "(IIJ)Z"⟩ : Cond) ∈ lw_g := mg (List.mem_append_right _ (List.mem_of_getElem? (i := 598) (by decide +kernel))) rfl
theorem m_600 : (.instanceMethod ⟨"ReaderRowsModel", "lasts", "(IIJ)Z"⟩ : Cond) ∈ lw_g := mg (List.mem_append_right _ (List.mem_of_getElem? (i := 600) (by decide +kernel))) rfl
theorem m_601 : (.code ⟨"ReaderRowsModel", "lasts", "(IIJ)Z"⟩ prog_8_method_15_code 5 (some .boolean) : Cond) ∈ lw_g := mg (List.mem_append_right _ (List.mem_of_getElem? (i := 601) (by decide +kernel))) rfl
theorem m_602 : (.methodLink "ReaderRowsLaw" 47 ⟨"ReaderRowsModel", "consent", "(IZJ)I"⟩ : Cond) ∈ lw_g := mg (List.mem_append_right _ (List.mem_of_getElem? (i := 602) (by decide +kernel))) rfl
theorem m_603 : (.instanceMethod ⟨"ReaderRowsModel", "consent", "(IZJ)I"⟩ : Cond) ∈ lw_g := mg (List.mem_append_right _ (List.mem_of_getElem? (i := 603) (by decide +kernel))) rfl
theorem m_604 : (.selects "ReaderRowsModel" ⟨"ReaderRowsModel", "consent", "(IZJ)I"⟩ ⟨"ReaderRowsModel", "consent", "(IZJ)I"⟩ : Cond) ∈ lw_g := mg (List.mem_append_right _ (List.mem_of_getElem? (i := 604) (by decide +kernel))) rfl
theorem m_605 : (.code ⟨"ReaderRowsModel", "consent", "(IZJ)I"⟩ prog_8_method_18_code 7 (some .int) : Cond) ∈ lw_g := mg (List.mem_append_right _ (List.mem_of_getElem? (i := 605) (by decide +kernel))) rfl
theorem m_606 : (.methodLink "ReaderRowsModel" 123 ⟨"ReaderRowsModel", "forget", "(IJ)I"⟩ : Cond) ∈ lw_g := mg (List.mem_append_right _ (List.mem_of_getElem? (i := 606) (by decide +kernel))) rfl
theorem m_608 : (.instanceMethod ⟨"ReaderRowsModel", "forget", "(IJ)I"⟩ : Cond) ∈ lw_g := mg (List.mem_append_right _ (List.mem_of_getElem? (i := 608) (by decide +kernel))) rfl
theorem m_609 : (.code ⟨"ReaderRowsModel", "forget", "(IJ)I"⟩ prog_8_method_17_code 6 (some .int) : Cond) ∈ lw_g := mg (List.mem_append_right _ (List.mem_of_getElem? (i := 609) (by decide +kernel))) rfl
theorem m_610 : (.methodLink "ReaderRowsModel" 119 ⟨"ReaderRowsModel", "isKept", "(IJ)Z"⟩ : Cond) ∈ lw_g := mg (List.mem_append_right _ (List.mem_of_getElem? (i := 610) (by decide +kernel))) rfl
theorem m_612 : (.instanceMethod ⟨"ReaderRowsModel", "isKept", "(IJ)Z"⟩ : Cond) ∈ lw_g := mg (List.mem_append_right _ (List.mem_of_getElem? (i := 612) (by decide +kernel))) rfl
theorem m_613 : (.code ⟨"ReaderRowsModel", "isKept", "(IJ)Z"⟩ prog_8_method_16_code 5 (some .boolean) : Cond) ∈ lw_g := mg (List.mem_append_right _ (List.mem_of_getElem? (i := 613) (by decide +kernel))) rfl
theorem m_614 : (.methodLink "ReaderRowsLaw" 51 ⟨"ReaderRowsModel", "keeps", "(II)I"⟩ : Cond) ∈ lw_g := mg (List.mem_append_right _ (List.mem_of_getElem? (i := 614) (by decide +kernel))) rfl
theorem m_615 : (.instanceMethod ⟨"ReaderRowsModel", "keeps", "(II)I"⟩ : Cond) ∈ lw_g := mg (List.mem_append_right _ (List.mem_of_getElem? (i := 615) (by decide +kernel))) rfl
theorem m_616 : (.selects "ReaderRowsModel" ⟨"ReaderRowsModel", "keeps", "(II)I"⟩ ⟨"ReaderRowsModel", "keeps", "(II)I"⟩ : Cond) ∈ lw_g := mg (List.mem_append_right _ (List.mem_of_getElem? (i := 616) (by decide +kernel))) rfl
theorem m_617 : (.code ⟨"ReaderRowsModel", "keeps", "(II)I"⟩ prog_8_method_19_code 4 (some .int) : Cond) ∈ lw_g := mg (List.mem_append_right _ (List.mem_of_getElem? (i := 617) (by decide +kernel))) rfl
theorem m_618 : (.constant "ReaderRowsModel" 127 (100000) : Cond) ∈ lw_g := mg (List.mem_append_right _ (List.mem_of_getElem? (i := 618) (by decide +kernel))) rfl
theorem m_619 : (.methodLink "ReaderRowsLaw" 56 ⟨"ReaderRowsModel", "loan", "(IIJJ)I"⟩ : Cond) ∈ lw_g := mg (List.mem_append_right _ (List.mem_of_getElem? (i := 619) (by decide +kernel))) rfl
theorem m_620 : (.instanceMethod ⟨"ReaderRowsModel", "loan", "(IIJJ)I"⟩ : Cond) ∈ lw_g := mg (List.mem_append_right _ (List.mem_of_getElem? (i := 620) (by decide +kernel))) rfl
theorem m_621 : (.selects "ReaderRowsModel" ⟨"ReaderRowsModel", "loan", "(IIJJ)I"⟩ ⟨"ReaderRowsModel", "loan", "(IIJJ)I"⟩ : Cond) ∈ lw_g := mg (List.mem_append_right _ (List.mem_of_getElem? (i := 621) (by decide +kernel))) rfl
theorem m_622 : (.code ⟨"ReaderRowsModel", "loan", "(IIJJ)I"⟩ prog_8_method_20_code 8 (some .int) : Cond) ∈ lw_g := mg (List.mem_append_right _ (List.mem_of_getElem? (i := 622) (by decide +kernel))) rfl
theorem m_623 : (.methodLink "ReaderRowsLaw" 60 ⟨"ReaderRowsModel", "kept", "(IIJ)I"⟩ : Cond) ∈ lw_g := mg (List.mem_append_right _ (List.mem_of_getElem? (i := 623) (by decide +kernel))) rfl
theorem m_624 : (.instanceMethod ⟨"ReaderRowsModel", "kept", "(IIJ)I"⟩ : Cond) ∈ lw_g := mg (List.mem_append_right _ (List.mem_of_getElem? (i := 624) (by decide +kernel))) rfl
theorem m_625 : (.selects "ReaderRowsModel" ⟨"ReaderRowsModel", "kept", "(IIJ)I"⟩ ⟨"ReaderRowsModel", "kept", "(IIJ)I"⟩ : Cond) ∈ lw_g := mg (List.mem_append_right _ (List.mem_of_getElem? (i := 625) (by decide +kernel))) rfl
theorem m_626 : (.code ⟨"ReaderRowsModel", "kept", "(IIJ)I"⟩ prog_8_method_22_code 9 (some .int) : Cond) ∈ lw_g := mg (List.mem_append_right _ (List.mem_of_getElem? (i := 626) (by decide +kernel))) rfl
theorem m_627 : (.methodLink "ReaderRowsModel" 128 ⟨"ReaderRowsModel", "isFor", "(IIJ)Z"⟩ : Cond) ∈ lw_g := mg (List.mem_append_right _ (List.mem_of_getElem? (i := 627) (by decide +kernel))) rfl
theorem m_629 : (.instanceMethod ⟨"ReaderRowsModel", "isFor", "(IIJ)Z"⟩ : Cond) ∈ lw_g := mg (List.mem_append_right _ (List.mem_of_getElem? (i := 629) (by decide +kernel))) rfl
theorem m_630 : (.code ⟨"ReaderRowsModel", "isFor", "(IIJ)Z"⟩ prog_8_method_21_code 5 (some .boolean) : Cond) ∈ lw_g := mg (List.mem_append_right _ (List.mem_of_getElem? (i := 630) (by decide +kernel))) rfl
theorem m_631 : (.constant "ReaderRowsModel" 131 (-1000000007) : Cond) ∈ lw_g := mg (List.mem_append_right _ (List.mem_of_getElem? (i := 631) (by decide +kernel))) rfl
theorem m_632 : (.methodLink "ReaderRowsLaw" 65 ⟨"ReaderRowsModel", "anonymise", "(J)I"⟩ : Cond) ∈ lw_g := mg (List.mem_append_right _ (List.mem_of_getElem? (i := 632) (by decide +kernel))) rfl
theorem m_633 : (.instanceMethod ⟨"ReaderRowsModel", "anonymise", "(J)I"⟩ : Cond) ∈ lw_g := mg (List.mem_append_right _ (List.mem_of_getElem? (i := 633) (by decide +kernel))) rfl
theorem m_634 : (.selects "ReaderRowsModel" ⟨"ReaderRowsModel", "anonymise", "(J)I"⟩ ⟨"ReaderRowsModel", "anonymise", "(J)I"⟩ : Cond) ∈ lw_g := mg (List.mem_append_right _ (List.mem_of_getElem? (i := 634) (by decide +kernel))) rfl
theorem m_635 : (.code ⟨"ReaderRowsModel", "anonymise", "(J)I"⟩ prog_8_method_23_code 3 (some .int) : Cond) ∈ lw_g := mg (List.mem_append_right _ (List.mem_of_getElem? (i := 635) (by decide +kernel))) rfl
theorem m_636 : (.methodLink "ReaderRowsLaw" 69 ⟨"ReaderRowsModel", "join", "(II)I"⟩ : Cond) ∈ lw_g := mg (List.mem_append_right _ (List.mem_of_getElem? (i := 636) (by decide +kernel))) rfl
theorem m_637 : (.instanceMethod ⟨"ReaderRowsModel", "join", "(II)I"⟩ : Cond) ∈ lw_g := mg (List.mem_append_right _ (List.mem_of_getElem? (i := 637) (by decide +kernel))) rfl
theorem m_638 : (.selects "ReaderRowsModel" ⟨"ReaderRowsModel", "join", "(II)I"⟩ ⟨"ReaderRowsModel", "join", "(II)I"⟩ : Cond) ∈ lw_g := mg (List.mem_append_right _ (List.mem_of_getElem? (i := 638) (by decide +kernel))) rfl
theorem m_639 : (.code ⟨"ReaderRowsModel", "join", "(II)I"⟩ prog_8_method_24_code 6 (some .int) : Cond) ∈ lw_g := mg (List.mem_append_right _ (List.mem_of_getElem? (i := 639) (by decide +kernel))) rfl
theorem m_640 : (.methodLink "ReaderRowsLaw" 73 ⟨"ReaderRowsModel", "family", "(II)I"⟩ : Cond) ∈ lw_g := mg (List.mem_append_right _ (List.mem_of_getElem? (i := 640) (by decide +kernel))) rfl
theorem m_641 : (.instanceMethod ⟨"ReaderRowsModel", "family", "(II)I"⟩ : Cond) ∈ lw_g := mg (List.mem_append_right _ (List.mem_of_getElem? (i := 641) (by decide +kernel))) rfl
theorem m_642 : (.selects "ReaderRowsModel" ⟨"ReaderRowsModel", "family", "(II)I"⟩ ⟨"ReaderRowsModel", "family", "(II)I"⟩ : Cond) ∈ lw_g := mg (List.mem_append_right _ (List.mem_of_getElem? (i := 642) (by decide +kernel))) rfl
theorem m_643 : (.code ⟨"ReaderRowsModel", "family", "(II)I"⟩ prog_8_method_25_code 7 (some .int) : Cond) ∈ lw_g := mg (List.mem_append_right _ (List.mem_of_getElem? (i := 643) (by decide +kernel))) rfl
theorem m_644 : (.methodLink "ReaderRowsLaw" 78 ⟨"ReaderRowsModel", "sign", "(I)V"⟩ : Cond) ∈ lw_g := mg (List.mem_append_right _ (List.mem_of_getElem? (i := 644) (by decide +kernel))) rfl
theorem m_645 : (.instanceMethod ⟨"ReaderRowsModel", "sign", "(I)V"⟩ : Cond) ∈ lw_g := mg (List.mem_append_right _ (List.mem_of_getElem? (i := 645) (by decide +kernel))) rfl
theorem m_646 : (.selects "ReaderRowsModel" ⟨"ReaderRowsModel", "sign", "(I)V"⟩ ⟨"ReaderRowsModel", "sign", "(I)V"⟩ : Cond) ∈ lw_g := mg (List.mem_append_right _ (List.mem_of_getElem? (i := 646) (by decide +kernel))) rfl
theorem m_647 : (.code ⟨"ReaderRowsModel", "sign", "(I)V"⟩ prog_8_method_26_code 2 none : Cond) ∈ lw_g := mg (List.mem_append_right _ (List.mem_of_getElem? (i := 647) (by decide +kernel))) rfl
theorem m_648 : (.methodLink "ReaderRowsLaw" 83 ⟨"ReaderRowsModel", "import0", "()I"⟩ : Cond) ∈ lw_g := mg (List.mem_append_right _ (List.mem_of_getElem? (i := 648) (by decide +kernel))) rfl
theorem m_649 : (.instanceMethod ⟨"ReaderRowsModel", "import0", "()I"⟩ : Cond) ∈ lw_g := mg (List.mem_append_right _ (List.mem_of_getElem? (i := 649) (by decide +kernel))) rfl
theorem m_650 : (.selects "ReaderRowsModel" ⟨"ReaderRowsModel", "import0", "()I"⟩ ⟨"ReaderRowsModel", "import0", "()I"⟩ : Cond) ∈ lw_g := mg (List.mem_append_right _ (List.mem_of_getElem? (i := 650) (by decide +kernel))) rfl
theorem m_651 : (.code ⟨"ReaderRowsModel", "import0", "()I"⟩ prog_8_method_31_code 7 (some .int) : Cond) ∈ lw_g := mg (List.mem_append_right _ (List.mem_of_getElem? (i := 651) (by decide +kernel))) rfl
theorem m_652 : (.methodLink "ReaderRowsModel" 145 ⟨"ReaderRowsModel", "reads", "()Z"⟩ : Cond) ∈ lw_g := mg (List.mem_append_right _ (List.mem_of_getElem? (i := 652) (by decide +kernel))) rfl
theorem m_654 : (.instanceMethod ⟨"ReaderRowsModel", "reads", "()Z"⟩ : Cond) ∈ lw_g := mg (List.mem_append_right _ (List.mem_of_getElem? (i := 654) (by decide +kernel))) rfl
theorem m_655 : (.code ⟨"ReaderRowsModel", "reads", "()Z"⟩ prog_8_method_30_code 2 (some .boolean) : Cond) ∈ lw_g := mg (List.mem_append_right _ (List.mem_of_getElem? (i := 655) (by decide +kernel))) rfl
theorem m_656 : (.methodLink "ReaderRowsModel" 142 ⟨"ReaderRowsModel", "letters", "()I"⟩ : Cond) ∈ lw_g := mg (List.mem_append_right _ (List.mem_of_getElem? (i := 656) (by decide +kernel))) rfl
theorem m_658 : (.instanceMethod ⟨"ReaderRowsModel", "letters", "()I"⟩ : Cond) ∈ lw_g := mg (List.mem_append_right _ (List.mem_of_getElem? (i := 658) (by decide +kernel))) rfl
theorem m_659 : (.code ⟨"ReaderRowsModel", "letters", "()I"⟩ prog_8_method_28_code 2 (some .int) : Cond) ∈ lw_g := mg (List.mem_append_right _ (List.mem_of_getElem? (i := 659) (by decide +kernel))) rfl
theorem m_660 : (.methodLink "ReaderRowsModel" 138 ⟨"ReaderRowsModel", "look", "()I"⟩ : Cond) ∈ lw_g := mg (List.mem_append_right _ (List.mem_of_getElem? (i := 660) (by decide +kernel))) rfl
theorem m_662 : (.instanceMethod ⟨"ReaderRowsModel", "look", "()I"⟩ : Cond) ∈ lw_g := mg (List.mem_append_right _ (List.mem_of_getElem? (i := 662) (by decide +kernel))) rfl
theorem m_663 : (.code ⟨"ReaderRowsModel", "look", "()I"⟩ prog_8_method_27_code 1 (some .int) : Cond) ∈ lw_g := mg (List.mem_append_right _ (List.mem_of_getElem? (i := 663) (by decide +kernel))) rfl
theorem m_664 : (.methodLink "ReaderRowsModel" 149 ⟨"ReaderRowsModel", "isNamed", "(II)Z"⟩ : Cond) ∈ lw_g := mg (List.mem_append_right _ (List.mem_of_getElem? (i := 664) (by decide +kernel))) rfl
theorem m_666 : (.instanceMethod ⟨"ReaderRowsModel", "isNamed", "(II)Z"⟩ : Cond) ∈ lw_g := mg (List.mem_append_right _ (List.mem_of_getElem? (i := 666) (by decide +kernel))) rfl
theorem m_667 : (.code ⟨"ReaderRowsModel", "isNamed", "(II)Z"⟩ prog_8_method_29_code 5 (some .boolean) : Cond) ∈ lw_g := mg (List.mem_append_right _ (List.mem_of_getElem? (i := 667) (by decide +kernel))) rfl
theorem m_668 : (.methodLink "ReaderRowsLaw" 87 ⟨"ReaderRowsModel", "like", "()I"⟩ : Cond) ∈ lw_g := mg (List.mem_append_right _ (List.mem_of_getElem? (i := 668) (by decide +kernel))) rfl
theorem m_669 : (.instanceMethod ⟨"ReaderRowsModel", "like", "()I"⟩ : Cond) ∈ lw_g := mg (List.mem_append_right _ (List.mem_of_getElem? (i := 669) (by decide +kernel))) rfl
theorem m_670 : (.selects "ReaderRowsModel" ⟨"ReaderRowsModel", "like", "()I"⟩ ⟨"ReaderRowsModel", "like", "()I"⟩ : Cond) ∈ lw_g := mg (List.mem_append_right _ (List.mem_of_getElem? (i := 670) (by decide +kernel))) rfl
theorem m_671 : (.code ⟨"ReaderRowsModel", "like", "()I"⟩ prog_8_method_33_code 7 (some .int) : Cond) ∈ lw_g := mg (List.mem_append_right _ (List.mem_of_getElem? (i := 671) (by decide +kernel))) rfl
theorem m_672 : (.methodLink "ReaderRowsModel" 153 ⟨"ReaderRowsModel", "far", "(II)I"⟩ : Cond) ∈ lw_g := mg (List.mem_append_right _ (List.mem_of_getElem? (i := 672) (by decide +kernel))) rfl
theorem m_674 : (.instanceMethod ⟨"ReaderRowsModel", "far", "(II)I"⟩ : Cond) ∈ lw_g := mg (List.mem_append_right _ (List.mem_of_getElem? (i := 674) (by decide +kernel))) rfl
theorem m_675 : (.code ⟨"ReaderRowsModel", "far", "(II)I"⟩ prog_8_method_32_code 8 (some .int) : Cond) ∈ lw_g := mg (List.mem_append_right _ (List.mem_of_getElem? (i := 675) (by decide +kernel))) rfl
theorem m_676 : (.methodLink "ReaderRowsLaw" 91 ⟨"ReaderRowsModel", "about", "(II)I"⟩ : Cond) ∈ lw_g := mg (List.mem_append_right _ (List.mem_of_getElem? (i := 676) (by decide +kernel))) rfl
theorem m_677 : (.instanceMethod ⟨"ReaderRowsModel", "about", "(II)I"⟩ : Cond) ∈ lw_g := mg (List.mem_append_right _ (List.mem_of_getElem? (i := 677) (by decide +kernel))) rfl
theorem m_678 : (.selects "ReaderRowsModel" ⟨"ReaderRowsModel", "about", "(II)I"⟩ ⟨"ReaderRowsModel", "about", "(II)I"⟩ : Cond) ∈ lw_g := mg (List.mem_append_right _ (List.mem_of_getElem? (i := 678) (by decide +kernel))) rfl
theorem m_679 : (.code ⟨"ReaderRowsModel", "about", "(II)I"⟩ prog_8_method_34_code 6 (some .int) : Cond) ∈ lw_g := mg (List.mem_append_right _ (List.mem_of_getElem? (i := 679) (by decide +kernel))) rfl
theorem m_680 : (.methodLink "ReaderRowsLaw" 96 ⟨"ReaderRowsModel", "statistics", "(IJJ)I"⟩ : Cond) ∈ lw_g := mg (List.mem_append_right _ (List.mem_of_getElem? (i := 680) (by decide +kernel))) rfl
theorem m_681 : (.instanceMethod ⟨"ReaderRowsModel", "statistics", "(IJJ)I"⟩ : Cond) ∈ lw_g := mg (List.mem_append_right _ (List.mem_of_getElem? (i := 681) (by decide +kernel))) rfl
theorem m_682 : (.selects "ReaderRowsModel" ⟨"ReaderRowsModel", "statistics", "(IJJ)I"⟩ ⟨"ReaderRowsModel", "statistics", "(IJJ)I"⟩ : Cond) ∈ lw_g := mg (List.mem_append_right _ (List.mem_of_getElem? (i := 682) (by decide +kernel))) rfl
theorem m_683 : (.code ⟨"ReaderRowsModel", "statistics", "(IJJ)I"⟩ prog_8_method_35_code 8 (some .int) : Cond) ∈ lw_g := mg (List.mem_append_right _ (List.mem_of_getElem? (i := 683) (by decide +kernel))) rfl
theorem m_684 : (.constantLong "ReaderRowsLaw" 31 (4294967295) : Cond) ∈ lw_g := mg (List.mem_append_right _ (List.mem_of_getElem? (i := 684) (by decide +kernel))) rfl
theorem ms_0 : (.selects "ReaderRows$Cards" ⟨"ReaderRows$Cards", "placeOf", "(I)I"⟩ ⟨"ReaderRows$Cards", "placeOf", "(I)I"⟩ : Cond) ∈ lw_g := mg (List.mem_append_left _ (List.mem_of_getElem? (i := 0) (by decide +kernel))) rfl
theorem ms_1 : (.selects "ReaderRows" ⟨"ReaderRows", "anonymiseLoansOf", "(IJ)I"⟩ ⟨"ReaderRows", "anonymiseLoansOf", "(IJ)I"⟩ : Cond) ∈ lw_g := mg (List.mem_append_left _ (List.mem_of_getElem? (i := 1) (by decide +kernel))) rfl
theorem ms_2 : (.selects "ReaderRows" ⟨"ReaderRows", "anonymiseUnlessKept", "(IJ)Z"⟩ ⟨"ReaderRows", "anonymiseUnlessKept", "(IJ)Z"⟩ : Cond) ∈ lw_g := mg (List.mem_append_left _ (List.mem_of_getElem? (i := 2) (by decide +kernel))) rfl
theorem ms_3 : (.selects "ReaderRows" ⟨"ReaderRows", "isKept", "(IJ)Z"⟩ ⟨"ReaderRows", "isKept", "(IJ)Z"⟩ : Cond) ∈ lw_g := mg (List.mem_append_left _ (List.mem_of_getElem? (i := 3) (by decide +kernel))) rfl
theorem ms_4 : (.selects "ReaderRows$Loans" ⟨"ReaderRows$Loans", "putInOrder", "(I)V"⟩ ⟨"ReaderRows$Loans", "putInOrder", "(I)V"⟩ : Cond) ∈ lw_g := mg (List.mem_append_left _ (List.mem_of_getElem? (i := 4) (by decide +kernel))) rfl
theorem ms_5 : (.selects "ReaderRows" ⟨"ReaderRows", "mayJoin", "(II)Z"⟩ ⟨"ReaderRows", "mayJoin", "(II)Z"⟩ : Cond) ∈ lw_g := mg (List.mem_append_left _ (List.mem_of_getElem? (i := 5) (by decide +kernel))) rfl
theorem ms_6 : (.selects "ReaderRows$Row" ⟨"ReaderRows$Row", "readName", "()V"⟩ ⟨"ReaderRows$Row", "readName", "()V"⟩ : Cond) ∈ lw_g := mg (List.mem_append_left _ (List.mem_of_getElem? (i := 6) (by decide +kernel))) rfl
theorem ms_7 : (.selects "ReaderRows$Row" ⟨"ReaderRows$Row", "isAmong", "(III)Z"⟩ ⟨"ReaderRows$Row", "isAmong", "(III)Z"⟩ : Cond) ∈ lw_g := mg (List.mem_append_left _ (List.mem_of_getElem? (i := 7) (by decide +kernel))) rfl
theorem ms_8 : (.selects "ReaderRows$Row" ⟨"ReaderRows$Row", "readYear", "(I)I"⟩ ⟨"ReaderRows$Row", "readYear", "(I)I"⟩ : Cond) ∈ lw_g := mg (List.mem_append_left _ (List.mem_of_getElem? (i := 8) (by decide +kernel))) rfl
theorem ms_9 : (.selects "ReaderRows" ⟨"ReaderRows", "importFittingRow", "()I"⟩ ⟨"ReaderRows", "importFittingRow", "()I"⟩ : Cond) ∈ lw_g := mg (List.mem_append_left _ (List.mem_of_getElem? (i := 9) (by decide +kernel))) rfl
theorem ms_10 : (.selects "ReaderRows" ⟨"ReaderRows", "firstNamed", "()I"⟩ ⟨"ReaderRows", "firstNamed", "()I"⟩ : Cond) ∈ lw_g := mg (List.mem_append_left _ (List.mem_of_getElem? (i := 10) (by decide +kernel))) rfl
theorem ms_11 : (.selects "ReaderRows$Names" ⟨"ReaderRows$Names", "letterAt", "(II)I"⟩ ⟨"ReaderRows$Names", "letterAt", "(II)I"⟩ : Cond) ∈ lw_g := mg (List.mem_append_left _ (List.mem_of_getElem? (i := 11) (by decide +kernel))) rfl
theorem ms_12 : (.selects "ReaderRows" ⟨"ReaderRows", "nearestNamed", "()I"⟩ ⟨"ReaderRows", "nearestNamed", "()I"⟩ : Cond) ∈ lw_g := mg (List.mem_append_left _ (List.mem_of_getElem? (i := 12) (by decide +kernel))) rfl
theorem ms_13 : (.selects "ReaderRowsModel" ⟨"ReaderRowsModel", "who", "(I)I"⟩ ⟨"ReaderRowsModel", "who", "(I)I"⟩ : Cond) ∈ lw_g := mg (List.mem_append_left _ (List.mem_of_getElem? (i := 13) (by decide +kernel))) rfl
theorem ms_14 : (.selects "ReaderRowsModel" ⟨"ReaderRowsModel", "has", "(I)I"⟩ ⟨"ReaderRowsModel", "has", "(I)I"⟩ : Cond) ∈ lw_g := mg (List.mem_append_left _ (List.mem_of_getElem? (i := 14) (by decide +kernel))) rfl
theorem ms_15 : (.selects "ReaderRowsModel" ⟨"ReaderRowsModel", "find", "(I)I"⟩ ⟨"ReaderRowsModel", "find", "(I)I"⟩ : Cond) ∈ lw_g := mg (List.mem_append_left _ (List.mem_of_getElem? (i := 15) (by decide +kernel))) rfl
theorem ms_16 : (.selects "ReaderRowsModel" ⟨"ReaderRowsModel", "add", "(II)V"⟩ ⟨"ReaderRowsModel", "add", "(II)V"⟩ : Cond) ∈ lw_g := mg (List.mem_append_left _ (List.mem_of_getElem? (i := 16) (by decide +kernel))) rfl
theorem ms_17 : (.selects "ReaderRowsModel" ⟨"ReaderRowsModel", "lasts", "(IIJ)Z"⟩ ⟨"ReaderRowsModel", "lasts", "(IIJ)Z"⟩ : Cond) ∈ lw_g := mg (List.mem_append_left _ (List.mem_of_getElem? (i := 17) (by decide +kernel))) rfl
theorem ms_18 : (.selects "ReaderRowsModel" ⟨"ReaderRowsModel", "forget", "(IJ)I"⟩ ⟨"ReaderRowsModel", "forget", "(IJ)I"⟩ : Cond) ∈ lw_g := mg (List.mem_append_left _ (List.mem_of_getElem? (i := 18) (by decide +kernel))) rfl
theorem ms_19 : (.selects "ReaderRowsModel" ⟨"ReaderRowsModel", "isKept", "(IJ)Z"⟩ ⟨"ReaderRowsModel", "isKept", "(IJ)Z"⟩ : Cond) ∈ lw_g := mg (List.mem_append_left _ (List.mem_of_getElem? (i := 19) (by decide +kernel))) rfl
theorem ms_20 : (.selects "ReaderRowsModel" ⟨"ReaderRowsModel", "isFor", "(IIJ)Z"⟩ ⟨"ReaderRowsModel", "isFor", "(IIJ)Z"⟩ : Cond) ∈ lw_g := mg (List.mem_append_left _ (List.mem_of_getElem? (i := 20) (by decide +kernel))) rfl
theorem ms_21 : (.selects "ReaderRowsModel" ⟨"ReaderRowsModel", "reads", "()Z"⟩ ⟨"ReaderRowsModel", "reads", "()Z"⟩ : Cond) ∈ lw_g := mg (List.mem_append_left _ (List.mem_of_getElem? (i := 21) (by decide +kernel))) rfl
theorem ms_22 : (.selects "ReaderRowsModel" ⟨"ReaderRowsModel", "letters", "()I"⟩ ⟨"ReaderRowsModel", "letters", "()I"⟩ : Cond) ∈ lw_g := mg (List.mem_append_left _ (List.mem_of_getElem? (i := 22) (by decide +kernel))) rfl
theorem ms_23 : (.selects "ReaderRowsModel" ⟨"ReaderRowsModel", "look", "()I"⟩ ⟨"ReaderRowsModel", "look", "()I"⟩ : Cond) ∈ lw_g := mg (List.mem_append_left _ (List.mem_of_getElem? (i := 23) (by decide +kernel))) rfl
theorem ms_24 : (.selects "ReaderRowsModel" ⟨"ReaderRowsModel", "isNamed", "(II)Z"⟩ ⟨"ReaderRowsModel", "isNamed", "(II)Z"⟩ : Cond) ∈ lw_g := mg (List.mem_append_left _ (List.mem_of_getElem? (i := 24) (by decide +kernel))) rfl
theorem ms_25 : (.selects "ReaderRowsModel" ⟨"ReaderRowsModel", "far", "(II)I"⟩ ⟨"ReaderRowsModel", "far", "(II)I"⟩ : Cond) ∈ lw_g := mg (List.mem_append_left _ (List.mem_of_getElem? (i := 25) (by decide +kernel))) rfl
theorem inX0 : ∀ w ∈ u_ws "ReaderRows$Cards" TX0 4, w ∈ lw_g := by
  intro w hw
  obtain ⟨k, hk, rfl⟩ := List.mem_map.mp hw
  have hk := List.mem_range.mp hk
  rcases (show k = 0 ∨ k = 1 ∨ k = 2 ∨ k = 3 by omega) with rfl | rfl | rfl | rfl
  · exact m_76
  · exact m_78
  · exact m_80
  · exact m_82
theorem inX1 : ∀ w ∈ u_ws "ReaderRows$Loans" TX1 8, w ∈ lw_g := by
  intro w hw
  obtain ⟨k, hk, rfl⟩ := List.mem_map.mp hw
  have hk := List.mem_range.mp hk
  rcases (show k = 0 ∨ k = 1 ∨ k = 2 ∨ k = 3 ∨ k = 4 ∨ k = 5 ∨ k = 6 ∨ k = 7 by omega) with rfl | rfl | rfl | rfl | rfl | rfl | rfl | rfl
  · exact m_99
  · exact m_101
  · exact m_103
  · exact m_105
  · exact m_107
  · exact m_109
  · exact m_111
  · exact m_113
theorem inX2 : ∀ w ∈ u_ws "ReaderRows$Names" TX2 4, w ∈ lw_g := by
  intro w hw
  obtain ⟨k, hk, rfl⟩ := List.mem_map.mp hw
  have hk := List.mem_range.mp hk
  rcases (show k = 0 ∨ k = 1 ∨ k = 2 ∨ k = 3 by omega) with rfl | rfl | rfl | rfl
  · exact m_56
  · exact m_58
  · exact m_60
  · exact m_62
theorem inX3 : ∀ w ∈ u_ws "ReaderRows$Readers" TX3 6, w ∈ lw_g := by
  intro w hw
  obtain ⟨k, hk, rfl⟩ := List.mem_map.mp hw
  have hk := List.mem_range.mp hk
  rcases (show k = 0 ∨ k = 1 ∨ k = 2 ∨ k = 3 ∨ k = 4 ∨ k = 5 by omega) with rfl | rfl | rfl | rfl | rfl | rfl
  · exact m_30
  · exact m_32
  · exact m_34
  · exact m_36
  · exact m_38
  · exact m_40
theorem inX4 : ∀ w ∈ u_ws "ReaderRows$Row" TX4 5, w ∈ lw_g := by
  intro w hw
  obtain ⟨k, hk, rfl⟩ := List.mem_map.mp hw
  have hk := List.mem_range.mp hk
  rcases (show k = 0 ∨ k = 1 ∨ k = 2 ∨ k = 3 ∨ k = 4 by omega) with rfl | rfl | rfl | rfl | rfl
  · exact m_127
  · exact m_129
  · exact m_131
  · exact m_133
  · exact m_135
theorem inX5 : ∀ w ∈ u_ws "ReaderRows" TX5 6, w ∈ lw_g := by
  intro w hw
  obtain ⟨k, hk, rfl⟩ := List.mem_map.mp hw
  have hk := List.mem_range.mp hk
  rcases (show k = 0 ∨ k = 1 ∨ k = 2 ∨ k = 3 ∨ k = 4 ∨ k = 5 by omega) with rfl | rfl | rfl | rfl | rfl | rfl
  · exact m_144
  · exact m_146
  · exact m_148
  · exact m_150
  · exact m_152
  · exact m_154
theorem inX6 : ∀ w ∈ u_ws "ReaderRowsModel" TX6 27, w ∈ lw_g := by
  intro w hw
  obtain ⟨k, hk, rfl⟩ := List.mem_map.mp hw
  have hk := List.mem_range.mp hk
  rcases (show k = 0 ∨ k = 1 ∨ k = 2 ∨ k = 3 ∨ k = 4 ∨ k = 5 ∨ k = 6 ∨ k = 7 ∨ k = 8 ∨ k = 9 ∨ k = 10 ∨ k = 11 ∨ k = 12 ∨ k = 13 ∨ k = 14 ∨ k = 15 ∨ k = 16 ∨ k = 17 ∨ k = 18 ∨ k = 19 ∨ k = 20 ∨ k = 21 ∨ k = 22 ∨ k = 23 ∨ k = 24 ∨ k = 25 ∨ k = 26 by omega) with rfl | rfl | rfl | rfl | rfl | rfl | rfl | rfl | rfl | rfl | rfl | rfl | rfl | rfl | rfl | rfl | rfl | rfl | rfl | rfl | rfl | rfl | rfl | rfl | rfl | rfl | rfl
  · exact m_495
  · exact m_497
  · exact m_499
  · exact m_501
  · exact m_503
  · exact m_505
  · exact m_507
  · exact m_509
  · exact m_511
  · exact m_513
  · exact m_515
  · exact m_517
  · exact m_519
  · exact m_521
  · exact m_523
  · exact m_525
  · exact m_527
  · exact m_529
  · exact m_531
  · exact m_533
  · exact m_535
  · exact m_537
  · exact m_539
  · exact m_541
  · exact m_543
  · exact m_545
  · exact m_547
theorem lw_good : ∀ w ∈ lw_g, goodWord w = true := fun w hw => (List.mem_filter.mp hw).2
theorem lw_goodIn : GoodIn lw_g lw_g := fun w hw => ⟨hw, good_of_word (lw_good w hw)⟩
theorem gd1 {w : Cond} (h : w ∈ lw_g) : w ∈ lw_g ∧ ((w.onTables && w.keeps) = true ∨ ∃ ty, w = .arrayClass ty) := lw_goodIn w h
theorem gdC {y : MethodName} {b : ByteArray} {n : Nat} {r : Option FieldType} (h : Cond.code y b n r ∈ lw_g) : GoodIn lw_g (Cond.code y b n r :: lw_g) := fun w hw => by
  rcases List.mem_cons.mp hw with rfl | q
  · exact gd1 h
  · exact gd1 q
theorem gdV {own C : String} {idx : Nat} {y : MethodName} {b : ByteArray} {n : Nat} {r : Option FieldType} (h1 : Cond.methodLink own idx y ∈ lw_g) (h2 : Cond.instanceMethod y ∈ lw_g) (h3 : Cond.selects C y y ∈ lw_g) (h4 : Cond.initialized C ∈ lw_g) (h5 : Cond.code y b n r ∈ lw_g) : GoodIn lw_g (wsV own idx C y (Cond.code y b n r :: lw_g)) := fun w hw => by
  unfold wsV at hw
  rcases List.mem_append.mp hw with q | q
  · simp only [List.mem_cons, List.not_mem_nil, or_false] at q
    rcases q with rfl | rfl | rfl | rfl
    · exact gd1 h1
    · exact gd1 h2
    · exact gd1 h3
    · exact gd1 h4
  · exact gdC h5 w q
theorem gdS {own : String} {idx : Nat} {y : MethodName} {b : ByteArray} {n : Nat} {r : Option FieldType} (h1 : Cond.methodLink own idx y ∈ lw_g) (h2 : Cond.static y ∈ lw_g) (h4 : Cond.initialized own ∈ lw_g) (h5 : Cond.code y b n r ∈ lw_g) : GoodIn lw_g (wsS own idx y (Cond.code y b n r :: lw_g)) := fun w hw => by
  unfold wsS at hw
  rcases List.mem_append.mp hw with q | q
  · simp only [List.mem_cons, List.not_mem_nil, or_false] at q
    rcases q with rfl | rfl | rfl
    · exact gd1 h1
    · exact gd1 h2
    · exact gd1 h4
  · exact gdC h5 w q
-- the methods
abbrev cX0_init : ByteArray := prog_2_method_1_code
abbrev yX0_init : MethodName := ⟨"ReaderRows$Cards", "<init>", "()V"⟩
abbrev wsX0_init : List Cond := Cond.code yX0_init cX0_init 1 none :: lw_g
abbrev cX0_add : ByteArray := prog_2_method_2_code
abbrev yX0_add : MethodName := ⟨"ReaderRows$Cards", "add", "(II)V"⟩
abbrev wsX0_add : List Cond := Cond.code yX0_add cX0_add 3 none :: lw_g
abbrev cX0_isTaken : ByteArray := prog_2_method_3_code
abbrev yX0_isTaken : MethodName := ⟨"ReaderRows$Cards", "isTaken", "(I)Z"⟩
abbrev wsX0_isTaken : List Cond := Cond.code yX0_isTaken cX0_isTaken 2 (some .boolean) :: lw_g
abbrev cX0_holderOfGood : ByteArray := prog_2_method_4_code
abbrev yX0_holderOfGood : MethodName := ⟨"ReaderRows$Cards", "holderOfGood", "(I)I"⟩
abbrev wsX0_holderOfGood : List Cond := Cond.code yX0_holderOfGood cX0_holderOfGood 3 (some .int) :: lw_g
abbrev cX0_lose : ByteArray := prog_2_method_5_code
abbrev yX0_lose : MethodName := ⟨"ReaderRows$Cards", "lose", "(I)V"⟩
abbrev wsX0_lose : List Cond := Cond.code yX0_lose cX0_lose 3 none :: lw_g
abbrev cX0_countOf : ByteArray := prog_2_method_6_code
abbrev yX0_countOf : MethodName := ⟨"ReaderRows$Cards", "countOf", "(I)I"⟩
abbrev wsX0_countOf : List Cond := Cond.code yX0_countOf cX0_countOf 4 (some .int) :: lw_g
abbrev cX0_moveAll : ByteArray := prog_2_method_7_code
abbrev yX0_moveAll : MethodName := ⟨"ReaderRows$Cards", "moveAll", "(II)V"⟩
abbrev wsX0_moveAll : List Cond := Cond.code yX0_moveAll cX0_moveAll 4 none :: lw_g
abbrev cX0_placeOf : ByteArray := prog_2_method_8_code
abbrev yX0_placeOf : MethodName := ⟨"ReaderRows$Cards", "placeOf", "(I)I"⟩
abbrev wsX0_placeOf : List Cond := Cond.code yX0_placeOf cX0_placeOf 3 (some .int) :: lw_g
abbrev cX1_init : ByteArray := prog_3_method_1_code
abbrev yX1_init : MethodName := ⟨"ReaderRows$Loans", "<init>", "()V"⟩
abbrev wsX1_init : List Cond := Cond.code yX1_init cX1_init 1 none :: lw_g
abbrev cX1_count : ByteArray := prog_3_method_2_code
abbrev yX1_count : MethodName := ⟨"ReaderRows$Loans", "count", "()I"⟩
abbrev wsX1_count : List Cond := Cond.code yX1_count cX1_count 1 (some .int) :: lw_g
abbrev cX1_add : ByteArray := prog_3_method_3_code
abbrev yX1_add : MethodName := ⟨"ReaderRows$Loans", "add", "(IIIJJ)I"⟩
abbrev wsX1_add : List Cond := Cond.code yX1_add cX1_add 8 (some .int) :: lw_g
abbrev cX1_putInOrder : ByteArray := prog_3_method_4_code
abbrev yX1_putInOrder : MethodName := ⟨"ReaderRows$Loans", "putInOrder", "(I)V"⟩
abbrev wsX1_putInOrder : List Cond := Cond.code yX1_putInOrder cX1_putInOrder 3 none :: lw_g
abbrev cX1_atPlace : ByteArray := prog_3_method_5_code
abbrev yX1_atPlace : MethodName := ⟨"ReaderRows$Loans", "atPlace", "(I)I"⟩
abbrev wsX1_atPlace : List Cond := Cond.code yX1_atPlace cX1_atPlace 2 (some .int) :: lw_g
abbrev cX1_holderOf : ByteArray := prog_3_method_6_code
abbrev yX1_holderOf : MethodName := ⟨"ReaderRows$Loans", "holderOf", "(I)I"⟩
abbrev wsX1_holderOf : List Cond := Cond.code yX1_holderOf cX1_holderOf 2 (some .int) :: lw_g
abbrev cX1_itemOf : ByteArray := prog_3_method_7_code
abbrev yX1_itemOf : MethodName := ⟨"ReaderRows$Loans", "itemOf", "(I)I"⟩
abbrev wsX1_itemOf : List Cond := Cond.code yX1_itemOf cX1_itemOf 2 (some .int) :: lw_g
abbrev cX1_lastDayOf : ByteArray := prog_3_method_8_code
abbrev yX1_lastDayOf : MethodName := ⟨"ReaderRows$Loans", "lastDayOf", "(I)J"⟩
abbrev wsX1_lastDayOf : List Cond := Cond.code yX1_lastDayOf cX1_lastDayOf 2 (some .long) :: lw_g
abbrev cX1_isAnonymous : ByteArray := prog_3_method_9_code
abbrev yX1_isAnonymous : MethodName := ⟨"ReaderRows$Loans", "isAnonymous", "(I)Z"⟩
abbrev wsX1_isAnonymous : List Cond := Cond.code yX1_isAnonymous cX1_isAnonymous 2 (some .boolean) :: lw_g
abbrev cX1_makeAnonymous : ByteArray := prog_3_method_10_code
abbrev yX1_makeAnonymous : MethodName := ⟨"ReaderRows$Loans", "makeAnonymous", "(I)V"⟩
abbrev wsX1_makeAnonymous : List Cond := Cond.code yX1_makeAnonymous cX1_makeAnonymous 2 none :: lw_g
abbrev cX1_countNamed : ByteArray := prog_3_method_11_code
abbrev yX1_countNamed : MethodName := ⟨"ReaderRows$Loans", "countNamed", "(I)I"⟩
abbrev wsX1_countNamed : List Cond := Cond.code yX1_countNamed cX1_countNamed 4 (some .int) :: lw_g
abbrev cX1_countBegun : ByteArray := prog_3_method_12_code
abbrev yX1_countBegun : MethodName := ⟨"ReaderRows$Loans", "countBegun", "(IJJ)I"⟩
abbrev wsX1_countBegun : List Cond := Cond.code yX1_countBegun cX1_countBegun 8 (some .int) :: lw_g
abbrev cX1_moveAll : ByteArray := prog_3_method_13_code
abbrev yX1_moveAll : MethodName := ⟨"ReaderRows$Loans", "moveAll", "(II)V"⟩
abbrev wsX1_moveAll : List Cond := Cond.code yX1_moveAll cX1_moveAll 4 none :: lw_g
abbrev cX2_init : ByteArray := prog_4_method_1_code
abbrev yX2_init : MethodName := ⟨"ReaderRows$Names", "<init>", "()V"⟩
abbrev wsX2_init : List Cond := Cond.code yX2_init cX2_init 1 none :: lw_g
abbrev cX2_put : ByteArray := prog_4_method_2_code
abbrev yX2_put : MethodName := ⟨"ReaderRows$Names", "put", "(ILReaderRows$Row;)V"⟩
abbrev wsX2_put : List Cond := Cond.code yX2_put cX2_put 5 none :: lw_g
abbrev cX2_has : ByteArray := prog_4_method_3_code
abbrev yX2_has : MethodName := ⟨"ReaderRows$Names", "has", "(I)Z"⟩
abbrev wsX2_has : List Cond := Cond.code yX2_has cX2_has 2 (some .boolean) :: lw_g
abbrev cX2_isSame : ByteArray := prog_4_method_4_code
abbrev yX2_isSame : MethodName := ⟨"ReaderRows$Names", "isSame", "(ILReaderRows$Row;)Z"⟩
abbrev wsX2_isSame : List Cond := Cond.code yX2_isSame cX2_isSame 5 (some .boolean) :: lw_g
abbrev cX2_distance : ByteArray := prog_4_method_5_code
abbrev yX2_distance : MethodName := ⟨"ReaderRows$Names", "distance", "(ILReaderRows$Row;)I"⟩
abbrev wsX2_distance : List Cond := Cond.code yX2_distance cX2_distance 10 (some .int) :: lw_g
abbrev cX2_letterAt : ByteArray := prog_4_method_6_code
abbrev yX2_letterAt : MethodName := ⟨"ReaderRows$Names", "letterAt", "(II)I"⟩
abbrev wsX2_letterAt : List Cond := Cond.code yX2_letterAt cX2_letterAt 3 (some .int) :: lw_g
abbrev cX3_init : ByteArray := prog_5_method_1_code
abbrev yX3_init : MethodName := ⟨"ReaderRows$Readers", "<init>", "()V"⟩
abbrev wsX3_init : List Cond := Cond.code yX3_init cX3_init 2 none :: lw_g
abbrev cX3_count : ByteArray := prog_5_method_2_code
abbrev yX3_count : MethodName := ⟨"ReaderRows$Readers", "count", "()I"⟩
abbrev wsX3_count : List Cond := Cond.code yX3_count cX3_count 1 (some .int) :: lw_g
abbrev cX3_add : ByteArray := prog_5_method_3_code
abbrev yX3_add : MethodName := ⟨"ReaderRows$Readers", "add", "(II)I"⟩
abbrev wsX3_add : List Cond := Cond.code yX3_add cX3_add 3 (some .int) :: lw_g
abbrev cX3_find : ByteArray := prog_5_method_4_code
abbrev yX3_find : MethodName := ⟨"ReaderRows$Readers", "find", "(I)I"⟩
abbrev wsX3_find : List Cond := Cond.code yX3_find cX3_find 2 (some .int) :: lw_g
abbrev cX3_isJoined : ByteArray := prog_5_method_5_code
abbrev yX3_isJoined : MethodName := ⟨"ReaderRows$Readers", "isJoined", "(I)Z"⟩
abbrev wsX3_isJoined : List Cond := Cond.code yX3_isJoined cX3_isJoined 2 (some .boolean) :: lw_g
abbrev cX3_kindOf : ByteArray := prog_5_method_6_code
abbrev yX3_kindOf : MethodName := ⟨"ReaderRows$Readers", "kindOf", "(I)I"⟩
abbrev wsX3_kindOf : List Cond := Cond.code yX3_kindOf cX3_kindOf 2 (some .int) :: lw_g
abbrev cX3_guardianOf : ByteArray := prog_5_method_7_code
abbrev yX3_guardianOf : MethodName := ⟨"ReaderRows$Readers", "guardianOf", "(I)I"⟩
abbrev wsX3_guardianOf : List Cond := Cond.code yX3_guardianOf cX3_guardianOf 2 (some .int) :: lw_g
abbrev cX3_hasConsent : ByteArray := prog_5_method_8_code
abbrev yX3_hasConsent : MethodName := ⟨"ReaderRows$Readers", "hasConsent", "(I)Z"⟩
abbrev wsX3_hasConsent : List Cond := Cond.code yX3_hasConsent cX3_hasConsent 2 (some .boolean) :: lw_g
abbrev cX3_setConsent : ByteArray := prog_5_method_9_code
abbrev yX3_setConsent : MethodName := ⟨"ReaderRows$Readers", "setConsent", "(IZ)V"⟩
abbrev wsX3_setConsent : List Cond := Cond.code yX3_setConsent cX3_setConsent 3 none :: lw_g
abbrev cX3_setBlock : ByteArray := prog_5_method_10_code
abbrev yX3_setBlock : MethodName := ⟨"ReaderRows$Readers", "setBlock", "(IIJ)V"⟩
abbrev wsX3_setBlock : List Cond := Cond.code yX3_setBlock cX3_setBlock 5 none :: lw_g
abbrev cX3_hasBlock : ByteArray := prog_5_method_11_code
abbrev yX3_hasBlock : MethodName := ⟨"ReaderRows$Readers", "hasBlock", "(IIJ)Z"⟩
abbrev wsX3_hasBlock : List Cond := Cond.code yX3_hasBlock cX3_hasBlock 7 (some .boolean) :: lw_g
abbrev cX3_wardOf : ByteArray := prog_5_method_12_code
abbrev yX3_wardOf : MethodName := ⟨"ReaderRows$Readers", "wardOf", "(II)I"⟩
abbrev wsX3_wardOf : List Cond := Cond.code yX3_wardOf cX3_wardOf 5 (some .int) :: lw_g
abbrev cX3_merge : ByteArray := prog_5_method_13_code
abbrev yX3_merge : MethodName := ⟨"ReaderRows$Readers", "merge", "(II)V"⟩
abbrev wsX3_merge : List Cond := Cond.code yX3_merge cX3_merge 7 none :: lw_g
abbrev cX4_init : ByteArray := prog_6_method_1_code
abbrev yX4_init : MethodName := ⟨"ReaderRows$Row", "<init>", "()V"⟩
abbrev wsX4_init : List Cond := Cond.code yX4_init cX4_init 1 none :: lw_g
abbrev cX4_collect : ByteArray := prog_6_method_2_code
abbrev yX4_collect : MethodName := ⟨"ReaderRows$Row", "collect", "(I)V"⟩
abbrev wsX4_collect : List Cond := Cond.code yX4_collect cX4_collect 2 none :: lw_g
abbrev cX4_clear : ByteArray := prog_6_method_3_code
abbrev yX4_clear : MethodName := ⟨"ReaderRows$Row", "clear", "()V"⟩
abbrev wsX4_clear : List Cond := Cond.code yX4_clear cX4_clear 1 none :: lw_g
abbrev cX4_signAt : ByteArray := prog_6_method_4_code
abbrev yX4_signAt : MethodName := ⟨"ReaderRows$Row", "signAt", "(I)I"⟩
abbrev wsX4_signAt : List Cond := Cond.code yX4_signAt cX4_signAt 2 (some .int) :: lw_g
abbrev cX4_nameLength : ByteArray := prog_6_method_5_code
abbrev yX4_nameLength : MethodName := ⟨"ReaderRows$Row", "nameLength", "()I"⟩
abbrev wsX4_nameLength : List Cond := Cond.code yX4_nameLength cX4_nameLength 1 (some .int) :: lw_g
abbrev cX4_kind : ByteArray := prog_6_method_6_code
abbrev yX4_kind : MethodName := ⟨"ReaderRows$Row", "kind", "()I"⟩
abbrev wsX4_kind : List Cond := Cond.code yX4_kind cX4_kind 1 (some .int) :: lw_g
abbrev cX4_year : ByteArray := prog_6_method_7_code
abbrev yX4_year : MethodName := ⟨"ReaderRows$Row", "year", "()I"⟩
abbrev wsX4_year : List Cond := Cond.code yX4_year cX4_year 1 (some .int) :: lw_g
abbrev cX4_readNameAlone : ByteArray := prog_6_method_8_code
abbrev yX4_readNameAlone : MethodName := ⟨"ReaderRows$Row", "readNameAlone", "()Z"⟩
abbrev wsX4_readNameAlone : List Cond := Cond.code yX4_readNameAlone cX4_readNameAlone 1 (some .boolean) :: lw_g
abbrev cX4_readAll : ByteArray := prog_6_method_9_code
abbrev yX4_readAll : MethodName := ⟨"ReaderRows$Row", "readAll", "()I"⟩
abbrev wsX4_readAll : List Cond := Cond.code yX4_readAll cX4_readAll 2 (some .int) :: lw_g
abbrev cX4_readName : ByteArray := prog_6_method_10_code
abbrev yX4_readName : MethodName := ⟨"ReaderRows$Row", "readName", "()V"⟩
abbrev wsX4_readName : List Cond := Cond.code yX4_readName cX4_readName 2 none :: lw_g
abbrev cX4_readYear : ByteArray := prog_6_method_11_code
abbrev yX4_readYear : MethodName := ⟨"ReaderRows$Row", "readYear", "(I)I"⟩
abbrev wsX4_readYear : List Cond := Cond.code yX4_readYear cX4_readYear 3 (some .int) :: lw_g
abbrev cX4_isAmong : ByteArray := prog_6_method_12_code
abbrev yX4_isAmong : MethodName := ⟨"ReaderRows$Row", "isAmong", "(III)Z"⟩
abbrev wsX4_isAmong : List Cond := Cond.code yX4_isAmong cX4_isAmong 5 (some .boolean) :: lw_g
abbrev cX5_init : ByteArray := prog_1_method_1_code
abbrev yX5_init : MethodName := ⟨"ReaderRows", "<init>", "()V"⟩
abbrev wsX5_init : List Cond := Cond.code yX5_init cX5_init 2 none :: lw_g
abbrev cX5_reader : ByteArray := prog_1_method_2_code
abbrev yX5_reader : MethodName := ⟨"ReaderRows", "reader", "(II)I"⟩
abbrev wsX5_reader : List Cond := Cond.code yX5_reader cX5_reader 4 (some .int) :: lw_g
abbrev cX5_card : ByteArray := prog_1_method_3_code
abbrev yX5_card : MethodName := ⟨"ReaderRows", "card", "(II)I"⟩
abbrev wsX5_card : List Cond := Cond.code yX5_card cX5_card 4 (some .int) :: lw_g
abbrev cX5_whose : ByteArray := prog_1_method_4_code
abbrev yX5_whose : MethodName := ⟨"ReaderRows", "whose", "(I)I"⟩
abbrev wsX5_whose : List Cond := Cond.code yX5_whose cX5_whose 2 (some .int) :: lw_g
abbrev cX5_lost : ByteArray := prog_1_method_5_code
abbrev yX5_lost : MethodName := ⟨"ReaderRows", "lost", "(II)I"⟩
abbrev wsX5_lost : List Cond := Cond.code yX5_lost cX5_lost 4 (some .int) :: lw_g
abbrev cX5_block : ByteArray := prog_1_method_6_code
abbrev yX5_block : MethodName := ⟨"ReaderRows", "block", "(IIJ)I"⟩
abbrev wsX5_block : List Cond := Cond.code yX5_block cX5_block 6 (some .int) :: lw_g
abbrev cX5_blocked : ByteArray := prog_1_method_7_code
abbrev yX5_blocked : MethodName := ⟨"ReaderRows", "blocked", "(IJ)I"⟩
abbrev wsX5_blocked : List Cond := Cond.code yX5_blocked cX5_blocked 7 (some .int) :: lw_g
abbrev cX5_consent : ByteArray := prog_1_method_8_code
abbrev yX5_consent : MethodName := ⟨"ReaderRows", "consent", "(IZJ)I"⟩
abbrev wsX5_consent : List Cond := Cond.code yX5_consent cX5_consent 7 (some .int) :: lw_g
abbrev cX5_keeps : ByteArray := prog_1_method_9_code
abbrev yX5_keeps : MethodName := ⟨"ReaderRows", "keeps", "(II)I"⟩
abbrev wsX5_keeps : List Cond := Cond.code yX5_keeps cX5_keeps 4 (some .int) :: lw_g
abbrev cX5_loan : ByteArray := prog_1_method_10_code
abbrev yX5_loan : MethodName := ⟨"ReaderRows", "loan", "(IIJJ)I"⟩
abbrev wsX5_loan : List Cond := Cond.code yX5_loan cX5_loan 8 (some .int) :: lw_g
abbrev cX5_kept : ByteArray := prog_1_method_11_code
abbrev yX5_kept : MethodName := ⟨"ReaderRows", "kept", "(IIJ)I"⟩
abbrev wsX5_kept : List Cond := Cond.code yX5_kept cX5_kept 9 (some .int) :: lw_g
abbrev cX5_anonymise : ByteArray := prog_1_method_12_code
abbrev yX5_anonymise : MethodName := ⟨"ReaderRows", "anonymise", "(J)I"⟩
abbrev wsX5_anonymise : List Cond := Cond.code yX5_anonymise cX5_anonymise 5 (some .int) :: lw_g
abbrev cX5_join : ByteArray := prog_1_method_13_code
abbrev yX5_join : MethodName := ⟨"ReaderRows", "join", "(II)I"⟩
abbrev wsX5_join : List Cond := Cond.code yX5_join cX5_join 5 (some .int) :: lw_g
abbrev cX5_family : ByteArray := prog_1_method_14_code
abbrev yX5_family : MethodName := ⟨"ReaderRows", "family", "(II)I"⟩
abbrev wsX5_family : List Cond := Cond.code yX5_family cX5_family 6 (some .int) :: lw_g
abbrev cX5_sign : ByteArray := prog_1_method_15_code
abbrev yX5_sign : MethodName := ⟨"ReaderRows", "sign", "(I)V"⟩
abbrev wsX5_sign : List Cond := Cond.code yX5_sign cX5_sign 2 none :: lw_g
abbrev cX5_import0 : ByteArray := prog_1_method_16_code
abbrev yX5_import0 : MethodName := ⟨"ReaderRows", "import0", "()I"⟩
abbrev wsX5_import0 : List Cond := Cond.code yX5_import0 cX5_import0 3 (some .int) :: lw_g
abbrev cX5_like : ByteArray := prog_1_method_17_code
abbrev yX5_like : MethodName := ⟨"ReaderRows", "like", "()I"⟩
abbrev wsX5_like : List Cond := Cond.code yX5_like cX5_like 2 (some .int) :: lw_g
abbrev cX5_about : ByteArray := prog_1_method_18_code
abbrev yX5_about : MethodName := ⟨"ReaderRows", "about", "(II)I"⟩
abbrev wsX5_about : List Cond := Cond.code yX5_about cX5_about 4 (some .int) :: lw_g
abbrev cX5_statistics : ByteArray := prog_1_method_19_code
abbrev yX5_statistics : MethodName := ⟨"ReaderRows", "statistics", "(IJJ)I"⟩
abbrev wsX5_statistics : List Cond := Cond.code yX5_statistics cX5_statistics 6 (some .int) :: lw_g
abbrev cX5_isKind : ByteArray := prog_1_method_20_code
abbrev yX5_isKind : MethodName := ⟨"ReaderRows", "isKind", "(I)Z"⟩
abbrev wsX5_isKind : List Cond := Cond.code yX5_isKind cX5_isKind 1 (some .boolean) :: lw_g
abbrev cX5_isDay : ByteArray := prog_1_method_21_code
abbrev yX5_isDay : MethodName := ⟨"ReaderRows", "isDay", "(J)Z"⟩
abbrev wsX5_isDay : List Cond := Cond.code yX5_isDay cX5_isDay 2 (some .boolean) :: lw_g
abbrev cX5_isKept : ByteArray := prog_1_method_22_code
abbrev yX5_isKept : MethodName := ⟨"ReaderRows", "isKept", "(IJ)Z"⟩
abbrev wsX5_isKept : List Cond := Cond.code yX5_isKept cX5_isKept 5 (some .boolean) :: lw_g
abbrev cX5_anonymiseUnlessKept : ByteArray := prog_1_method_23_code
abbrev yX5_anonymiseUnlessKept : MethodName := ⟨"ReaderRows", "anonymiseUnlessKept", "(IJ)Z"⟩
abbrev wsX5_anonymiseUnlessKept : List Cond := Cond.code yX5_anonymiseUnlessKept cX5_anonymiseUnlessKept 4 (some .boolean) :: lw_g
abbrev cX5_anonymiseLoansOf : ByteArray := prog_1_method_24_code
abbrev yX5_anonymiseLoansOf : MethodName := ⟨"ReaderRows", "anonymiseLoansOf", "(IJ)I"⟩
abbrev wsX5_anonymiseLoansOf : List Cond := Cond.code yX5_anonymiseLoansOf cX5_anonymiseLoansOf 6 (some .int) :: lw_g
abbrev cX5_mayJoin : ByteArray := prog_1_method_25_code
abbrev yX5_mayJoin : MethodName := ⟨"ReaderRows", "mayJoin", "(II)Z"⟩
abbrev wsX5_mayJoin : List Cond := Cond.code yX5_mayJoin cX5_mayJoin 4 (some .boolean) :: lw_g
abbrev cX5_importFittingRow : ByteArray := prog_1_method_26_code
abbrev yX5_importFittingRow : MethodName := ⟨"ReaderRows", "importFittingRow", "()I"⟩
abbrev wsX5_importFittingRow : List Cond := Cond.code yX5_importFittingRow cX5_importFittingRow 3 (some .int) :: lw_g
abbrev cX5_firstNamed : ByteArray := prog_1_method_27_code
abbrev yX5_firstNamed : MethodName := ⟨"ReaderRows", "firstNamed", "()I"⟩
abbrev wsX5_firstNamed : List Cond := Cond.code yX5_firstNamed cX5_firstNamed 2 (some .int) :: lw_g
abbrev cX5_nearestNamed : ByteArray := prog_1_method_28_code
abbrev yX5_nearestNamed : MethodName := ⟨"ReaderRows", "nearestNamed", "()I"⟩
abbrev wsX5_nearestNamed : List Cond := Cond.code yX5_nearestNamed cX5_nearestNamed 5 (some .int) :: lw_g
abbrev cX6_init : ByteArray := prog_8_method_1_code
abbrev yX6_init : MethodName := ⟨"ReaderRowsModel", "<init>", "()V"⟩
abbrev wsX6_init : List Cond := Cond.code yX6_init cX6_init 2 none :: lw_g
abbrev cX6_who : ByteArray := prog_8_method_3_code
abbrev yX6_who : MethodName := ⟨"ReaderRowsModel", "who", "(I)I"⟩
abbrev wsX6_who : List Cond := Cond.code yX6_who cX6_who 3 (some .int) :: lw_g
abbrev cX6_isDay : ByteArray := prog_8_method_4_code
abbrev yX6_isDay : MethodName := ⟨"ReaderRowsModel", "isDay", "(J)Z"⟩
abbrev wsX6_isDay : List Cond := Cond.code yX6_isDay cX6_isDay 2 (some .boolean) :: lw_g
abbrev cX6_isKind : ByteArray := prog_8_method_5_code
abbrev yX6_isKind : MethodName := ⟨"ReaderRowsModel", "isKind", "(I)Z"⟩
abbrev wsX6_isKind : List Cond := Cond.code yX6_isKind cX6_isKind 1 (some .boolean) :: lw_g
abbrev cX6_reader : ByteArray := prog_8_method_6_code
abbrev yX6_reader : MethodName := ⟨"ReaderRowsModel", "reader", "(II)I"⟩
abbrev wsX6_reader : List Cond := Cond.code yX6_reader cX6_reader 4 (some .int) :: lw_g
abbrev cX6_find : ByteArray := prog_8_method_7_code
abbrev yX6_find : MethodName := ⟨"ReaderRowsModel", "find", "(I)I"⟩
abbrev wsX6_find : List Cond := Cond.code yX6_find cX6_find 3 (some .int) :: lw_g
abbrev cX6_has : ByteArray := prog_8_method_8_code
abbrev yX6_has : MethodName := ⟨"ReaderRowsModel", "has", "(I)I"⟩
abbrev wsX6_has : List Cond := Cond.code yX6_has cX6_has 4 (some .int) :: lw_g
abbrev cX6_add : ByteArray := prog_8_method_9_code
abbrev yX6_add : MethodName := ⟨"ReaderRowsModel", "add", "(II)V"⟩
abbrev wsX6_add : List Cond := Cond.code yX6_add cX6_add 3 none :: lw_g
abbrev cX6_card : ByteArray := prog_8_method_10_code
abbrev yX6_card : MethodName := ⟨"ReaderRowsModel", "card", "(II)I"⟩
abbrev wsX6_card : List Cond := Cond.code yX6_card cX6_card 4 (some .int) :: lw_g
abbrev cX6_whose : ByteArray := prog_8_method_11_code
abbrev yX6_whose : MethodName := ⟨"ReaderRowsModel", "whose", "(I)I"⟩
abbrev wsX6_whose : List Cond := Cond.code yX6_whose cX6_whose 3 (some .int) :: lw_g
abbrev cX6_lost : ByteArray := prog_8_method_12_code
abbrev yX6_lost : MethodName := ⟨"ReaderRowsModel", "lost", "(II)I"⟩
abbrev wsX6_lost : List Cond := Cond.code yX6_lost cX6_lost 4 (some .int) :: lw_g
abbrev cX6_block : ByteArray := prog_8_method_13_code
abbrev yX6_block : MethodName := ⟨"ReaderRowsModel", "block", "(IIJ)I"⟩
abbrev wsX6_block : List Cond := Cond.code yX6_block cX6_block 6 (some .int) :: lw_g
abbrev cX6_blocked : ByteArray := prog_8_method_14_code
abbrev yX6_blocked : MethodName := ⟨"ReaderRowsModel", "blocked", "(IJ)I"⟩
abbrev wsX6_blocked : List Cond := Cond.code yX6_blocked cX6_blocked 6 (some .int) :: lw_g
abbrev cX6_lasts : ByteArray := prog_8_method_15_code
abbrev yX6_lasts : MethodName := ⟨"ReaderRowsModel", "lasts", "(IIJ)Z"⟩
abbrev wsX6_lasts : List Cond := Cond.code yX6_lasts cX6_lasts 5 (some .boolean) :: lw_g
abbrev cX6_isKept : ByteArray := prog_8_method_16_code
abbrev yX6_isKept : MethodName := ⟨"ReaderRowsModel", "isKept", "(IJ)Z"⟩
abbrev wsX6_isKept : List Cond := Cond.code yX6_isKept cX6_isKept 5 (some .boolean) :: lw_g
abbrev cX6_forget : ByteArray := prog_8_method_17_code
abbrev yX6_forget : MethodName := ⟨"ReaderRowsModel", "forget", "(IJ)I"⟩
abbrev wsX6_forget : List Cond := Cond.code yX6_forget cX6_forget 6 (some .int) :: lw_g
abbrev cX6_consent : ByteArray := prog_8_method_18_code
abbrev yX6_consent : MethodName := ⟨"ReaderRowsModel", "consent", "(IZJ)I"⟩
abbrev wsX6_consent : List Cond := Cond.code yX6_consent cX6_consent 7 (some .int) :: lw_g
abbrev cX6_keeps : ByteArray := prog_8_method_19_code
abbrev yX6_keeps : MethodName := ⟨"ReaderRowsModel", "keeps", "(II)I"⟩
abbrev wsX6_keeps : List Cond := Cond.code yX6_keeps cX6_keeps 4 (some .int) :: lw_g
abbrev cX6_loan : ByteArray := prog_8_method_20_code
abbrev yX6_loan : MethodName := ⟨"ReaderRowsModel", "loan", "(IIJJ)I"⟩
abbrev wsX6_loan : List Cond := Cond.code yX6_loan cX6_loan 8 (some .int) :: lw_g
abbrev cX6_isFor : ByteArray := prog_8_method_21_code
abbrev yX6_isFor : MethodName := ⟨"ReaderRowsModel", "isFor", "(IIJ)Z"⟩
abbrev wsX6_isFor : List Cond := Cond.code yX6_isFor cX6_isFor 5 (some .boolean) :: lw_g
abbrev cX6_kept : ByteArray := prog_8_method_22_code
abbrev yX6_kept : MethodName := ⟨"ReaderRowsModel", "kept", "(IIJ)I"⟩
abbrev wsX6_kept : List Cond := Cond.code yX6_kept cX6_kept 9 (some .int) :: lw_g
abbrev cX6_anonymise : ByteArray := prog_8_method_23_code
abbrev yX6_anonymise : MethodName := ⟨"ReaderRowsModel", "anonymise", "(J)I"⟩
abbrev wsX6_anonymise : List Cond := Cond.code yX6_anonymise cX6_anonymise 3 (some .int) :: lw_g
abbrev cX6_join : ByteArray := prog_8_method_24_code
abbrev yX6_join : MethodName := ⟨"ReaderRowsModel", "join", "(II)I"⟩
abbrev wsX6_join : List Cond := Cond.code yX6_join cX6_join 6 (some .int) :: lw_g
abbrev cX6_family : ByteArray := prog_8_method_25_code
abbrev yX6_family : MethodName := ⟨"ReaderRowsModel", "family", "(II)I"⟩
abbrev wsX6_family : List Cond := Cond.code yX6_family cX6_family 7 (some .int) :: lw_g
abbrev cX6_sign : ByteArray := prog_8_method_26_code
abbrev yX6_sign : MethodName := ⟨"ReaderRowsModel", "sign", "(I)V"⟩
abbrev wsX6_sign : List Cond := Cond.code yX6_sign cX6_sign 2 none :: lw_g
abbrev cX6_look : ByteArray := prog_8_method_27_code
abbrev yX6_look : MethodName := ⟨"ReaderRowsModel", "look", "()I"⟩
abbrev wsX6_look : List Cond := Cond.code yX6_look cX6_look 1 (some .int) :: lw_g
abbrev cX6_letters : ByteArray := prog_8_method_28_code
abbrev yX6_letters : MethodName := ⟨"ReaderRowsModel", "letters", "()I"⟩
abbrev wsX6_letters : List Cond := Cond.code yX6_letters cX6_letters 2 (some .int) :: lw_g
abbrev cX6_isNamed : ByteArray := prog_8_method_29_code
abbrev yX6_isNamed : MethodName := ⟨"ReaderRowsModel", "isNamed", "(II)Z"⟩
abbrev wsX6_isNamed : List Cond := Cond.code yX6_isNamed cX6_isNamed 5 (some .boolean) :: lw_g
abbrev cX6_reads : ByteArray := prog_8_method_30_code
abbrev yX6_reads : MethodName := ⟨"ReaderRowsModel", "reads", "()Z"⟩
abbrev wsX6_reads : List Cond := Cond.code yX6_reads cX6_reads 2 (some .boolean) :: lw_g
abbrev cX6_import0 : ByteArray := prog_8_method_31_code
abbrev yX6_import0 : MethodName := ⟨"ReaderRowsModel", "import0", "()I"⟩
abbrev wsX6_import0 : List Cond := Cond.code yX6_import0 cX6_import0 7 (some .int) :: lw_g
abbrev cX6_far : ByteArray := prog_8_method_32_code
abbrev yX6_far : MethodName := ⟨"ReaderRowsModel", "far", "(II)I"⟩
abbrev wsX6_far : List Cond := Cond.code yX6_far cX6_far 8 (some .int) :: lw_g
abbrev cX6_like : ByteArray := prog_8_method_33_code
abbrev yX6_like : MethodName := ⟨"ReaderRowsModel", "like", "()I"⟩
abbrev wsX6_like : List Cond := Cond.code yX6_like cX6_like 7 (some .int) :: lw_g
abbrev cX6_about : ByteArray := prog_8_method_34_code
abbrev yX6_about : MethodName := ⟨"ReaderRowsModel", "about", "(II)I"⟩
abbrev wsX6_about : List Cond := Cond.code yX6_about cX6_about 6 (some .int) :: lw_g
abbrev cX6_statistics : ByteArray := prog_8_method_35_code
abbrev yX6_statistics : MethodName := ⟨"ReaderRowsModel", "statistics", "(IJJ)I"⟩
abbrev wsX6_statistics : List Cond := Cond.code yX6_statistics cX6_statistics 8 (some .int) :: lw_g
