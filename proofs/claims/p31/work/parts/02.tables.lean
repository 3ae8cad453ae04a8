-- ===== PART A: goes FIRST, ahead of the names: the tables' words, and 'selects' of the private methods out of them =====
/-- a private method of a class that the tables say can be made, by its rows of tables_1 -/
def lw_okq (q : MethodName × Nat) : Prop := (q.1.cls ≠ "java/lang/invoke/MethodHandle" ∧ q.1.cls ≠ "java/lang/invoke/VarHandle") ∧ Cond.instantiable q.1.cls q.2 ∈ tables_1 ∧ Cond.privateMethod q.1 ∈ tables_1 ∧ Cond.instanceMethod q.1 ∈ tables_1
theorem lw_p0 : lw_okq (⟨"java/lang/Throwable", "fillInStackTrace", "(I)Ljava/lang/Throwable;"⟩, 6) := ⟨⟨by decide +kernel, by decide +kernel⟩, List.mem_of_getElem? (i := 318) (by decide +kernel), List.mem_of_getElem? (i := 316) (by decide +kernel), List.mem_of_getElem? (i := 317) (by decide +kernel)⟩
theorem lw_p1 : lw_okq (⟨"PickedForms$History", "slotAt", "(I)LPickedForms$Column;"⟩, 3) := ⟨⟨by decide +kernel, by decide +kernel⟩, List.mem_of_getElem? (i := 78) (by decide +kernel), List.mem_of_getElem? (i := 352) (by decide +kernel), List.mem_of_getElem? (i := 353) (by decide +kernel)⟩
theorem lw_p2 : lw_okq (⟨"PickedForms", "writeAnew", "(I)V"⟩, 11) := ⟨⟨by decide +kernel, by decide +kernel⟩, List.mem_of_getElem? (i := 20) (by decide +kernel), List.mem_of_getElem? (i := 376) (by decide +kernel), List.mem_of_getElem? (i := 377) (by decide +kernel)⟩
theorem lw_p3 : lw_okq (⟨"PickedForms$Shape", "addUnlike", "(I)V"⟩, 8) := ⟨⟨by decide +kernel, by decide +kernel⟩, List.mem_of_getElem? (i := 120) (by decide +kernel), List.mem_of_getElem? (i := 408) (by decide +kernel), List.mem_of_getElem? (i := 409) (by decide +kernel)⟩
theorem lw_p4 : lw_okq (⟨"PickedForms", "countNumber", "(I)I"⟩, 11) := ⟨⟨by decide +kernel, by decide +kernel⟩, List.mem_of_getElem? (i := 20) (by decide +kernel), List.mem_of_getElem? (i := 463) (by decide +kernel), List.mem_of_getElem? (i := 464) (by decide +kernel)⟩
theorem lw_p5 : lw_okq (⟨"PickedForms", "weight", "()I"⟩, 11) := ⟨⟨by decide +kernel, by decide +kernel⟩, List.mem_of_getElem? (i := 20) (by decide +kernel), List.mem_of_getElem? (i := 472) (by decide +kernel), List.mem_of_getElem? (i := 473) (by decide +kernel)⟩
theorem lw_p6 : lw_okq (⟨"PickedForms", "usedBits", "()I"⟩, 11) := ⟨⟨by decide +kernel, by decide +kernel⟩, List.mem_of_getElem? (i := 20) (by decide +kernel), List.mem_of_getElem? (i := 480) (by decide +kernel), List.mem_of_getElem? (i := 481) (by decide +kernel)⟩
theorem lw_p7 : lw_okq (⟨"PickedForms", "readShape", "(I)V"⟩, 11) := ⟨⟨by decide +kernel, by decide +kernel⟩, List.mem_of_getElem? (i := 20) (by decide +kernel), List.mem_of_getElem? (i := 484) (by decide +kernel), List.mem_of_getElem? (i := 485) (by decide +kernel)⟩
theorem lw_p8 : lw_okq (⟨"PickedForms$Parting", "forget", "(II)V"⟩, 3) := ⟨⟨by decide +kernel, by decide +kernel⟩, List.mem_of_getElem? (i := 205) (by decide +kernel), List.mem_of_getElem? (i := 514) (by decide +kernel), List.mem_of_getElem? (i := 515) (by decide +kernel)⟩
theorem lw_p9 : lw_okq (⟨"PickedForms$Parting", "blockBits", "(I)I"⟩, 3) := ⟨⟨by decide +kernel, by decide +kernel⟩, List.mem_of_getElem? (i := 205) (by decide +kernel), List.mem_of_getElem? (i := 524) (by decide +kernel), List.mem_of_getElem? (i := 525) (by decide +kernel)⟩
theorem lw_p10 : lw_okq (⟨"PickedForms$Parting", "offer", "(III)V"⟩, 3) := ⟨⟨by decide +kernel, by decide +kernel⟩, List.mem_of_getElem? (i := 205) (by decide +kernel), List.mem_of_getElem? (i := 530) (by decide +kernel), List.mem_of_getElem? (i := 531) (by decide +kernel)⟩
theorem lw_p11 : lw_okq (⟨"PickedForms", "blockNumber", "(II)I"⟩, 11) := ⟨⟨by decide +kernel, by decide +kernel⟩, List.mem_of_getElem? (i := 20) (by decide +kernel), List.mem_of_getElem? (i := 568) (by decide +kernel), List.mem_of_getElem? (i := 569) (by decide +kernel)⟩
theorem lw_p12 : lw_okq (⟨"PickedForms", "readBits", "(I)V"⟩, 11) := ⟨⟨by decide +kernel, by decide +kernel⟩, List.mem_of_getElem? (i := 20) (by decide +kernel), List.mem_of_getElem? (i := 592) (by decide +kernel), List.mem_of_getElem? (i := 593) (by decide +kernel)⟩
theorem lw_p13 : lw_okq (⟨"PickedForms$BitRow", "encodePacked", "([IIILPickedForms$Shape;)V"⟩, 2) := ⟨⟨by decide +kernel, by decide +kernel⟩, List.mem_of_getElem? (i := 223) (by decide +kernel), List.mem_of_getElem? (i := 603) (by decide +kernel), List.mem_of_getElem? (i := 604) (by decide +kernel)⟩
theorem lw_p14 : lw_okq (⟨"PickedForms$BitRow", "field", "(II)V"⟩, 2) := ⟨⟨by decide +kernel, by decide +kernel⟩, List.mem_of_getElem? (i := 223) (by decide +kernel), List.mem_of_getElem? (i := 608) (by decide +kernel), List.mem_of_getElem? (i := 609) (by decide +kernel)⟩
theorem lw_p15 : lw_okq (⟨"PickedForms$BitRow", "encodeRuns", "([III)V"⟩, 2) := ⟨⟨by decide +kernel, by decide +kernel⟩, List.mem_of_getElem? (i := 223) (by decide +kernel), List.mem_of_getElem? (i := 614) (by decide +kernel), List.mem_of_getElem? (i := 615) (by decide +kernel)⟩
def lw_privs_1 : List (MethodName × Nat) := [(⟨"java/lang/Throwable", "fillInStackTrace", "(I)Ljava/lang/Throwable;"⟩, 6), (⟨"PickedForms$History", "slotAt", "(I)LPickedForms$Column;"⟩, 3), (⟨"PickedForms", "writeAnew", "(I)V"⟩, 11), (⟨"PickedForms$Shape", "addUnlike", "(I)V"⟩, 8), (⟨"PickedForms", "countNumber", "(I)I"⟩, 11), (⟨"PickedForms", "weight", "()I"⟩, 11), (⟨"PickedForms", "usedBits", "()I"⟩, 11), (⟨"PickedForms", "readShape", "(I)V"⟩, 11), (⟨"PickedForms$Parting", "forget", "(II)V"⟩, 3), (⟨"PickedForms$Parting", "blockBits", "(I)I"⟩, 3), (⟨"PickedForms$Parting", "offer", "(III)V"⟩, 3), (⟨"PickedForms", "blockNumber", "(II)I"⟩, 11), (⟨"PickedForms", "readBits", "(I)V"⟩, 11), (⟨"PickedForms$BitRow", "encodePacked", "([IIILPickedForms$Shape;)V"⟩, 2), (⟨"PickedForms$BitRow", "field", "(II)V"⟩, 2), (⟨"PickedForms$BitRow", "encodeRuns", "([III)V"⟩, 2)]
theorem lw_r1 : ∀ q ∈ lw_privs_1, lw_okq q := List.forall_mem_cons.mpr ⟨lw_p0, List.forall_mem_cons.mpr ⟨lw_p1, List.forall_mem_cons.mpr ⟨lw_p2, List.forall_mem_cons.mpr ⟨lw_p3, List.forall_mem_cons.mpr ⟨lw_p4, List.forall_mem_cons.mpr ⟨lw_p5, List.forall_mem_cons.mpr ⟨lw_p6, List.forall_mem_cons.mpr ⟨lw_p7, List.forall_mem_cons.mpr ⟨lw_p8, List.forall_mem_cons.mpr ⟨lw_p9, List.forall_mem_cons.mpr ⟨lw_p10, List.forall_mem_cons.mpr ⟨lw_p11, List.forall_mem_cons.mpr ⟨lw_p12, List.forall_mem_cons.mpr ⟨lw_p13, List.forall_mem_cons.mpr ⟨lw_p14, List.forall_mem_cons.mpr ⟨lw_p15, fun _ h => absurd h List.not_mem_nil⟩⟩⟩⟩⟩⟩⟩⟩⟩⟩⟩⟩⟩⟩⟩⟩
theorem lw_p16 : lw_okq (⟨"PickedForms$BitRow", "encodeDeltas", "([IIILPickedForms$Shape;)V"⟩, 2) := ⟨⟨by decide +kernel, by decide +kernel⟩, List.mem_of_getElem? (i := 223) (by decide +kernel), List.mem_of_getElem? (i := 618) (by decide +kernel), List.mem_of_getElem? (i := 619) (by decide +kernel)⟩
theorem lw_p17 : lw_okq (⟨"PickedForms$BitRow", "encodeListed", "([IIILPickedForms$Shape;)V"⟩, 2) := ⟨⟨by decide +kernel, by decide +kernel⟩, List.mem_of_getElem? (i := 223) (by decide +kernel), List.mem_of_getElem? (i := 623) (by decide +kernel), List.mem_of_getElem? (i := 624) (by decide +kernel)⟩
theorem lw_p18 : lw_okq (⟨"PickedForms$BitRow", "encodePlain", "([III)V"⟩, 2) := ⟨⟨by decide +kernel, by decide +kernel⟩, List.mem_of_getElem? (i := 223) (by decide +kernel), List.mem_of_getElem? (i := 631) (by decide +kernel), List.mem_of_getElem? (i := 632) (by decide +kernel)⟩
theorem lw_p19 : lw_okq (⟨"PickedForms", "valueNumber", "(II)I"⟩, 11) := ⟨⟨by decide +kernel, by decide +kernel⟩, List.mem_of_getElem? (i := 20) (by decide +kernel), List.mem_of_getElem? (i := 646) (by decide +kernel), List.mem_of_getElem? (i := 647) (by decide +kernel)⟩
theorem lw_p20 : lw_okq (⟨"PickedForms", "looksInBlock", "(II)I"⟩, 11) := ⟨⟨by decide +kernel, by decide +kernel⟩, List.mem_of_getElem? (i := 20) (by decide +kernel), List.mem_of_getElem? (i := 654) (by decide +kernel), List.mem_of_getElem? (i := 655) (by decide +kernel)⟩
theorem lw_p21 : lw_okq (⟨"PickedForms", "splitPlace", "(I)I"⟩, 11) := ⟨⟨by decide +kernel, by decide +kernel⟩, List.mem_of_getElem? (i := 20) (by decide +kernel), List.mem_of_getElem? (i := 662) (by decide +kernel), List.mem_of_getElem? (i := 663) (by decide +kernel)⟩
theorem lw_p22 : lw_okq (⟨"PickedForms", "matchNumber", "(III)I"⟩, 11) := ⟨⟨by decide +kernel, by decide +kernel⟩, List.mem_of_getElem? (i := 20) (by decide +kernel), List.mem_of_getElem? (i := 681) (by decide +kernel), List.mem_of_getElem? (i := 682) (by decide +kernel)⟩
theorem lw_p23 : lw_okq (⟨"PickedForms$Matching", "inForm", "(LPickedForms$Column;IIII)V"⟩, 3) := ⟨⟨by decide +kernel, by decide +kernel⟩, List.mem_of_getElem? (i := 185) (by decide +kernel), List.mem_of_getElem? (i := 691) (by decide +kernel), List.mem_of_getElem? (i := 692) (by decide +kernel)⟩
theorem lw_p24 : lw_okq (⟨"PickedForms$Matching", "byRuns", "([IIIII)V"⟩, 3) := ⟨⟨by decide +kernel, by decide +kernel⟩, List.mem_of_getElem? (i := 185) (by decide +kernel), List.mem_of_getElem? (i := 696) (by decide +kernel), List.mem_of_getElem? (i := 697) (by decide +kernel)⟩
theorem lw_p25 : lw_okq (⟨"PickedForms$Matching", "byRanks", "([IIIII)V"⟩, 3) := ⟨⟨by decide +kernel, by decide +kernel⟩, List.mem_of_getElem? (i := 185) (by decide +kernel), List.mem_of_getElem? (i := 704) (by decide +kernel), List.mem_of_getElem? (i := 705) (by decide +kernel)⟩
theorem lw_p26 : lw_okq (⟨"PickedForms$Matching", "byValues", "([IIIII)V"⟩, 3) := ⟨⟨by decide +kernel, by decide +kernel⟩, List.mem_of_getElem? (i := 185) (by decide +kernel), List.mem_of_getElem? (i := 709) (by decide +kernel), List.mem_of_getElem? (i := 710) (by decide +kernel)⟩
theorem lw_p27 : lw_okq (⟨"PickedForms", "takeValue", "(I)V"⟩, 11) := ⟨⟨by decide +kernel, by decide +kernel⟩, List.mem_of_getElem? (i := 20) (by decide +kernel), List.mem_of_getElem? (i := 757) (by decide +kernel), List.mem_of_getElem? (i := 758) (by decide +kernel)⟩
theorem lw_p28 : lw_okq (⟨"PickedForms", "outcomeOf", "(II)I"⟩, 11) := ⟨⟨by decide +kernel, by decide +kernel⟩, List.mem_of_getElem? (i := 20) (by decide +kernel), List.mem_of_getElem? (i := 774) (by decide +kernel), List.mem_of_getElem? (i := 775) (by decide +kernel)⟩
theorem lw_p29 : lw_okq (⟨"PickedForms", "trialGrowth", "(I)I"⟩, 11) := ⟨⟨by decide +kernel, by decide +kernel⟩, List.mem_of_getElem? (i := 20) (by decide +kernel), List.mem_of_getElem? (i := 778) (by decide +kernel), List.mem_of_getElem? (i := 779) (by decide +kernel)⟩
theorem lw_p30 : lw_okq (⟨"PickedForms$Column", "moveSlot", "(II)V"⟩, 9) := ⟨⟨by decide +kernel, by decide +kernel⟩, List.mem_of_getElem? (i := 28) (by decide +kernel), List.mem_of_getElem? (i := 821) (by decide +kernel), List.mem_of_getElem? (i := 822) (by decide +kernel)⟩
def lw_privs_2 : List (MethodName × Nat) := [(⟨"PickedForms$BitRow", "encodeDeltas", "([IIILPickedForms$Shape;)V"⟩, 2), (⟨"PickedForms$BitRow", "encodeListed", "([IIILPickedForms$Shape;)V"⟩, 2), (⟨"PickedForms$BitRow", "encodePlain", "([III)V"⟩, 2), (⟨"PickedForms", "valueNumber", "(II)I"⟩, 11), (⟨"PickedForms", "looksInBlock", "(II)I"⟩, 11), (⟨"PickedForms", "splitPlace", "(I)I"⟩, 11), (⟨"PickedForms", "matchNumber", "(III)I"⟩, 11), (⟨"PickedForms$Matching", "inForm", "(LPickedForms$Column;IIII)V"⟩, 3), (⟨"PickedForms$Matching", "byRuns", "([IIIII)V"⟩, 3), (⟨"PickedForms$Matching", "byRanks", "([IIIII)V"⟩, 3), (⟨"PickedForms$Matching", "byValues", "([IIIII)V"⟩, 3), (⟨"PickedForms", "takeValue", "(I)V"⟩, 11), (⟨"PickedForms", "outcomeOf", "(II)I"⟩, 11), (⟨"PickedForms", "trialGrowth", "(I)I"⟩, 11), (⟨"PickedForms$Column", "moveSlot", "(II)V"⟩, 9)]
theorem lw_r2 : ∀ q ∈ lw_privs_2, lw_okq q := List.forall_mem_cons.mpr ⟨lw_p16, List.forall_mem_cons.mpr ⟨lw_p17, List.forall_mem_cons.mpr ⟨lw_p18, List.forall_mem_cons.mpr ⟨lw_p19, List.forall_mem_cons.mpr ⟨lw_p20, List.forall_mem_cons.mpr ⟨lw_p21, List.forall_mem_cons.mpr ⟨lw_p22, List.forall_mem_cons.mpr ⟨lw_p23, List.forall_mem_cons.mpr ⟨lw_p24, List.forall_mem_cons.mpr ⟨lw_p25, List.forall_mem_cons.mpr ⟨lw_p26, List.forall_mem_cons.mpr ⟨lw_p27, List.forall_mem_cons.mpr ⟨lw_p28, List.forall_mem_cons.mpr ⟨lw_p29, List.forall_mem_cons.mpr ⟨lw_p30, fun _ h => absurd h List.not_mem_nil⟩⟩⟩⟩⟩⟩⟩⟩⟩⟩⟩⟩⟩⟩⟩
def lw_privs : List (MethodName × Nat) := lw_privs_1 ++ (lw_privs_2)
def lw_tbl : List Cond := k2_sels lw_privs ++ tables_1
theorem lw_privs_ok : ∀ q ∈ lw_privs, lw_okq q := by
  show ∀ q ∈ lw_privs_1 ++ (lw_privs_2), lw_okq q
  exact List.forall_mem_append.mpr ⟨lw_r1, lw_r2⟩
/-- the streams that the claim lets the run draw from -/
abbrev lw_cs : List Choice := [Jvm.Choice.named "NaN.bits"]
theorem lw_bits : nanBits ∈ lw_cs := by first | decide | exact List.mem_cons_self | simp [lw_cs, nanBits]
-- ===== end of PART A; then your names; then what follows =====
def RX0 : String := "PickedForms$BitRow"
def TX0 : u_T := fun k => match k with
  | 0 => ("PickedForms$BitRow", "bits", "[I", true)
  | _ => ("PickedForms$BitRow", "length", "I", false)
def tyX0 : Nat → FieldType := fun k => match k with
  | 0 => .array .int
  | _ => .int
abbrev wsX00 : List Cond := u_ws RX0 TX0 2
theorem nmX0 : ∀ a, a < 2 → ∀ b, b < 2 → a ≠ b → (TX0 a).2.1 ≠ (TX0 b).2.1 := by decide +kernel
theorem tyX0_ok : ∀ k, k < 2 → parseFieldDescriptor (TX0 k).2.2.1 = some (tyX0 k) := by decide +kernel
def RX1 : String := "PickedForms$Column"
def TX1 : u_T := fun k => match k with
  | 0 => ("PickedForms$Column", "values", "[I", true)
  | 1 => ("PickedForms$Column", "lengths", "[I", true)
  | 2 => ("PickedForms$Column", "forms", "[I", true)
  | 3 => ("PickedForms$Column", "rooms", "[I", true)
  | 4 => ("PickedForms$Column", "settings", "[I", true)
  | 5 => ("PickedForms$Column", "total", "I", false)
  | 6 => ("PickedForms$Column", "blocks", "I", false)
  | 7 => ("PickedForms$Column", "changedInPlace", "I", false)
  | _ => ("PickedForms$Column", "writtenAnew", "I", false)
def tyX1 : Nat → FieldType := fun k => match k with
  | 0 => .array .int
  | 1 => .array .int
  | 2 => .array .int
  | 3 => .array .int
  | 4 => .array .int
  | 5 => .int
  | 6 => .int
  | 7 => .int
  | _ => .int
abbrev wsX10 : List Cond := u_ws RX1 TX1 9
theorem nmX1 : ∀ a, a < 9 → ∀ b, b < 9 → a ≠ b → (TX1 a).2.1 ≠ (TX1 b).2.1 := by decide +kernel
theorem tyX1_ok : ∀ k, k < 9 → parseFieldDescriptor (TX1 k).2.2.1 = some (tyX1 k) := by decide +kernel
def RX2 : String := "PickedForms$Floats"
def TX2 : u_T := fun k => match k with
  | _ => ("", "", "", false)
def tyX2 : Nat → FieldType := fun k => match k with
  | _ => .int
abbrev wsX20 : List Cond := u_ws RX2 TX2 0
theorem nmX2 : ∀ a, a < 0 → ∀ b, b < 0 → a ≠ b → (TX2 a).2.1 ≠ (TX2 b).2.1 := by decide +kernel
theorem tyX2_ok : ∀ k, k < 0 → parseFieldDescriptor (TX2 k).2.2.1 = some (tyX2 k) := by decide +kernel
def RX3 : String := "PickedForms$History"
def TX3 : u_T := fun k => match k with
  | 0 => ("PickedForms$History", "ring", "[LPickedForms$Column;", true)
  | 1 => ("PickedForms$History", "oldest", "I", false)
  | _ => ("PickedForms$History", "held", "I", false)
def tyX3 : Nat → FieldType := fun k => match k with
  | 0 => .array (.object "PickedForms$Column")
  | 1 => .int
  | _ => .int
abbrev wsX30 : List Cond := u_ws RX3 TX3 3
theorem nmX3 : ∀ a, a < 3 → ∀ b, b < 3 → a ≠ b → (TX3 a).2.1 ≠ (TX3 b).2.1 := by decide +kernel
theorem tyX3_ok : ∀ k, k < 3 → parseFieldDescriptor (TX3 k).2.2.1 = some (tyX3 k) := by decide +kernel
def RX4 : String := "PickedForms$Matching"
def TX4 : u_T := fun k => match k with
  | 0 => ("PickedForms$Matching", "shape", "LPickedForms$Shape;", true)
  | 1 => ("PickedForms$Matching", "hits", "I", false)
  | _ => ("PickedForms$Matching", "looks", "I", false)
def tyX4 : Nat → FieldType := fun k => match k with
  | 0 => .object "PickedForms$Shape"
  | 1 => .int
  | _ => .int
abbrev wsX40 : List Cond := u_ws RX4 TX4 3
theorem nmX4 : ∀ a, a < 3 → ∀ b, b < 3 → a ≠ b → (TX4 a).2.1 ≠ (TX4 b).2.1 := by decide +kernel
theorem tyX4_ok : ∀ k, k < 3 → parseFieldDescriptor (TX4 k).2.2.1 = some (tyX4 k) := by decide +kernel
def RX5 : String := "PickedForms$Parting"
def TX5 : u_T := fun k => match k with
  | 0 => ("PickedForms$Parting", "shape", "LPickedForms$Shape;", true)
  | 1 => ("PickedForms$Parting", "bits", "[I", true)
  | _ => ("PickedForms$Parting", "blocks", "[I", true)
def tyX5 : Nat → FieldType := fun k => match k with
  | 0 => .object "PickedForms$Shape"
  | 1 => .array .int
  | _ => .array .int
abbrev wsX50 : List Cond := u_ws RX5 TX5 3
theorem nmX5 : ∀ a, a < 3 → ∀ b, b < 3 → a ≠ b → (TX5 a).2.1 ≠ (TX5 b).2.1 := by decide +kernel
theorem tyX5_ok : ∀ k, k < 3 → parseFieldDescriptor (TX5 k).2.2.1 = some (tyX5 k) := by decide +kernel
def RX6 : String := "PickedForms$Pick"
def TX6 : u_T := fun k => match k with
  | 0 => ("PickedForms$Pick", "shape", "LPickedForms$Shape;", true)
  | 1 => ("PickedForms$Pick", "form", "I", false)
  | _ => ("PickedForms$Pick", "room", "I", false)
def tyX6 : Nat → FieldType := fun k => match k with
  | 0 => .object "PickedForms$Shape"
  | 1 => .int
  | _ => .int
abbrev wsX60 : List Cond := u_ws RX6 TX6 3
theorem nmX6 : ∀ a, a < 3 → ∀ b, b < 3 → a ≠ b → (TX6 a).2.1 ≠ (TX6 b).2.1 := by decide +kernel
theorem tyX6_ok : ∀ k, k < 3 → parseFieldDescriptor (TX6 k).2.2.1 = some (tyX6 k) := by decide +kernel
def RX7 : String := "PickedForms$Rows"
def TX7 : u_T := fun k => match k with
  | _ => ("", "", "", false)
def tyX7 : Nat → FieldType := fun k => match k with
  | _ => .int
abbrev wsX70 : List Cond := u_ws RX7 TX7 0
theorem nmX7 : ∀ a, a < 0 → ∀ b, b < 0 → a ≠ b → (TX7 a).2.1 ≠ (TX7 b).2.1 := by decide +kernel
theorem tyX7_ok : ∀ k, k < 0 → parseFieldDescriptor (TX7 k).2.2.1 = some (tyX7 k) := by decide +kernel
def RX8 : String := "PickedForms$Shape"
def TX8 : u_T := fun k => match k with
  | 0 => ("PickedForms$Shape", "unlike", "[I", true)
  | 1 => ("PickedForms$Shape", "unlikes", "I", false)
  | 2 => ("PickedForms$Shape", "count", "I", false)
  | 3 => ("PickedForms$Shape", "least", "I", false)
  | 4 => ("PickedForms$Shape", "greatest", "I", false)
  | 5 => ("PickedForms$Shape", "runs", "I", false)
  | 6 => ("PickedForms$Shape", "topStep", "I", false)
  | _ => ("PickedForms$Shape", "last", "I", false)
def tyX8 : Nat → FieldType := fun k => match k with
  | 0 => .array .int
  | 1 => .int
  | 2 => .int
  | 3 => .int
  | 4 => .int
  | 5 => .int
  | 6 => .int
  | _ => .int
abbrev wsX80 : List Cond := u_ws RX8 TX8 8
theorem nmX8 : ∀ a, a < 8 → ∀ b, b < 8 → a ≠ b → (TX8 a).2.1 ≠ (TX8 b).2.1 := by decide +kernel
theorem tyX8_ok : ∀ k, k < 8 → parseFieldDescriptor (TX8 k).2.2.1 = some (tyX8 k) := by decide +kernel
def RX9 : String := "PickedForms$Text"
def TX9 : u_T := fun k => match k with
  | 0 => ("PickedForms$Text", "codes", "[I", true)
  | 1 => ("PickedForms$Text", "length", "I", false)
  | 2 => ("PickedForms$Text", "partValues", "[I", true)
  | 3 => ("PickedForms$Text", "partTimes", "[I", true)
  | _ => ("PickedForms$Text", "parts", "I", false)
def tyX9 : Nat → FieldType := fun k => match k with
  | 0 => .array .int
  | 1 => .int
  | 2 => .array .int
  | 3 => .array .int
  | _ => .int
abbrev wsX90 : List Cond := u_ws RX9 TX9 5
theorem nmX9 : ∀ a, a < 5 → ∀ b, b < 5 → a ≠ b → (TX9 a).2.1 ≠ (TX9 b).2.1 := by decide +kernel
theorem tyX9_ok : ∀ k, k < 5 → parseFieldDescriptor (TX9 k).2.2.1 = some (tyX9 k) := by decide +kernel
def RX10 : String := "PickedForms"
def TX10 : u_T := fun k => match k with
  | 0 => ("PickedForms", "column", "LPickedForms$Column;", true)
  | 1 => ("PickedForms", "snapshot", "LPickedForms$Column;", true)
  | 2 => ("PickedForms", "hasSnapshot", "Z", false)
  | 3 => ("PickedForms", "history", "LPickedForms$History;", true)
  | 4 => ("PickedForms", "text", "LPickedForms$Text;", true)
  | 5 => ("PickedForms", "shape", "LPickedForms$Shape;", true)
  | 6 => ("PickedForms", "pick", "LPickedForms$Pick;", true)
  | 7 => ("PickedForms", "matching", "LPickedForms$Matching;", true)
  | 8 => ("PickedForms", "parting", "LPickedForms$Parting;", true)
  | 9 => ("PickedForms", "bitRow", "LPickedForms$BitRow;", true)
  | _ => ("PickedForms", "trial", "[I", true)
def tyX10 : Nat → FieldType := fun k => match k with
  | 0 => .object "PickedForms$Column"
  | 1 => .object "PickedForms$Column"
  | 2 => .boolean
  | 3 => .object "PickedForms$History"
  | 4 => .object "PickedForms$Text"
  | 5 => .object "PickedForms$Shape"
  | 6 => .object "PickedForms$Pick"
  | 7 => .object "PickedForms$Matching"
  | 8 => .object "PickedForms$Parting"
  | 9 => .object "PickedForms$BitRow"
  | _ => .array .int
abbrev wsX100 : List Cond := u_ws RX10 TX10 11
theorem nmX10 : ∀ a, a < 11 → ∀ b, b < 11 → a ≠ b → (TX10 a).2.1 ≠ (TX10 b).2.1 := by decide +kernel
theorem tyX10_ok : ∀ k, k < 11 → parseFieldDescriptor (TX10 k).2.2.1 = some (tyX10 k) := by decide +kernel
def RX11 : String := "PickedFormsModel"
def TX11 : u_T := fun k => match k with
  | _ => ("", "", "", false)
def tyX11 : Nat → FieldType := fun k => match k with
  | _ => .int
abbrev wsX110 : List Cond := u_ws RX11 TX11 0
theorem nmX11 : ∀ a, a < 0 → ∀ b, b < 0 → a ≠ b → (TX11 a).2.1 ≠ (TX11 b).2.1 := by decide +kernel
theorem tyX11_ok : ∀ k, k < 0 → parseFieldDescriptor (TX11 k).2.2.1 = some (tyX11 k) := by decide +kernel
abbrev vwCl : List vw_C := [(RX0, TX0, 2), (RX1, TX1, 9), (RX3, TX3, 3), (RX4, TX4, 3), (RX5, TX5, 3), (RX6, TX6, 3), (RX8, TX8, 8), (RX9, TX9, 5), (RX10, TX10, 11)]
theorem mj_in0 : ∀ w ∈ u_ws RX0 TX0 2, w ∈ lw_tbl := by decide +kernel
theorem mj_in1 : ∀ w ∈ u_ws RX1 TX1 9, w ∈ lw_tbl := by decide +kernel
theorem mj_in2 : ∀ w ∈ u_ws RX3 TX3 3, w ∈ lw_tbl := by decide +kernel
theorem mj_in3 : ∀ w ∈ u_ws RX4 TX4 3, w ∈ lw_tbl := by decide +kernel
theorem mj_in4 : ∀ w ∈ u_ws RX5 TX5 3, w ∈ lw_tbl := by decide +kernel
theorem mj_in5 : ∀ w ∈ u_ws RX6 TX6 3, w ∈ lw_tbl := by decide +kernel
theorem mj_in6 : ∀ w ∈ u_ws RX8 TX8 8, w ∈ lw_tbl := by decide +kernel
theorem mj_in7 : ∀ w ∈ u_ws RX9 TX9 5, w ∈ lw_tbl := by decide +kernel
theorem mj_in8 : ∀ w ∈ u_ws RX10 TX10 11, w ∈ lw_tbl := by decide +kernel
/-! the mini machine's tables, by program out of tables_1 and the decode rows: owners, methods, call sites, fields, classes made, constants, exceptions, handlers, texts -/
def mj_ON : List String := ["PickedFormsLaw", "PickedForms", "PickedForms$BitRow", "PickedForms$Column", "PickedForms$History", "PickedForms$Matching", "PickedForms$Parting", "PickedForms$Pick", "PickedForms$Rows", "PickedForms$Shape", "PickedForms$Text"]
def mj_E : List String := ["java/lang/IllegalArgumentException", "java/lang/IllegalStateException", "java/lang/IndexOutOfBoundsException"]
def mj_mO : List Nat := [0, 1, 3, 4, 10, 9, 7, 5, 6, 2, 1, 3, 4, 4, 3, 8, 3, 8, 1, 3, 3, 7, 9, 9, 8, 9, 9, 9, 8, 8, 1, 1, 1, 3, 1, 1, 3, 1, 3, 1,
  1, 9, 3, 3, 1, 6, 6, 6, 6, 6, 6, 6, 1, 1, 0, 0, 1, 1, 0, 1, 0, 1, 1, 1, 2, 2, 2, 2, 2, 2, 9, 2, 1, 3, 1, 3, 1, 1, 1, 0,
  0, 1, 1, 1, 5, 5, 5, 5, 5, 5, 5, 5, 0, 0, 0, 1, 3, 1, 3, 0, 1, 1, 1, 1, 1, 0, 1, 0, 1, 0, 1, 3, 3, 0, 1, 3, 1, 4, 1, 3]
def mj_mY : List MethodName := [⟨"PickedFormsLaw", "law", "([I)Z"⟩, ⟨"PickedForms", "<init>", "()V"⟩, ⟨"PickedForms$Column", "<init>", "()V"⟩,
  ⟨"PickedForms$History", "<init>", "()V"⟩, ⟨"PickedForms$Text", "<init>", "()V"⟩, ⟨"PickedForms$Shape", "<init>", "()V"⟩,
  ⟨"PickedForms$Pick", "<init>", "()V"⟩, ⟨"PickedForms$Matching", "<init>", "()V"⟩, ⟨"PickedForms$Parting", "<init>", "()V"⟩,
  ⟨"PickedForms$BitRow", "<init>", "()V"⟩, ⟨"PickedForms", "anew", "(I)I"⟩, ⟨"PickedForms$Column", "hasBlock", "(I)Z"⟩,
  ⟨"PickedForms$History", "push", "(LPickedForms$Column;)V"⟩, ⟨"PickedForms$History", "slotAt", "(I)LPickedForms$Column;"⟩, ⟨"PickedForms$Column", "copyFrom", "(LPickedForms$Column;)V"⟩,
  ⟨"PickedForms$Rows", "copy", "([I[I)V"⟩, ⟨"PickedForms$Column", "roomOf", "(I)I"⟩, ⟨"PickedForms$Rows", "at", "([II)I"⟩,
  ⟨"PickedForms", "writeAnew", "(I)V"⟩, ⟨"PickedForms$Column", "startOf", "(I)I"⟩, ⟨"PickedForms$Column", "lengthOf", "(I)I"⟩,
  ⟨"PickedForms$Pick", "choose", "([III[I)V"⟩, ⟨"PickedForms$Shape", "clear", "()V"⟩, ⟨"PickedForms$Shape", "add", "(I)V"⟩,
  ⟨"PickedForms$Rows", "step", "(II)I"⟩, ⟨"PickedForms$Shape", "addUnlike", "(I)V"⟩, ⟨"PickedForms$Shape", "lightestForm", "(I)I"⟩,
  ⟨"PickedForms$Shape", "bitsIn", "(I)I"⟩, ⟨"PickedForms$Rows", "width", "(I)I"⟩, ⟨"PickedForms$Rows", "put", "([III)V"⟩,
  ⟨"PickedForms", "set", "(II)I"⟩, ⟨"PickedForms", "isSetting", "(I)Z"⟩, ⟨"PickedForms", "isSettingValue", "(II)Z"⟩,
  ⟨"PickedForms$Column", "settingOf", "(I)I"⟩, ⟨"PickedForms", "count", "(I)I"⟩, ⟨"PickedForms", "countNumber", "(I)I"⟩,
  ⟨"PickedForms$Column", "tailLength", "()I"⟩, ⟨"PickedForms", "weight", "()I"⟩, ⟨"PickedForms$Column", "roomSum", "()I"⟩,
  ⟨"PickedForms", "usedBits", "()I"⟩, ⟨"PickedForms", "readShape", "(I)V"⟩, ⟨"PickedForms$Shape", "read", "([III)V"⟩,
  ⟨"PickedForms$Column", "formOf", "(I)I"⟩, ⟨"PickedForms$Column", "sum", "()I"⟩, ⟨"PickedForms", "least", "(I)I"⟩,
  ⟨"PickedForms$Parting", "bitsFromLast", "(LPickedForms$Column;)I"⟩, ⟨"PickedForms$Parting", "forget", "(II)V"⟩, ⟨"PickedForms$Parting", "blockBits", "(I)I"⟩,
  ⟨"PickedForms$Parting", "offer", "(III)V"⟩, ⟨"PickedForms$Parting", "readFromFirst", "(LPickedForms$Column;)V"⟩, ⟨"PickedForms$Parting", "bitsFromFirst", "(LPickedForms$Column;)I"⟩,
  ⟨"PickedForms$Parting", "blocksFromFirst", "(LPickedForms$Column;)I"⟩, ⟨"PickedForms", "sizeShare", "()D"⟩, ⟨"PickedForms", "meanBits", "()F"⟩,
  ⟨"PickedFormsLaw", "cell", "([II)I"⟩, ⟨"PickedFormsLaw", "holds", "(LPickedForms;I)Z"⟩, ⟨"PickedForms", "block", "(II)I"⟩,
  ⟨"PickedForms", "blockNumber", "(II)I"⟩, ⟨"PickedFormsLaw", "isBlock", "(LPickedForms;I)Z"⟩, ⟨"PickedForms", "size", "(II)I"⟩,
  ⟨"PickedFormsLaw", "isAllowed", "(LPickedForms;I)Z"⟩, ⟨"PickedForms", "setting", "(I)I"⟩, ⟨"PickedForms", "bit", "(II)I"⟩,
  ⟨"PickedForms", "readBits", "(I)V"⟩, ⟨"PickedForms$BitRow", "encode", "(LPickedForms$Column;ILPickedForms$Shape;)V"⟩, ⟨"PickedForms$BitRow", "encodePacked", "([IIILPickedForms$Shape;)V"⟩,
  ⟨"PickedForms$BitRow", "field", "(II)V"⟩, ⟨"PickedForms$BitRow", "encodeRuns", "([III)V"⟩, ⟨"PickedForms$BitRow", "encodeDeltas", "([IIILPickedForms$Shape;)V"⟩,
  ⟨"PickedForms$BitRow", "encodeListed", "([IIILPickedForms$Shape;)V"⟩, ⟨"PickedForms$Shape", "rankOf", "(I)I"⟩, ⟨"PickedForms$BitRow", "encodePlain", "([III)V"⟩,
  ⟨"PickedForms", "value", "(II)I"⟩, ⟨"PickedForms$Column", "hasIndex", "(I)Z"⟩, ⟨"PickedForms", "valueNumber", "(II)I"⟩,
  ⟨"PickedForms$Column", "blockOf", "(I)I"⟩, ⟨"PickedForms", "looksInBlock", "(II)I"⟩, ⟨"PickedForms", "bestSplit", "(I)I"⟩,
  ⟨"PickedForms", "splitPlace", "(I)I"⟩, ⟨"PickedFormsLaw", "low", "(II)I"⟩, ⟨"PickedFormsLaw", "isMatch", "(LPickedForms;II)Z"⟩,
  ⟨"PickedForms", "match", "(III)I"⟩, ⟨"PickedForms", "isValue", "(I)Z"⟩, ⟨"PickedForms", "matchNumber", "(III)I"⟩,
  ⟨"PickedForms$Matching", "onForms", "(LPickedForms$Column;II)V"⟩, ⟨"PickedForms$Matching", "inForm", "(LPickedForms$Column;IIII)V"⟩, ⟨"PickedForms$Matching", "byRuns", "([IIIII)V"⟩,
  ⟨"PickedForms$Matching", "isWithin", "(III)Z"⟩, ⟨"PickedForms$Matching", "byRanks", "([IIIII)V"⟩, ⟨"PickedForms$Matching", "byValues", "([IIIII)V"⟩,
  ⟨"PickedForms$Matching", "hitsByReading", "(LPickedForms$Column;II)I"⟩, ⟨"PickedForms$Matching", "firstHit", "(LPickedForms$Column;II)I"⟩, ⟨"PickedFormsLaw", "act", "(LPickedForms;II)Z"⟩,
  ⟨"PickedFormsLaw", "writes", "(LPickedForms;I)Z"⟩, ⟨"PickedFormsLaw", "value", "(I)I"⟩, ⟨"PickedForms", "write", "(I)I"⟩,
  ⟨"PickedForms$Column", "canTake", "()Z"⟩, ⟨"PickedForms", "takeValue", "(I)V"⟩, ⟨"PickedForms$Column", "makeTailBlock", "()V"⟩,
  ⟨"PickedFormsLaw", "changes", "(LPickedForms;II)Z"⟩, ⟨"PickedForms", "ifChanged", "(III)I"⟩, ⟨"PickedForms", "outcomeOf", "(II)I"⟩,
  ⟨"PickedForms", "trialGrowth", "(I)I"⟩, ⟨"PickedForms", "change", "(II)I"⟩, ⟨"PickedForms", "close", "()I"⟩,
  ⟨"PickedFormsLaw", "isAnew", "(LPickedForms;I)Z"⟩, ⟨"PickedForms", "keep", "()I"⟩, ⟨"PickedFormsLaw", "column", "(LPickedForms;)J"⟩,
  ⟨"PickedForms", "goBack", "()I"⟩, ⟨"PickedFormsLaw", "blocks", "(LPickedForms;III)Z"⟩, ⟨"PickedForms", "join", "(I)I"⟩,
  ⟨"PickedForms$Column", "closeSlot", "(I)V"⟩, ⟨"PickedForms$Column", "moveSlot", "(II)V"⟩, ⟨"PickedFormsLaw", "splits", "(LPickedForms;II)Z"⟩,
  ⟨"PickedForms", "split", "(II)I"⟩, ⟨"PickedForms$Column", "openSlot", "(I)V"⟩, ⟨"PickedForms", "undo", "()I"⟩,
  ⟨"PickedForms$History", "popInto", "(LPickedForms$Column;)V"⟩, ⟨"PickedForms", "drop", "(I)I"⟩, ⟨"PickedForms$Column", "removeValues", "(II)V"⟩]
def mj_mB : List ByteArray := [code, prog_1_method_1_code, prog_3_method_1_code, prog_5_method_1_code, prog_11_method_1_code, prog_10_method_1_code,
  prog_8_method_1_code, prog_6_method_1_code, prog_7_method_1_code, prog_2_method_1_code, prog_1_method_5_code, prog_3_method_4_code,
  prog_5_method_2_code, prog_5_method_4_code, prog_3_method_2_code, prog_9_method_4_code, prog_3_method_7_code, prog_9_method_2_code,
  prog_1_method_34_code, prog_3_method_9_code, prog_3_method_5_code, prog_8_method_2_code, prog_10_method_2_code, prog_10_method_4_code,
  prog_9_method_6_code, prog_10_method_5_code, prog_10_method_8_code, prog_10_method_7_code, prog_9_method_5_code, prog_9_method_3_code,
  prog_1_method_9_code, prog_1_method_31_code, prog_1_method_32_code, prog_3_method_8_code, prog_1_method_21_code, prog_1_method_43_code,
  prog_3_method_11_code, prog_1_method_44_code, prog_3_method_13_code, prog_1_method_45_code, prog_1_method_38_code, prog_10_method_3_code,
  prog_3_method_6_code, prog_3_method_14_code, prog_1_method_26_code, prog_7_method_5_code, prog_7_method_6_code, prog_7_method_7_code,
  prog_7_method_8_code, prog_7_method_2_code, prog_7_method_3_code, prog_7_method_4_code, prog_1_method_27_code, prog_1_method_28_code,
  method_2_code, method_7_code, prog_1_method_18_code, prog_1_method_42_code, method_5_code, prog_1_method_19_code,
  method_4_code, prog_1_method_22_code, prog_1_method_20_code, prog_1_method_39_code, prog_2_method_2_code, prog_2_method_4_code,
  prog_2_method_8_code, prog_2_method_5_code, prog_2_method_6_code, prog_2_method_7_code, prog_10_method_6_code, prog_2_method_3_code,
  prog_1_method_17_code, prog_3_method_3_code, prog_1_method_40_code, prog_3_method_10_code, prog_1_method_41_code, prog_1_method_25_code,
  prog_1_method_37_code, method_3_code, method_6_code, prog_1_method_23_code, prog_1_method_30_code, prog_1_method_46_code,
  prog_6_method_2_code, prog_6_method_3_code, prog_6_method_5_code, prog_6_method_9_code, prog_6_method_6_code, prog_6_method_4_code,
  prog_6_method_7_code, prog_6_method_8_code, method_15_code, method_9_code, method_8_code, prog_1_method_2_code,
  prog_3_method_12_code, prog_1_method_33_code, prog_3_method_16_code, method_10_code, prog_1_method_24_code, prog_1_method_35_code,
  prog_1_method_36_code, prog_1_method_4_code, prog_1_method_3_code, method_11_code, prog_1_method_14_code, method_12_code,
  prog_1_method_15_code, method_14_code, prog_1_method_6_code, prog_3_method_18_code, prog_3_method_19_code, method_13_code,
  prog_1_method_7_code, prog_3_method_17_code, prog_1_method_16_code, prog_5_method_3_code, prog_1_method_8_code, prog_3_method_15_code]
def mj_mL : List Nat := [5, 1, 1, 2, 1, 1, 1, 1, 1, 1, 3, 2, 3, 3, 2, 2, 2, 2, 2, 4, 2, 7, 1, 2, 3, 4, 6, 2, 3, 3, 4, 1, 2, 2, 2, 2, 1, 1, 3, 3,
  2, 5, 2, 3, 2, 6, 4, 2, 5, 6, 2, 2, 1, 1, 2, 9, 3, 3, 7, 3, 2, 2, 3, 2, 7, 7, 4, 7, 7, 7, 4, 5, 3, 2, 5, 4, 3, 2, 8, 2,
  7, 4, 1, 4, 7, 7, 8, 3, 10, 7, 6, 5, 9, 9, 1, 2, 1, 2, 2, 11, 5, 7, 2, 4, 1, 4, 1, 4, 1, 12, 3, 3, 3, 13, 5, 3, 1, 3, 3, 4]
def mj_mR : List (Option FieldType) := [(some .boolean), none, none, none, none, none, none, none, none, none, (some .int), (some .boolean),
  none, (some (.object "PickedForms$Column")), none, none, (some .int), (some .int), none, (some .int), (some .int), none, none, none,
  (some .int), none, (some .int), (some .int), (some .int), none, (some .int), (some .boolean), (some .boolean), (some .int), (some .int), (some .int),
  (some .int), (some .int), (some .int), (some .int), none, none, (some .int), (some .int), (some .int), (some .int), none, (some .int),
  none, none, (some .int), (some .int), (some .double), (some .float), (some .int), (some .boolean), (some .int), (some .int), (some .boolean), (some .int),
  (some .boolean), (some .int), (some .int), none, none, none, none, none, none, none, (some .int), none,
  (some .int), (some .boolean), (some .int), (some .int), (some .int), (some .int), (some .int), (some .int), (some .boolean), (some .int), (some .boolean), (some .int),
  none, none, none, (some .boolean), none, none, (some .int), (some .int), (some .boolean), (some .boolean), (some .int), (some .int),
  (some .boolean), none, none, (some .boolean), (some .int), (some .int), (some .int), (some .int), (some .int), (some .boolean), (some .int), (some .long),
  (some .int), (some .boolean), (some .int), none, none, (some .boolean), (some .int), none, (some .int), none, (some .int), none]
def mj_mH : List (List (Nat × Nat × Nat × Nat)) := [[], [], [], [], [], [], [], [], [], [], [], [],
  [], [], [], [], [], [], [], [], [], [], [], [],
  [], [], [], [], [], [], [], [], [], [], [], [],
  [], [], [], [], [], [], [], [], [], [], [], [],
  [], [], [], [], [], [], [], [], [], [], [], [],
  [], [], [], [], [], [], [], [], [], [], [], [],
  [], [], [], [], [], [], [], [], [], [], [], [],
  [], [], [], [], [], [], [], [], [], [], [], [],
  [], [], [], [], [], [], [], [], [], [], [], [],
  [], [], [], [], [], [], [], [], [], [], [], []]
def mj_mN : List Nat := [1, 1, 1, 1, 1, 1, 1, 1, 1, 1, 2, 2, 2, 2, 2, 2, 2, 2, 2, 2, 2, 5, 1, 2, 2, 2, 2, 2, 1, 3, 3, 1, 2, 2, 2, 2, 1, 1, 1, 1,
  2, 4, 2, 1, 2, 2, 3, 2, 4, 2, 2, 2, 1, 1, 2, 2, 3, 3, 2, 3, 2, 2, 3, 2, 4, 5, 3, 4, 5, 5, 2, 4, 3, 2, 3, 2, 3, 2, 2, 2,
  3, 4, 1, 4, 4, 6, 6, 3, 6, 6, 4, 4, 3, 2, 1, 2, 1, 2, 1, 3, 4, 3, 2, 3, 1, 2, 1, 1, 1, 4, 2, 2, 3, 3, 3, 2, 1, 2, 2, 3]
def mj_mC : List Nat := [99, 8, 1, 2, 7, 6, 5, 3, 4, 0, 8, 1, 2, 2, 1, 99, 1, 99, 8, 1, 1, 5, 6, 6, 99, 6, 6, 6, 99, 99, 8, 8, 8, 1, 8, 8, 1, 8, 1, 8,
  8, 6, 1, 1, 8, 4, 4, 4, 4, 4, 4, 4, 8, 8, 99, 99, 8, 8, 99, 8, 99, 8, 8, 8, 0, 0, 0, 0, 0, 0, 6, 0, 8, 1, 8, 1, 8, 8, 8, 99,
  99, 8, 8, 8, 3, 3, 3, 3, 3, 3, 3, 3, 99, 99, 99, 8, 1, 8, 1, 99, 8, 8, 8, 8, 8, 99, 8, 99, 8, 99, 8, 1, 1, 99, 8, 1, 8, 2, 8, 1]
def mj_mF : List Nat := [13, 3, 1, 2, 1, 1, 2, 2, 2, 1, 6, 0, 3, 0, 2, 1, 1, 0, 4, 1, 1, 3, 0, 1, 0, 0, 2, 1, 0, 0, 6, 0, 0, 1, 6, 5, 2, 3, 1, 4,
  3, 2, 1, 1, 6, 4, 1, 3, 1, 4, 1, 1, 4, 4, 0, 9, 6, 4, 8, 6, 7, 6, 6, 4, 3, 2, 1, 2, 2, 2, 1, 2, 6, 0, 4, 1, 3, 6, 4, 0,
  7, 6, 0, 5, 4, 3, 1, 0, 2, 1, 1, 1, 11, 7, 1, 6, 3, 5, 3, 7, 6, 3, 4, 6, 6, 8, 3, 7, 6, 10, 6, 2, 1, 9, 6, 2, 6, 3, 6, 1]
def mj_mW : List Nat := [488, 61, 20, 40, 20, 20, 40, 40, 40, 20, 115, 0, 68, 0, 47, 26, 21, 0, 94, 21, 21, 68, 0, 26, 0, 0, 43, 22, 0, 0, 100, 0, 0, 21, 135, 114, 44, 64, 21, 92,
  71, 47, 21, 21, 114, 89, 22, 68, 22, 89, 21, 21, 84, 84, 0, 197, 116, 94, 142, 100, 121, 100, 118, 97, 71, 45, 22, 45, 45, 45, 21, 45, 117, 0, 93, 21, 71, 121, 94, 0,
  171, 148, 0, 125, 99, 73, 22, 0, 44, 22, 22, 22, 242, 157, 21, 136, 64, 115, 64, 156, 115, 71, 94, 115, 115, 142, 68, 156, 100, 211, 115, 44, 22, 179, 115, 44, 100, 68, 100, 22]
/-- owner, entry, kind (0 virtual, 1 static, 2 <init>, 3 <init> of a nest mate, 4 Object.<init>, 5 arraycopy, 6 Math.max, 7 Math.min), method -/
def mj_call : List (Nat × Nat × Nat × Nat) := [(0, 123, 2, 1), (0, 124, 1, 55), (0, 48, 0, 52), (0, 127, 0, 53), (0, 131, 1, 54), (0, 135, 1, 92), (0, 110, 0, 30), (0, 38, 0, 34), (0, 89, 0, 10), (0, 59, 0, 44), (1, 3, 4, 0), (1, 11, 3, 2),
  (1, 25, 2, 3), (1, 32, 3, 4), (1, 39, 3, 5), (1, 46, 3, 6), (1, 53, 3, 7), (1, 60, 3, 8), (1, 67, 3, 9), (3, 3, 4, 0), (4, 3, 4, 0), (4, 24, 3, 2), (10, 3, 4, 0), (9, 3, 4, 0),
  (7, 3, 4, 0), (7, 11, 3, 5), (5, 3, 4, 0), (5, 11, 3, 5), (6, 3, 4, 0), (6, 11, 3, 5), (2, 3, 4, 0), (1, 154, 0, 11), (1, 96, 0, 12), (1, 159, 0, 16), (1, 120, 0, 18), (4, 25, 0, 13),
  (4, 29, 0, 14), (3, 40, 1, 15), (8, 7, 7, 0), (8, 13, 5, 0), (3, 46, 1, 17), (1, 182, 0, 19), (1, 164, 0, 20), (1, 360, 0, 21), (1, 142, 1, 29), (7, 25, 1, 17), (7, 31, 7, 0), (7, 37, 0, 22),
  (7, 40, 0, 23), (7, 44, 0, 26), (7, 48, 0, 27), (9, 50, 1, 24), (9, 54, 6, 0), (9, 59, 0, 25), (9, 66, 0, 27), (9, 62, 1, 28), (1, 189, 1, 31), (1, 194, 1, 32), (1, 200, 0, 33), (1, 282, 0, 35),
  (1, 108, 0, 36), (1, 314, 0, 37), (1, 401, 0, 38), (1, 404, 0, 39), (1, 407, 0, 43), (3, 50, 0, 19), (1, 265, 0, 40), (1, 123, 0, 42), (1, 268, 0, 27), (1, 379, 0, 41), (9, 37, 0, 22), (9, 40, 1, 17),
  (9, 46, 0, 23), (1, 301, 0, 45), (1, 305, 0, 49), (1, 308, 0, 50), (1, 311, 0, 51), (6, 25, 0, 33), (6, 35, 0, 46), (6, 39, 7, 0), (6, 45, 0, 22), (6, 51, 1, 17), (6, 57, 0, 23), (6, 61, 0, 47),
  (6, 64, 0, 48), (6, 69, 1, 29), (6, 73, 0, 26), (6, 76, 0, 27), (0, 16, 0, 56), (0, 45, 1, 58), (0, 32, 0, 72), (0, 52, 1, 79), (0, 55, 1, 80), (0, 41, 0, 81), (1, 260, 0, 57), (0, 20, 0, 59),
  (0, 23, 1, 60), (0, 29, 0, 62), (0, 35, 0, 77), (0, 10, 0, 61), (1, 273, 0, 63), (1, 233, 1, 17), (1, 382, 0, 64), (2, 24, 0, 19), (2, 28, 0, 20), (2, 31, 0, 42), (2, 34, 0, 65), (2, 38, 0, 67),
  (2, 42, 0, 68), (2, 45, 0, 69), (2, 48, 0, 71), (2, 69, 1, 28), (2, 57, 0, 66), (2, 51, 1, 17), (2, 88, 1, 29), (2, 75, 1, 24), (2, 85, 0, 70), (1, 127, 0, 73), (1, 255, 0, 74), (1, 151, 0, 75),
  (1, 386, 0, 76), (1, 296, 0, 78), (1, 76, 1, 82), (1, 287, 0, 83), (1, 410, 0, 84), (1, 417, 0, 90), (1, 424, 0, 91), (5, 30, 0, 20), (5, 38, 0, 41), (5, 51, 0, 85), (5, 58, 0, 89), (5, 62, 0, 42),
  (5, 65, 0, 86), (5, 68, 0, 88), (5, 71, 1, 17), (5, 77, 1, 87), (5, 87, 0, 70), (0, 101, 1, 93), (0, 62, 1, 94), (0, 104, 1, 99), (0, 107, 0, 104), (0, 82, 1, 105), (0, 113, 0, 106), (0, 75, 1, 107),
  (0, 116, 0, 108), (0, 119, 1, 109), (0, 64, 0, 95), (1, 87, 0, 96), (1, 100, 0, 97), (3, 54, 0, 36), (3, 58, 0, 33), (1, 117, 0, 98), (3, 61, 1, 29), (0, 67, 0, 100), (0, 70, 0, 103), (1, 135, 0, 101),
  (1, 293, 0, 102), (1, 240, 0, 14), (0, 92, 0, 110), (0, 95, 1, 113), (0, 98, 0, 118), (1, 169, 0, 111), (3, 65, 0, 112), (0, 79, 0, 114), (0, 85, 0, 116), (1, 179, 0, 115), (1, 250, 0, 117), (1, 185, 0, 119)]
/-- owner, entry, class, field -/
def mj_fld : List (Nat × Nat × Nat × Nat) := [(3, 9, 1, 0), (2, 19, 1, 0), (5, 34, 1, 0), (6, 48, 1, 0), (1, 139, 1, 0), (3, 15, 1, 1), (1, 172, 1, 1), (3, 18, 1, 2), (1, 364, 1, 2), (3, 21, 1, 3), (1, 370, 1, 3), (3, 24, 1, 4),
  (1, 203, 1, 4), (3, 27, 1, 5), (6, 31, 1, 5), (1, 104, 1, 5), (5, 55, 1, 5), (3, 31, 1, 6), (5, 25, 1, 6), (1, 112, 1, 6), (3, 34, 1, 7), (1, 148, 1, 7), (3, 37, 1, 8), (1, 376, 1, 8),
  (4, 11, 2, 0), (4, 17, 2, 1), (4, 21, 2, 2), (1, 245, 2, 2), (10, 9, 7, 0), (10, 15, 7, 1), (10, 19, 7, 2), (10, 22, 7, 3), (10, 25, 7, 4), (9, 9, 6, 0), (5, 84, 6, 0), (2, 82, 6, 0),
  (9, 15, 6, 1), (5, 81, 6, 1), (2, 79, 6, 1), (1, 398, 6, 1), (9, 19, 6, 2), (5, 48, 6, 2), (9, 22, 6, 3), (5, 42, 6, 3), (2, 66, 6, 3), (1, 392, 6, 3), (9, 25, 6, 4), (5, 45, 6, 4),
  (2, 61, 6, 4), (1, 395, 6, 4), (9, 28, 6, 5), (1, 389, 6, 5), (9, 31, 6, 6), (2, 72, 6, 6), (9, 34, 6, 7), (7, 12, 5, 0), (7, 18, 5, 1), (1, 367, 5, 1), (7, 22, 5, 2), (1, 373, 5, 2),
  (5, 12, 3, 0), (5, 18, 3, 1), (1, 414, 3, 1), (5, 22, 3, 2), (1, 421, 3, 2), (6, 12, 4, 0), (6, 18, 4, 1), (6, 22, 4, 2), (2, 9, 0, 0), (1, 277, 0, 0), (2, 15, 0, 1), (1, 276, 0, 1),
  (1, 12, 8, 0), (1, 16, 8, 1), (1, 19, 8, 2), (1, 26, 8, 3), (1, 33, 8, 4), (1, 40, 8, 5), (1, 47, 8, 6), (1, 54, 8, 7), (1, 61, 8, 8), (1, 68, 8, 9), (1, 72, 8, 10)]
/-- owner, entry, class -/
def mj_cls : List (Nat × Nat × Nat) := [(0, 11, 8), (1, 9, 1), (1, 23, 2), (4, 9, 1), (1, 30, 7), (1, 37, 6), (1, 44, 5), (7, 9, 6), (1, 51, 3), (5, 9, 6), (1, 58, 4), (6, 9, 6),
  (1, 65, 0)]
/-- owner, entry, constant -/
def mj_kst : List (Nat × Nat × Value) := [(6, 68, .int 1000000), (1, 317, .double 4621819117588971520), (0, 7, .int 901371873), (0, 8, .int 746844583), (0, 9, .int 2147483647), (0, 73, .long 31)]
/-- owner, entry, exception, its <init>'s entry -/
def mj_exc : List (Nat × Nat × Nat × Nat) := [(1, 130, 2, 134), (1, 80, 0, 84), (1, 91, 1, 95)]
/-- owner, entry, exception that is caught -/
def mj_hdl : List (Nat × Nat × Nat) := []
/-- owner, entry, text -/
def mj_str : List (Nat × Nat × String) := [(1, 157, "there is no such block"), (1, 192, "there is no such setting"), (1, 198, "the setting cannot have this value"),
  (1, 280, "what is not 0 to 8"), (1, 299, "what is not 0 to 2"), (1, 258, "what is not 0 to 9"),
  (1, 263, "the form is not 0 to 4"), (1, 271, "the index is below 0"), (1, 132, "there is no such value"),
  (1, 253, "what is not 0 to 3"), (1, 285, "an argument is out of range"), (1, 82, "the value is not 0 to 999"),
  (1, 93, "the tail would be closed, and there are 12 blocks"), (1, 291, "value or what is out of range"), (1, 115, "the tail is empty, or there are 12 blocks"),
  (1, 243, "there is no snapshot"), (1, 162, "there is no such block, or none behind it"), (1, 167, "both have more than 16 values together"),
  (1, 175, "there is no such block or place"), (1, 177, "there are 12 blocks"), (1, 248, "there is no saved state")]
/-! the words behind the tables, by their places -/
