section
-- ===== PART A: goes FIRST, ahead of the names: the tables' words, and 'selects' of the private methods out of them =====
/-- a private method of a class that the tables say can be made, by its rows of tables_1 -/
def lw_okq (q : MethodName × Nat) : Prop := (q.1.cls ≠ "java/lang/invoke/MethodHandle" ∧ q.1.cls ≠ "java/lang/invoke/VarHandle") ∧ Cond.instantiable q.1.cls q.2 ∈ tables_1 ∧ Cond.privateMethod q.1 ∈ tables_1 ∧ Cond.instanceMethod q.1 ∈ tables_1
theorem lw_p0 : lw_okq (⟨"GhostRooms$Text", "isDigitAt", "(I)Z"⟩, 6) := ⟨⟨by decide +kernel, by decide +kernel⟩, List.mem_of_getElem? (i := 29) (by decide +kernel), List.mem_of_getElem? (i := 276) (by decide +kernel), List.mem_of_getElem? (i := 277) (by decide +kernel)⟩
theorem lw_p1 : lw_okq (⟨"GhostRooms$Text", "takeNumber", "()V"⟩, 6) := ⟨⟨by decide +kernel, by decide +kernel⟩, List.mem_of_getElem? (i := 29) (by decide +kernel), List.mem_of_getElem? (i := 280) (by decide +kernel), List.mem_of_getElem? (i := 281) (by decide +kernel)⟩
theorem lw_p2 : lw_okq (⟨"GhostRooms$Reader", "readItem", "(LGhostRooms$House;)Z"⟩, 2) := ⟨⟨by decide +kernel, by decide +kernel⟩, List.mem_of_getElem? (i := 23) (by decide +kernel), List.mem_of_getElem? (i := 284) (by decide +kernel), List.mem_of_getElem? (i := 285) (by decide +kernel)⟩
theorem lw_p3 : lw_okq (⟨"GhostRooms$Reader", "fits", "(IIILGhostRooms$House;)Z"⟩, 2) := ⟨⟨by decide +kernel, by decide +kernel⟩, List.mem_of_getElem? (i := 23) (by decide +kernel), List.mem_of_getElem? (i := 294) (by decide +kernel), List.mem_of_getElem? (i := 295) (by decide +kernel)⟩
theorem lw_p4 : lw_okq (⟨"GhostRooms$Reader", "tell", "(ILGhostRooms$House;)V"⟩, 2) := ⟨⟨by decide +kernel, by decide +kernel⟩, List.mem_of_getElem? (i := 23) (by decide +kernel), List.mem_of_getElem? (i := 309) (by decide +kernel), List.mem_of_getElem? (i := 310) (by decide +kernel)⟩
theorem lw_p5 : lw_okq (⟨"GhostRooms$Deeds", "loseOldest", "()V"⟩, 4) := ⟨⟨by decide +kernel, by decide +kernel⟩, List.mem_of_getElem? (i := 67) (by decide +kernel), List.mem_of_getElem? (i := 411) (by decide +kernel), List.mem_of_getElem? (i := 412) (by decide +kernel)⟩
theorem lw_p6 : lw_okq (⟨"GhostRooms", "unlessAlive", "(I)I"⟩, 8) := ⟨⟨by decide +kernel, by decide +kernel⟩, List.mem_of_getElem? (i := 15) (by decide +kernel), List.mem_of_getElem? (i := 467) (by decide +kernel), List.mem_of_getElem? (i := 468) (by decide +kernel)⟩
theorem lw_p7 : lw_okq (⟨"GhostRooms$Seen", "isSo", "(LGhostRooms$House;)Z"⟩, 4) := ⟨⟨by decide +kernel, by decide +kernel⟩, List.mem_of_getElem? (i := 87) (by decide +kernel), List.mem_of_getElem? (i := 529) (by decide +kernel), List.mem_of_getElem? (i := 530) (by decide +kernel)⟩
theorem lw_p8 : lw_okq (⟨"GhostRoomsModel", "next", "()V"⟩, 28) := ⟨⟨by decide +kernel, by decide +kernel⟩, List.mem_of_getElem? (i := 629) (by decide +kernel), List.mem_of_getElem? (i := 736) (by decide +kernel), List.mem_of_getElem? (i := 737) (by decide +kernel)⟩
theorem lw_p9 : lw_okq (⟨"GhostRoomsModel", "letterAt", "(I)I"⟩, 28) := ⟨⟨by decide +kernel, by decide +kernel⟩, List.mem_of_getElem? (i := 629) (by decide +kernel), List.mem_of_getElem? (i := 740) (by decide +kernel), List.mem_of_getElem? (i := 741) (by decide +kernel)⟩
theorem lw_p10 : lw_okq (⟨"GhostRoomsModel", "readItem", "()V"⟩, 28) := ⟨⟨by decide +kernel, by decide +kernel⟩, List.mem_of_getElem? (i := 629) (by decide +kernel), List.mem_of_getElem? (i := 747) (by decide +kernel), List.mem_of_getElem? (i := 748) (by decide +kernel)⟩
theorem lw_p11 : lw_okq (⟨"GhostRoomsModel", "readPerson", "()V"⟩, 28) := ⟨⟨by decide +kernel, by decide +kernel⟩, List.mem_of_getElem? (i := 629) (by decide +kernel), List.mem_of_getElem? (i := 751) (by decide +kernel), List.mem_of_getElem? (i := 752) (by decide +kernel)⟩
theorem lw_p12 : lw_okq (⟨"GhostRoomsModel", "takes", "(IIZ)I"⟩, 28) := ⟨⟨by decide +kernel, by decide +kernel⟩, List.mem_of_getElem? (i := 629) (by decide +kernel), List.mem_of_getElem? (i := 755) (by decide +kernel), List.mem_of_getElem? (i := 756) (by decide +kernel)⟩
theorem lw_p13 : lw_okq (⟨"GhostRoomsModel", "readRoom", "()V"⟩, 28) := ⟨⟨by decide +kernel, by decide +kernel⟩, List.mem_of_getElem? (i := 629) (by decide +kernel), List.mem_of_getElem? (i := 759) (by decide +kernel), List.mem_of_getElem? (i := 760) (by decide +kernel)⟩
theorem lw_p14 : lw_okq (⟨"GhostRoomsModel", "readDoor", "()V"⟩, 28) := ⟨⟨by decide +kernel, by decide +kernel⟩, List.mem_of_getElem? (i := 629) (by decide +kernel), List.mem_of_getElem? (i := 763) (by decide +kernel), List.mem_of_getElem? (i := 764) (by decide +kernel)⟩
theorem lw_p15 : lw_okq (⟨"GhostRoomsModel", "readPlace", "(I)V"⟩, 28) := ⟨⟨by decide +kernel, by decide +kernel⟩, List.mem_of_getElem? (i := 629) (by decide +kernel), List.mem_of_getElem? (i := 767) (by decide +kernel), List.mem_of_getElem? (i := 768) (by decide +kernel)⟩
def lw_privs_1 : List (MethodName × Nat) := [(⟨"GhostRooms$Text", "isDigitAt", "(I)Z"⟩, 6), (⟨"GhostRooms$Text", "takeNumber", "()V"⟩, 6), (⟨"GhostRooms$Reader", "readItem", "(LGhostRooms$House;)Z"⟩, 2), (⟨"GhostRooms$Reader", "fits", "(IIILGhostRooms$House;)Z"⟩, 2), (⟨"GhostRooms$Reader", "tell", "(ILGhostRooms$House;)V"⟩, 2), (⟨"GhostRooms$Deeds", "loseOldest", "()V"⟩, 4), (⟨"GhostRooms", "unlessAlive", "(I)I"⟩, 8), (⟨"GhostRooms$Seen", "isSo", "(LGhostRooms$House;)Z"⟩, 4), (⟨"GhostRoomsModel", "next", "()V"⟩, 28), (⟨"GhostRoomsModel", "letterAt", "(I)I"⟩, 28), (⟨"GhostRoomsModel", "readItem", "()V"⟩, 28), (⟨"GhostRoomsModel", "readPerson", "()V"⟩, 28), (⟨"GhostRoomsModel", "takes", "(IIZ)I"⟩, 28), (⟨"GhostRoomsModel", "readRoom", "()V"⟩, 28), (⟨"GhostRoomsModel", "readDoor", "()V"⟩, 28), (⟨"GhostRoomsModel", "readPlace", "(I)V"⟩, 28)]
theorem lw_r1 : ∀ q ∈ lw_privs_1, lw_okq q := List.forall_mem_cons.mpr ⟨lw_p0, List.forall_mem_cons.mpr ⟨lw_p1, List.forall_mem_cons.mpr ⟨lw_p2, List.forall_mem_cons.mpr ⟨lw_p3, List.forall_mem_cons.mpr ⟨lw_p4, List.forall_mem_cons.mpr ⟨lw_p5, List.forall_mem_cons.mpr ⟨lw_p6, List.forall_mem_cons.mpr ⟨lw_p7, List.forall_mem_cons.mpr ⟨lw_p8, List.forall_mem_cons.mpr ⟨lw_p9, List.forall_mem_cons.mpr ⟨lw_p10, List.forall_mem_cons.mpr ⟨lw_p11, List.forall_mem_cons.mpr ⟨lw_p12, List.forall_mem_cons.mpr ⟨lw_p13, List.forall_mem_cons.mpr ⟨lw_p14, List.forall_mem_cons.mpr ⟨lw_p15, fun _ h => absurd h List.not_mem_nil⟩⟩⟩⟩⟩⟩⟩⟩⟩⟩⟩⟩⟩⟩⟩⟩
theorem lw_p16 : lw_okq (⟨"GhostRoomsModel", "isPerson", "(I)Z"⟩, 28) := ⟨⟨by decide +kernel, by decide +kernel⟩, List.mem_of_getElem? (i := 629) (by decide +kernel), List.mem_of_getElem? (i := 781) (by decide +kernel), List.mem_of_getElem? (i := 782) (by decide +kernel)⟩
theorem lw_p17 : lw_okq (⟨"GhostRoomsModel", "asItIs", "()V"⟩, 28) := ⟨⟨by decide +kernel, by decide +kernel⟩, List.mem_of_getElem? (i := 629) (by decide +kernel), List.mem_of_getElem? (i := 785) (by decide +kernel), List.mem_of_getElem? (i := 786) (by decide +kernel)⟩
theorem lw_p18 : lw_okq (⟨"GhostRoomsModel", "mayIn", "(I)I"⟩, 28) := ⟨⟨by decide +kernel, by decide +kernel⟩, List.mem_of_getElem? (i := 629) (by decide +kernel), List.mem_of_getElem? (i := 789) (by decide +kernel), List.mem_of_getElem? (i := 790) (by decide +kernel)⟩
theorem lw_p19 : lw_okq (⟨"GhostRoomsModel", "mayBe", "(II)Z"⟩, 28) := ⟨⟨by decide +kernel, by decide +kernel⟩, List.mem_of_getElem? (i := 629) (by decide +kernel), List.mem_of_getElem? (i := 793) (by decide +kernel), List.mem_of_getElem? (i := 794) (by decide +kernel)⟩
theorem lw_p20 : lw_okq (⟨"GhostRoomsModel", "isAlive", "(I)Z"⟩, 28) := ⟨⟨by decide +kernel, by decide +kernel⟩, List.mem_of_getElem? (i := 629) (by decide +kernel), List.mem_of_getElem? (i := 797) (by decide +kernel), List.mem_of_getElem? (i := 798) (by decide +kernel)⟩
theorem lw_p21 : lw_okq (⟨"GhostRoomsModel", "ownerOf", "(I)I"⟩, 28) := ⟨⟨by decide +kernel, by decide +kernel⟩, List.mem_of_getElem? (i := 629) (by decide +kernel), List.mem_of_getElem? (i := 804) (by decide +kernel), List.mem_of_getElem? (i := 805) (by decide +kernel)⟩
theorem lw_p22 : lw_okq (⟨"GhostRoomsModel", "goesBy", "(II)I"⟩, 28) := ⟨⟨by decide +kernel, by decide +kernel⟩, List.mem_of_getElem? (i := 629) (by decide +kernel), List.mem_of_getElem? (i := 808) (by decide +kernel), List.mem_of_getElem? (i := 809) (by decide +kernel)⟩
theorem lw_p23 : lw_okq (⟨"GhostRoomsModel", "isCutOff", "(I)Z"⟩, 28) := ⟨⟨by decide +kernel, by decide +kernel⟩, List.mem_of_getElem? (i := 629) (by decide +kernel), List.mem_of_getElem? (i := 812) (by decide +kernel), List.mem_of_getElem? (i := 813) (by decide +kernel)⟩
theorem lw_p24 : lw_okq (⟨"GhostRoomsModel", "isCutOffBy", "(II)Z"⟩, 28) := ⟨⟨by decide +kernel, by decide +kernel⟩, List.mem_of_getElem? (i := 629) (by decide +kernel), List.mem_of_getElem? (i := 816) (by decide +kernel), List.mem_of_getElem? (i := 817) (by decide +kernel)⟩
theorem lw_p25 : lw_okq (⟨"GhostRoomsModel", "isRoom", "(I)Z"⟩, 28) := ⟨⟨by decide +kernel, by decide +kernel⟩, List.mem_of_getElem? (i := 629) (by decide +kernel), List.mem_of_getElem? (i := 824) (by decide +kernel), List.mem_of_getElem? (i := 825) (by decide +kernel)⟩
theorem lw_p26 : lw_okq (⟨"GhostRoomsModel", "whoMay", "(I)I"⟩, 28) := ⟨⟨by decide +kernel, by decide +kernel⟩, List.mem_of_getElem? (i := 629) (by decide +kernel), List.mem_of_getElem? (i := 828) (by decide +kernel), List.mem_of_getElem? (i := 829) (by decide +kernel)⟩
theorem lw_p27 : lw_okq (⟨"GhostRoomsModel", "cutOff", "()I"⟩, 28) := ⟨⟨by decide +kernel, by decide +kernel⟩, List.mem_of_getElem? (i := 629) (by decide +kernel), List.mem_of_getElem? (i := 840) (by decide +kernel), List.mem_of_getElem? (i := 841) (by decide +kernel)⟩
theorem lw_p28 : lw_okq (⟨"GhostRoomsModel", "remembers", "()V"⟩, 28) := ⟨⟨by decide +kernel, by decide +kernel⟩, List.mem_of_getElem? (i := 629) (by decide +kernel), List.mem_of_getElem? (i := 848) (by decide +kernel), List.mem_of_getElem? (i := 849) (by decide +kernel)⟩
theorem lw_p29 : lw_okq (⟨"GhostRoomsModel", "refused", "(IZ)I"⟩, 28) := ⟨⟨by decide +kernel, by decide +kernel⟩, List.mem_of_getElem? (i := 629) (by decide +kernel), List.mem_of_getElem? (i := 886) (by decide +kernel), List.mem_of_getElem? (i := 887) (by decide +kernel)⟩
theorem lw_p30 : lw_okq (⟨"GhostRoomsModel", "roomRate", "(I)I"⟩, 28) := ⟨⟨by decide +kernel, by decide +kernel⟩, List.mem_of_getElem? (i := 629) (by decide +kernel), List.mem_of_getElem? (i := 935) (by decide +kernel), List.mem_of_getElem? (i := 936) (by decide +kernel)⟩
theorem lw_p31 : lw_okq (⟨"GhostRoomsModel", "hallRate", "(I)I"⟩, 28) := ⟨⟨by decide +kernel, by decide +kernel⟩, List.mem_of_getElem? (i := 629) (by decide +kernel), List.mem_of_getElem? (i := 939) (by decide +kernel), List.mem_of_getElem? (i := 940) (by decide +kernel)⟩
def lw_privs_2 : List (MethodName × Nat) := [(⟨"GhostRoomsModel", "isPerson", "(I)Z"⟩, 28), (⟨"GhostRoomsModel", "asItIs", "()V"⟩, 28), (⟨"GhostRoomsModel", "mayIn", "(I)I"⟩, 28), (⟨"GhostRoomsModel", "mayBe", "(II)Z"⟩, 28), (⟨"GhostRoomsModel", "isAlive", "(I)Z"⟩, 28), (⟨"GhostRoomsModel", "ownerOf", "(I)I"⟩, 28), (⟨"GhostRoomsModel", "goesBy", "(II)I"⟩, 28), (⟨"GhostRoomsModel", "isCutOff", "(I)Z"⟩, 28), (⟨"GhostRoomsModel", "isCutOffBy", "(II)Z"⟩, 28), (⟨"GhostRoomsModel", "isRoom", "(I)Z"⟩, 28), (⟨"GhostRoomsModel", "whoMay", "(I)I"⟩, 28), (⟨"GhostRoomsModel", "cutOff", "()I"⟩, 28), (⟨"GhostRoomsModel", "remembers", "()V"⟩, 28), (⟨"GhostRoomsModel", "refused", "(IZ)I"⟩, 28), (⟨"GhostRoomsModel", "roomRate", "(I)I"⟩, 28), (⟨"GhostRoomsModel", "hallRate", "(I)I"⟩, 28)]
theorem lw_r2 : ∀ q ∈ lw_privs_2, lw_okq q := List.forall_mem_cons.mpr ⟨lw_p16, List.forall_mem_cons.mpr ⟨lw_p17, List.forall_mem_cons.mpr ⟨lw_p18, List.forall_mem_cons.mpr ⟨lw_p19, List.forall_mem_cons.mpr ⟨lw_p20, List.forall_mem_cons.mpr ⟨lw_p21, List.forall_mem_cons.mpr ⟨lw_p22, List.forall_mem_cons.mpr ⟨lw_p23, List.forall_mem_cons.mpr ⟨lw_p24, List.forall_mem_cons.mpr ⟨lw_p25, List.forall_mem_cons.mpr ⟨lw_p26, List.forall_mem_cons.mpr ⟨lw_p27, List.forall_mem_cons.mpr ⟨lw_p28, List.forall_mem_cons.mpr ⟨lw_p29, List.forall_mem_cons.mpr ⟨lw_p30, List.forall_mem_cons.mpr ⟨lw_p31, fun _ h => absurd h List.not_mem_nil⟩⟩⟩⟩⟩⟩⟩⟩⟩⟩⟩⟩⟩⟩⟩⟩
theorem lw_p32 : lw_okq (⟨"GhostRoomsModel", "stairRate", "(I)I"⟩, 28) := ⟨⟨by decide +kernel, by decide +kernel⟩, List.mem_of_getElem? (i := 629) (by decide +kernel), List.mem_of_getElem? (i := 944) (by decide +kernel), List.mem_of_getElem? (i := 945) (by decide +kernel)⟩
def lw_privs_3 : List (MethodName × Nat) := [(⟨"GhostRoomsModel", "stairRate", "(I)I"⟩, 28)]
theorem lw_r3 : ∀ q ∈ lw_privs_3, lw_okq q := List.forall_mem_cons.mpr ⟨lw_p32, fun _ h => absurd h List.not_mem_nil⟩
def lw_privs : List (MethodName × Nat) := lw_privs_1 ++ (lw_privs_2 ++ (lw_privs_3))
def lw_tbl : List Cond := k2_sels lw_privs ++ tables_1
theorem lw_privs_ok : ∀ q ∈ lw_privs, lw_okq q := by
  show ∀ q ∈ lw_privs_1 ++ (lw_privs_2 ++ (lw_privs_3)), lw_okq q
  exact List.forall_mem_append.mpr ⟨lw_r1, List.forall_mem_append.mpr ⟨lw_r2, lw_r3⟩⟩
-- names, field tables (printed by program of the class files)
def RX0 : String := "GhostRooms$Deaths"
def TX0 : u_T := fun k => match k with
  | _ => ("", "", "", false)
def tyX0 : Nat → FieldType := fun k => match k with
  | _ => .int
abbrev wsX00 : List Cond := u_ws RX0 TX0 0
theorem nmX0 : ∀ a, a < 0 → ∀ b, b < 0 → a ≠ b → (TX0 a).2.1 ≠ (TX0 b).2.1 := by decide +kernel
theorem tyX0_ok : ∀ k, k < 0 → parseFieldDescriptor (TX0 k).2.2.1 = some (tyX0 k) := by decide +kernel
abbrev cX0_fewestBefore : ByteArray := prog_2_method_2_code
def yX0_fewestBefore : MethodName := ⟨RX0, "fewestBefore", "(LGhostRooms$House;II)I"⟩
abbrev cX0_chance : ByteArray := prog_2_method_3_code
def yX0_chance : MethodName := ⟨RX0, "chance", "(LGhostRooms$House;IIZ)I"⟩
abbrev cX0_othersThan : ByteArray := prog_2_method_4_code
def yX0_othersThan : MethodName := ⟨RX0, "othersThan", "(LGhostRooms$House;I)I"⟩
abbrev cX0_power : ByteArray := prog_2_method_5_code
def yX0_power : MethodName := ⟨RX0, "power", "(II)I"⟩
abbrev cX0_commonDivisor : ByteArray := prog_2_method_6_code
def yX0_commonDivisor : MethodName := ⟨RX0, "commonDivisor", "(II)I"⟩
def RX1 : String := "GhostRooms$Deeds"
def TX1 : u_T := fun k => match k with
  | 0 => ("GhostRooms$Deeds", "size", "I", false)
  | 1 => ("GhostRooms$Deeds", "deeds", "[I", true)
  | 2 => ("GhostRooms$Deeds", "firsts", "[I", true)
  | _ => ("GhostRooms$Deeds", "seconds", "[I", true)
def tyX1 : Nat → FieldType := fun k => match k with
  | 0 => .int
  | 1 => .array .int
  | 2 => .array .int
  | _ => .array .int
abbrev wsX10 : List Cond := u_ws RX1 TX1 4
theorem nmX1 : ∀ a, a < 4 → ∀ b, b < 4 → a ≠ b → (TX1 a).2.1 ≠ (TX1 b).2.1 := by decide +kernel
theorem tyX1_ok : ∀ k, k < 4 → parseFieldDescriptor (TX1 k).2.2.1 = some (tyX1 k) := by decide +kernel
abbrev cX1_init : ByteArray := prog_3_method_1_code
def yX1_init : MethodName := ⟨RX1, "<init>", "()V"⟩
abbrev cX1_add : ByteArray := prog_3_method_2_code
def yX1_add : MethodName := ⟨RX1, "add", "(III)V"⟩
abbrev cX1_loseOldest : ByteArray := prog_3_method_3_code
def yX1_loseOldest : MethodName := ⟨RX1, "loseOldest", "()V"⟩
abbrev cX1_takeBack : ByteArray := prog_3_method_4_code
def yX1_takeBack : MethodName := ⟨RX1, "takeBack", "(LGhostRooms$Now;)V"⟩
def RX2 : String := "GhostRooms$House"
def TX2 : u_T := fun k => match k with
  | 0 => ("GhostRooms$House", "people", "I", false)
  | 1 => ("GhostRooms$House", "rooms", "I", false)
  | 2 => ("GhostRooms$House", "doors", "[I", true)
  | 3 => ("GhostRooms$House", "beds", "[I", true)
  | 4 => ("GhostRooms$House", "wants", "[I", true)
  | _ => ("GhostRooms$House", "now", "LGhostRooms$Now;", true)
def tyX2 : Nat → FieldType := fun k => match k with
  | 0 => .int
  | 1 => .int
  | 2 => .array .int
  | 3 => .array .int
  | 4 => .array .int
  | _ => .object "GhostRooms$Now"
abbrev wsX20 : List Cond := u_ws RX2 TX2 6
theorem nmX2 : ∀ a, a < 6 → ∀ b, b < 6 → a ≠ b → (TX2 a).2.1 ≠ (TX2 b).2.1 := by decide +kernel
theorem tyX2_ok : ∀ k, k < 6 → parseFieldDescriptor (TX2 k).2.2.1 = some (tyX2 k) := by decide +kernel
abbrev cX2_init : ByteArray := prog_4_method_1_code
def yX2_init : MethodName := ⟨RX2, "<init>", "()V"⟩
abbrev cX2_empty : ByteArray := prog_4_method_2_code
def yX2_empty : MethodName := ⟨RX2, "empty", "()V"⟩
abbrev cX2_addPerson : ByteArray := prog_4_method_3_code
def yX2_addPerson : MethodName := ⟨RX2, "addPerson", "(ZI)V"⟩
abbrev cX2_addRoom : ByteArray := prog_4_method_4_code
def yX2_addRoom : MethodName := ⟨RX2, "addRoom", "(I)V"⟩
abbrev cX2_addDoor : ByteArray := prog_4_method_5_code
def yX2_addDoor : MethodName := ⟨RX2, "addDoor", "(II)V"⟩
abbrev cX2_isPerson : ByteArray := prog_4_method_6_code
def yX2_isPerson : MethodName := ⟨RX2, "isPerson", "(I)Z"⟩
abbrev cX2_isRoom : ByteArray := prog_4_method_7_code
def yX2_isRoom : MethodName := ⟨RX2, "isRoom", "(I)Z"⟩
abbrev cX2_lives : ByteArray := prog_4_method_8_code
def yX2_lives : MethodName := ⟨RX2, "lives", "(I)Z"⟩
abbrev cX2_canBeHeir : ByteArray := prog_4_method_9_code
def yX2_canBeHeir : MethodName := ⟨RX2, "canBeHeir", "(I)Z"⟩
abbrev cX2_owner : ByteArray := prog_4_method_10_code
def yX2_owner : MethodName := ⟨RX2, "owner", "(II)I"⟩
abbrev cX2_chain : ByteArray := prog_4_method_11_code
def yX2_chain : MethodName := ⟨RX2, "chain", "(I)I"⟩
abbrev cX2_owned : ByteArray := prog_4_method_12_code
def yX2_owned : MethodName := ⟨RX2, "owned", "(II)I"⟩
abbrev cX2_may : ByteArray := prog_4_method_13_code
def yX2_may : MethodName := ⟨RX2, "may", "(IIII)I"⟩
abbrev cX2_mayNow : ByteArray := prog_4_method_14_code
def yX2_mayNow : MethodName := ⟨RX2, "mayNow", "(I)I"⟩
abbrev cX2_whoMay : ByteArray := prog_4_method_15_code
def yX2_whoMay : MethodName := ⟨RX2, "whoMay", "(I)I"⟩
abbrev cX2_reach : ByteArray := prog_4_method_16_code
def yX2_reach : MethodName := ⟨RX2, "reach", "(II)I"⟩
abbrev cX2_behindDoorsOf : ByteArray := prog_4_method_17_code
def yX2_behindDoorsOf : MethodName := ⟨RX2, "behindDoorsOf", "(I)I"⟩
abbrev cX2_lacks : ByteArray := prog_4_method_18_code
def yX2_lacks : MethodName := ⟨RX2, "lacks", "(II)Z"⟩
abbrev cX2_isCutOff : ByteArray := prog_4_method_19_code
def yX2_isCutOff : MethodName := ⟨RX2, "isCutOff", "(IIII)Z"⟩
abbrev cX2_cutOff : ByteArray := prog_4_method_20_code
def yX2_cutOff : MethodName := ⟨RX2, "cutOff", "(I)I"⟩
def RX3 : String := "GhostRooms$Living"
def TX3 : u_T := fun k => match k with
  | _ => ("", "", "", false)
def tyX3 : Nat → FieldType := fun k => match k with
  | _ => .int
abbrev wsX30 : List Cond := u_ws RX3 TX3 0
theorem nmX3 : ∀ a, a < 0 → ∀ b, b < 0 → a ≠ b → (TX3 a).2.1 ≠ (TX3 b).2.1 := by decide +kernel
theorem tyX3_ok : ∀ k, k < 0 → parseFieldDescriptor (TX3 k).2.2.1 = some (tyX3 k) := by decide +kernel
abbrev cX3_firstDayCutOff : ByteArray := prog_5_method_2_code
def yX3_firstDayCutOff : MethodName := ⟨RX3, "firstDayCutOff", "(LGhostRooms$House;I)I"⟩
abbrev cX3_fewestRights : ByteArray := prog_5_method_3_code
def yX3_fewestRights : MethodName := ⟨RX3, "fewestRights", "(LGhostRooms$House;I)I"⟩
abbrev cX3_openers : ByteArray := prog_5_method_4_code
def yX3_openers : MethodName := ⟨RX3, "openers", "(LGhostRooms$House;I)I"⟩
abbrev cX3_bestExchange : ByteArray := prog_5_method_5_code
def yX3_bestExchange : MethodName := ⟨RX3, "bestExchange", "(LGhostRooms$House;)I"⟩
abbrev cX3_roomsHeldByRight : ByteArray := prog_5_method_6_code
def yX3_roomsHeldByRight : MethodName := ⟨RX3, "roomsHeldByRight", "(LGhostRooms$House;)I"⟩
abbrev cX3_doorsBetween : ByteArray := prog_5_method_7_code
def yX3_doorsBetween : MethodName := ⟨RX3, "doorsBetween", "(LGhostRooms$House;II)I"⟩
def RX4 : String := "GhostRooms$Now"
def TX4 : u_T := fun k => match k with
  | 0 => ("GhostRooms$Now", "day", "I", false)
  | 1 => ("GhostRooms$Now", "alive", "I", false)
  | 2 => ("GhostRooms$Now", "rights", "I", false)
  | 3 => ("GhostRooms$Now", "heirs", "[I", true)
  | 4 => ("GhostRooms$Now", "left", "[I", true)
  | 5 => ("GhostRooms$Now", "holders", "[I", true)
  | 6 => ("GhostRooms$Now", "places", "[I", true)
  | _ => ("GhostRooms$Now", "tills", "[I", true)
def tyX4 : Nat → FieldType := fun k => match k with
  | 0 => .int
  | 1 => .int
  | 2 => .int
  | 3 => .array .int
  | 4 => .array .int
  | 5 => .array .int
  | 6 => .array .int
  | _ => .array .int
abbrev wsX40 : List Cond := u_ws RX4 TX4 8
theorem nmX4 : ∀ a, a < 8 → ∀ b, b < 8 → a ≠ b → (TX4 a).2.1 ≠ (TX4 b).2.1 := by decide +kernel
theorem tyX4_ok : ∀ k, k < 8 → parseFieldDescriptor (TX4 k).2.2.1 = some (tyX4 k) := by decide +kernel
abbrev cX4_init : ByteArray := prog_6_method_1_code
def yX4_init : MethodName := ⟨RX4, "<init>", "()V"⟩
abbrev cX4_copy : ByteArray := prog_6_method_2_code
def yX4_copy : MethodName := ⟨RX4, "copy", "(LGhostRooms$Now;)V"⟩
abbrev cX4_addRight : ByteArray := prog_6_method_3_code
def yX4_addRight : MethodName := ⟨RX4, "addRight", "(III)V"⟩
abbrev cX4_swap : ByteArray := prog_6_method_4_code
def yX4_swap : MethodName := ⟨RX4, "swap", "(II)V"⟩
abbrev cX4_roomsByRight : ByteArray := prog_6_method_5_code
def yX4_roomsByRight : MethodName := ⟨RX4, "roomsByRight", "(II)I"⟩
abbrev cX4_rightsIn : ByteArray := prog_6_method_6_code
def yX4_rightsIn : MethodName := ⟨RX4, "rightsIn", "(I)I"⟩
def RX5 : String := "GhostRooms$Rates"
def TX5 : u_T := fun k => match k with
  | _ => ("GhostRooms$Rates", "trace", "J", false)
def tyX5 : Nat → FieldType := fun k => match k with
  | _ => .long
abbrev wsX50 : List Cond := u_ws RX5 TX5 1
theorem nmX5 : ∀ a, a < 1 → ∀ b, b < 1 → a ≠ b → (TX5 a).2.1 ≠ (TX5 b).2.1 := by decide +kernel
theorem tyX5_ok : ∀ k, k < 1 → parseFieldDescriptor (TX5 k).2.2.1 = some (tyX5 k) := by decide +kernel
abbrev cX5_init : ByteArray := prog_7_method_1_code
def yX5_init : MethodName := ⟨RX5, "<init>", "()V"⟩
abbrev cX5_asRoom : ByteArray := prog_7_method_2_code
def yX5_asRoom : MethodName := ⟨RX5, "asRoom", "(LGhostRooms$House;I)I"⟩
abbrev cX5_asHall : ByteArray := prog_7_method_3_code
def yX5_asHall : MethodName := ⟨RX5, "asHall", "(LGhostRooms$House;I)I"⟩
abbrev cX5_asStair : ByteArray := prog_7_method_4_code
def yX5_asStair : MethodName := ⟨RX5, "asStair", "(LGhostRooms$House;I)I"⟩
abbrev cX5_asAttic : ByteArray := prog_7_method_5_code
def yX5_asAttic : MethodName := ⟨RX5, "asAttic", "(LGhostRooms$House;I)I"⟩
abbrev cX5_asCellar : ByteArray := prog_7_method_6_code
def yX5_asCellar : MethodName := ⟨RX5, "asCellar", "(LGhostRooms$House;I)I"⟩
abbrev cX5_asBath : ByteArray := prog_7_method_7_code
def yX5_asBath : MethodName := ⟨RX5, "asBath", "(LGhostRooms$House;I)I"⟩
def RX6 : String := "GhostRooms$Reader"
def TX6 : u_T := fun k => match k with
  | 0 => ("GhostRooms$Reader", "text", "LGhostRooms$Text;", true)
  | _ => ("GhostRooms$Reader", "numbers", "[I", true)
def tyX6 : Nat → FieldType := fun k => match k with
  | 0 => .object "GhostRooms$Text"
  | _ => .array .int
abbrev wsX60 : List Cond := u_ws RX6 TX6 2
theorem nmX6 : ∀ a, a < 2 → ∀ b, b < 2 → a ≠ b → (TX6 a).2.1 ≠ (TX6 b).2.1 := by decide +kernel
theorem tyX6_ok : ∀ k, k < 2 → parseFieldDescriptor (TX6 k).2.2.1 = some (tyX6 k) := by decide +kernel
abbrev cX6_init : ByteArray := prog_8_method_1_code
def yX6_init : MethodName := ⟨RX6, "<init>", "()V"⟩
abbrev cX6_readInto : ByteArray := prog_8_method_2_code
def yX6_readInto : MethodName := ⟨RX6, "readInto", "(LGhostRooms$House;)I"⟩
abbrev cX6_readItem : ByteArray := prog_8_method_3_code
def yX6_readItem : MethodName := ⟨RX6, "readItem", "(LGhostRooms$House;)Z"⟩
abbrev cX6_hasPlaceFor : ByteArray := prog_8_method_4_code
def yX6_hasPlaceFor : MethodName := ⟨RX6, "hasPlaceFor", "(ILGhostRooms$House;)Z"⟩
abbrev cX6_howManyNumbers : ByteArray := prog_8_method_5_code
def yX6_howManyNumbers : MethodName := ⟨RX6, "howManyNumbers", "(I)I"⟩
abbrev cX6_fits : ByteArray := prog_8_method_6_code
def yX6_fits : MethodName := ⟨RX6, "fits", "(IIILGhostRooms$House;)Z"⟩
abbrev cX6_tell : ByteArray := prog_8_method_7_code
def yX6_tell : MethodName := ⟨RX6, "tell", "(ILGhostRooms$House;)V"⟩
def RX7 : String := "GhostRooms$Seen"
def TX7 : u_T := fun k => match k with
  | 0 => ("GhostRooms$Seen", "size", "I", false)
  | 1 => ("GhostRooms$Seen", "people", "[I", true)
  | 2 => ("GhostRooms$Seen", "rooms", "[I", true)
  | _ => ("GhostRooms$Seen", "mays", "[I", true)
def tyX7 : Nat → FieldType := fun k => match k with
  | 0 => .int
  | 1 => .array .int
  | 2 => .array .int
  | _ => .array .int
abbrev wsX70 : List Cond := u_ws RX7 TX7 4
theorem nmX7 : ∀ a, a < 4 → ∀ b, b < 4 → a ≠ b → (TX7 a).2.1 ≠ (TX7 b).2.1 := by decide +kernel
theorem tyX7_ok : ∀ k, k < 4 → parseFieldDescriptor (TX7 k).2.2.1 = some (tyX7 k) := by decide +kernel
abbrev cX7_init : ByteArray := prog_9_method_1_code
def yX7_init : MethodName := ⟨RX7, "<init>", "()V"⟩
abbrev cX7_add : ByteArray := prog_9_method_2_code
def yX7_add : MethodName := ⟨RX7, "add", "(III)Z"⟩
abbrev cX7_heirsThatFit : ByteArray := prog_9_method_3_code
def yX7_heirsThatFit : MethodName := ⟨RX7, "heirsThatFit", "(LGhostRooms$House;I)I"⟩
abbrev cX7_isSo : ByteArray := prog_9_method_4_code
def yX7_isSo : MethodName := ⟨RX7, "isSo", "(LGhostRooms$House;)Z"⟩
def RX8 : String := "GhostRooms$Text"
def TX8 : u_T := fun k => match k with
  | 0 => ("GhostRooms$Text", "letters", "[I", true)
  | 1 => ("GhostRooms$Text", "length", "I", false)
  | 2 => ("GhostRooms$Text", "sort", "I", false)
  | 3 => ("GhostRooms$Text", "start", "I", false)
  | 4 => ("GhostRooms$Text", "value", "I", false)
  | _ => ("GhostRooms$Text", "end", "I", false)
def tyX8 : Nat → FieldType := fun k => match k with
  | 0 => .array .int
  | 1 => .int
  | 2 => .int
  | 3 => .int
  | 4 => .int
  | _ => .int
abbrev wsX80 : List Cond := u_ws RX8 TX8 6
theorem nmX8 : ∀ a, a < 6 → ∀ b, b < 6 → a ≠ b → (TX8 a).2.1 ≠ (TX8 b).2.1 := by decide +kernel
theorem tyX8_ok : ∀ k, k < 6 → parseFieldDescriptor (TX8 k).2.2.1 = some (tyX8 k) := by decide +kernel
abbrev cX8_init : ByteArray := prog_10_method_1_code
def yX8_init : MethodName := ⟨RX8, "<init>", "()V"⟩
abbrev cX8_add : ByteArray := prog_10_method_2_code
def yX8_add : MethodName := ⟨RX8, "add", "(I)Z"⟩
abbrev cX8_rewind : ByteArray := prog_10_method_3_code
def yX8_rewind : MethodName := ⟨RX8, "rewind", "()V"⟩
abbrev cX8_next : ByteArray := prog_10_method_4_code
def yX8_next : MethodName := ⟨RX8, "next", "()V"⟩
abbrev cX8_takeNumber : ByteArray := prog_10_method_5_code
def yX8_takeNumber : MethodName := ⟨RX8, "takeNumber", "()V"⟩
abbrev cX8_isDigitAt : ByteArray := prog_10_method_6_code
def yX8_isDigitAt : MethodName := ⟨RX8, "isDigitAt", "(I)Z"⟩
def RX9 : String := "GhostRooms"
def TX9 : u_T := fun k => match k with
  | 0 => ("GhostRooms", "reader", "LGhostRooms$Reader;", true)
  | 1 => ("GhostRooms", "deeds", "LGhostRooms$Deeds;", true)
  | 2 => ("GhostRooms", "seen", "LGhostRooms$Seen;", true)
  | 3 => ("GhostRooms", "rates", "LGhostRooms$Rates;", true)
  | 4 => ("GhostRooms", "images", "[LGhostRooms$Now;", true)
  | 5 => ("GhostRooms", "imagesKept", "I", false)
  | 6 => ("GhostRooms", "house", "LGhostRooms$House;", false)
  | _ => ("GhostRooms", "spare", "LGhostRooms$House;", false)
def tyX9 : Nat → FieldType := fun k => match k with
  | 0 => .object "GhostRooms$Reader"
  | 1 => .object "GhostRooms$Deeds"
  | 2 => .object "GhostRooms$Seen"
  | 3 => .object "GhostRooms$Rates"
  | 4 => .array (.object "GhostRooms$Now")
  | 5 => .int
  | 6 => .object "GhostRooms$House"
  | _ => .object "GhostRooms$House"
abbrev wsX90 : List Cond := u_ws RX9 TX9 8
theorem nmX9 : ∀ a, a < 8 → ∀ b, b < 8 → a ≠ b → (TX9 a).2.1 ≠ (TX9 b).2.1 := by decide +kernel
theorem tyX9_ok : ∀ k, k < 8 → parseFieldDescriptor (TX9 k).2.2.1 = some (tyX9 k) := by decide +kernel
abbrev cX9_init : ByteArray := prog_1_method_1_code
def yX9_init : MethodName := ⟨RX9, "<init>", "()V"⟩
abbrev cX9_type : ByteArray := prog_1_method_2_code
def yX9_type : MethodName := ⟨RX9, "type", "(I)I"⟩
abbrev cX9_clear : ByteArray := prog_1_method_3_code
def yX9_clear : MethodName := ⟨RX9, "clear", "()I"⟩
abbrev cX9_house : ByteArray := prog_1_method_4_code
def yX9_house : MethodName := ⟨RX9, "house", "()I"⟩
abbrev cX9_person : ByteArray := prog_1_method_5_code
def yX9_person : MethodName := ⟨RX9, "person", "(II)I"⟩
abbrev cX9_room : ByteArray := prog_1_method_6_code
def yX9_room : MethodName := ⟨RX9, "room", "(II)I"⟩
abbrev cX9_right : ByteArray := prog_1_method_7_code
def yX9_right : MethodName := ⟨RX9, "right", "(II)I"⟩
abbrev cX9_now : ByteArray := prog_1_method_8_code
def yX9_now : MethodName := ⟨RX9, "now", "(I)I"⟩
abbrev cX9_day : ByteArray := prog_1_method_9_code
def yX9_day : MethodName := ⟨RX9, "day", "()I"⟩
abbrev cX9_dies : ByteArray := prog_1_method_10_code
def yX9_dies : MethodName := ⟨RX9, "dies", "(I)I"⟩
abbrev cX9_grants : ByteArray := prog_1_method_11_code
def yX9_grants : MethodName := ⟨RX9, "grants", "(III)I"⟩
abbrev cX9_exchanges : ByteArray := prog_1_method_12_code
def yX9_exchanges : MethodName := ⟨RX9, "exchanges", "(II)I"⟩
abbrev cX9_wills : ByteArray := prog_1_method_13_code
def yX9_wills : MethodName := ⟨RX9, "wills", "(II)I"⟩
abbrev cX9_undo : ByteArray := prog_1_method_14_code
def yX9_undo : MethodName := ⟨RX9, "undo", "()I"⟩
abbrev cX9_fromWhen : ByteArray := prog_1_method_15_code
def yX9_fromWhen : MethodName := ⟨RX9, "fromWhen", "(I)I"⟩
abbrev cX9_needs : ByteArray := prog_1_method_16_code
def yX9_needs : MethodName := ⟨RX9, "needs", "(I)I"⟩
abbrev cX9_opens : ByteArray := prog_1_method_17_code
def yX9_opens : MethodName := ⟨RX9, "opens", "(I)I"⟩
abbrev cX9_exchange : ByteArray := prog_1_method_18_code
def yX9_exchange : MethodName := ⟨RX9, "exchange", "()I"⟩
abbrev cX9_holdsOut : ByteArray := prog_1_method_19_code
def yX9_holdsOut : MethodName := ⟨RX9, "holdsOut", "()I"⟩
abbrev cX9_dinner : ByteArray := prog_1_method_20_code
def yX9_dinner : MethodName := ⟨RX9, "dinner", "(II)I"⟩
abbrev cX9_seen : ByteArray := prog_1_method_21_code
def yX9_seen : MethodName := ⟨RX9, "seen", "(III)I"⟩
abbrev cX9_forget : ByteArray := prog_1_method_22_code
def yX9_forget : MethodName := ⟨RX9, "forget", "()I"⟩
abbrev cX9_said : ByteArray := prog_1_method_23_code
def yX9_said : MethodName := ⟨RX9, "said", "(I)I"⟩
abbrev cX9_last : ByteArray := prog_1_method_24_code
def yX9_last : MethodName := ⟨RX9, "last", "(I)I"⟩
abbrev cX9_waits : ByteArray := prog_1_method_25_code
def yX9_waits : MethodName := ⟨RX9, "waits", "(II)I"⟩
abbrev cX9_odds : ByteArray := prog_1_method_26_code
def yX9_odds : MethodName := ⟨RX9, "odds", "(III)I"⟩
abbrev cX9_rate : ByteArray := prog_1_method_27_code
def yX9_rate : MethodName := ⟨RX9, "rate", "(II)I"⟩
abbrev cX9_keep : ByteArray := prog_1_method_28_code
def yX9_keep : MethodName := ⟨RX9, "keep", "(I)I"⟩
abbrev cX9_back : ByteArray := prog_1_method_29_code
def yX9_back : MethodName := ⟨RX9, "back", "(I)I"⟩
abbrev cX9_count : ByteArray := prog_1_method_30_code
def yX9_count : MethodName := ⟨RX9, "count", "(I)I"⟩
abbrev cX9_trace : ByteArray := prog_1_method_31_code
def yX9_trace : MethodName := ⟨RX9, "trace", "()J"⟩
abbrev cX9_unlessAlive : ByteArray := prog_1_method_32_code
def yX9_unlessAlive : MethodName := ⟨RX9, "unlessAlive", "(I)I"⟩
def RX10 : String := "GhostRoomsModel"
def TX10 : u_T := fun k => match k with
  | 0 => ("GhostRoomsModel", "people", "I", false)
  | 1 => ("GhostRoomsModel", "rooms", "I", false)
  | 2 => ("GhostRoomsModel", "bed", "[I", true)
  | 3 => ("GhostRoomsModel", "wants", "[I", true)
  | 4 => ("GhostRoomsModel", "doors", "[I", true)
  | 5 => ("GhostRoomsModel", "st", "[I", true)
  | 6 => ("GhostRoomsModel", "was", "[I", true)
  | 7 => ("GhostRoomsModel", "known", "I", false)
  | 8 => ("GhostRoomsModel", "images", "[I", true)
  | 9 => ("GhostRoomsModel", "isKept", "[Z", true)
  | 10 => ("GhostRoomsModel", "seens", "I", false)
  | 11 => ("GhostRoomsModel", "seen", "[I", true)
  | 12 => ("GhostRoomsModel", "trace", "J", false)
  | 13 => ("GhostRoomsModel", "text", "[I", true)
  | 14 => ("GhostRoomsModel", "texted", "I", false)
  | 15 => ("GhostRoomsModel", "cursor", "I", false)
  | 16 => ("GhostRoomsModel", "start", "I", false)
  | 17 => ("GhostRoomsModel", "token", "I", false)
  | 18 => ("GhostRoomsModel", "number", "I", false)
  | 19 => ("GhostRoomsModel", "isWrong", "Z", false)
  | 20 => ("GhostRoomsModel", "saidPeople", "I", false)
  | 21 => ("GhostRoomsModel", "saidRooms", "I", false)
  | 22 => ("GhostRoomsModel", "saidBed", "[I", true)
  | 23 => ("GhostRoomsModel", "saidWants", "[I", true)
  | 24 => ("GhostRoomsModel", "saidDoors", "[I", true)
  | 25 => ("GhostRoomsModel", "said", "[I", true)
  | 26 => ("GhostRoomsModel", "now", "[I", true)
  | _ => ("GhostRoomsModel", "chain", "I", false)
def tyX10 : Nat → FieldType := fun k => match k with
  | 0 => .int
  | 1 => .int
  | 2 => .array .int
  | 3 => .array .int
  | 4 => .array .int
  | 5 => .array .int
  | 6 => .array .int
  | 7 => .int
  | 8 => .array .int
  | 9 => .array .boolean
  | 10 => .int
  | 11 => .array .int
  | 12 => .long
  | 13 => .array .int
  | 14 => .int
  | 15 => .int
  | 16 => .int
  | 17 => .int
  | 18 => .int
  | 19 => .boolean
  | 20 => .int
  | 21 => .int
  | 22 => .array .int
  | 23 => .array .int
  | 24 => .array .int
  | 25 => .array .int
  | 26 => .array .int
  | _ => .int
abbrev wsX100 : List Cond := u_ws RX10 TX10 28
theorem nmX10 : ∀ a, a < 28 → ∀ b, b < 28 → a ≠ b → (TX10 a).2.1 ≠ (TX10 b).2.1 := by decide +kernel
theorem tyX10_ok : ∀ k, k < 28 → parseFieldDescriptor (TX10 k).2.2.1 = some (tyX10 k) := by decide +kernel
abbrev cX10_init : ByteArray := prog_12_method_1_code
def yX10_init : MethodName := ⟨RX10, "<init>", "()V"⟩
abbrev cX10_in : ByteArray := prog_12_method_3_code
def yX10_in : MethodName := ⟨RX10, "in", "(III)Z"⟩
abbrev cX10_has : ByteArray := prog_12_method_4_code
def yX10_has : MethodName := ⟨RX10, "has", "(II)Z"⟩
abbrev cX10_bits : ByteArray := prog_12_method_5_code
def yX10_bits : MethodName := ⟨RX10, "bits", "(I)I"⟩
abbrev cX10_isPerson : ByteArray := prog_12_method_6_code
def yX10_isPerson : MethodName := ⟨RX10, "isPerson", "(I)Z"⟩
abbrev cX10_isRoom : ByteArray := prog_12_method_7_code
def yX10_isRoom : MethodName := ⟨RX10, "isRoom", "(I)Z"⟩
abbrev cX10_copy : ByteArray := prog_12_method_8_code
def yX10_copy : MethodName := ⟨RX10, "copy", "([II[II)V"⟩
abbrev cX10_type : ByteArray := prog_12_method_9_code
def yX10_type : MethodName := ⟨RX10, "type", "(I)I"⟩
abbrev cX10_clear : ByteArray := prog_12_method_10_code
def yX10_clear : MethodName := ⟨RX10, "clear", "()I"⟩
abbrev cX10_letterAt : ByteArray := prog_12_method_11_code
def yX10_letterAt : MethodName := ⟨RX10, "letterAt", "(I)I"⟩
abbrev cX10_isFigure : ByteArray := prog_12_method_12_code
def yX10_isFigure : MethodName := ⟨RX10, "isFigure", "(I)Z"⟩
abbrev cX10_next : ByteArray := prog_12_method_13_code
def yX10_next : MethodName := ⟨RX10, "next", "()V"⟩
abbrev cX10_takes : ByteArray := prog_12_method_14_code
def yX10_takes : MethodName := ⟨RX10, "takes", "(IIZ)I"⟩
abbrev cX10_readPerson : ByteArray := prog_12_method_15_code
def yX10_readPerson : MethodName := ⟨RX10, "readPerson", "()V"⟩
abbrev cX10_readRoom : ByteArray := prog_12_method_16_code
def yX10_readRoom : MethodName := ⟨RX10, "readRoom", "()V"⟩
abbrev cX10_readDoor : ByteArray := prog_12_method_17_code
def yX10_readDoor : MethodName := ⟨RX10, "readDoor", "()V"⟩
abbrev cX10_readPlace : ByteArray := prog_12_method_18_code
def yX10_readPlace : MethodName := ⟨RX10, "readPlace", "(I)V"⟩
abbrev cX10_grantsIn : ByteArray := prog_12_method_19_code
def yX10_grantsIn : MethodName := ⟨RX10, "grantsIn", "([IIII)V"⟩
abbrev cX10_readItem : ByteArray := prog_12_method_20_code
def yX10_readItem : MethodName := ⟨RX10, "readItem", "()V"⟩
abbrev cX10_house : ByteArray := prog_12_method_21_code
def yX10_house : MethodName := ⟨RX10, "house", "()I"⟩
abbrev cX10_asItIs : ByteArray := prog_12_method_22_code
def yX10_asItIs : MethodName := ⟨RX10, "asItIs", "()V"⟩
abbrev cX10_isAlive : ByteArray := prog_12_method_23_code
def yX10_isAlive : MethodName := ⟨RX10, "isAlive", "(I)Z"⟩
abbrev cX10_ownerOf : ByteArray := prog_12_method_24_code
def yX10_ownerOf : MethodName := ⟨RX10, "ownerOf", "(I)I"⟩
abbrev cX10_mayBe : ByteArray := prog_12_method_25_code
def yX10_mayBe : MethodName := ⟨RX10, "mayBe", "(II)Z"⟩
abbrev cX10_mayIn : ByteArray := prog_12_method_26_code
def yX10_mayIn : MethodName := ⟨RX10, "mayIn", "(I)I"⟩
abbrev cX10_whoMay : ByteArray := prog_12_method_27_code
def yX10_whoMay : MethodName := ⟨RX10, "whoMay", "(I)I"⟩
abbrev cX10_goesBy : ByteArray := prog_12_method_28_code
def yX10_goesBy : MethodName := ⟨RX10, "goesBy", "(II)I"⟩
abbrev cX10_isCutOffBy : ByteArray := prog_12_method_29_code
def yX10_isCutOffBy : MethodName := ⟨RX10, "isCutOffBy", "(II)Z"⟩
abbrev cX10_isCutOff : ByteArray := prog_12_method_30_code
def yX10_isCutOff : MethodName := ⟨RX10, "isCutOff", "(I)Z"⟩
abbrev cX10_cutOff : ByteArray := prog_12_method_31_code
def yX10_cutOff : MethodName := ⟨RX10, "cutOff", "()I"⟩
abbrev cX10_person : ByteArray := prog_12_method_32_code
def yX10_person : MethodName := ⟨RX10, "person", "(II)I"⟩
abbrev cX10_room : ByteArray := prog_12_method_33_code
def yX10_room : MethodName := ⟨RX10, "room", "(II)I"⟩
abbrev cX10_right : ByteArray := prog_12_method_34_code
def yX10_right : MethodName := ⟨RX10, "right", "(II)I"⟩
abbrev cX10_now : ByteArray := prog_12_method_35_code
def yX10_now : MethodName := ⟨RX10, "now", "(I)I"⟩
abbrev cX10_remembers : ByteArray := prog_12_method_36_code
def yX10_remembers : MethodName := ⟨RX10, "remembers", "()V"⟩
abbrev cX10_day : ByteArray := prog_12_method_37_code
def yX10_day : MethodName := ⟨RX10, "day", "()I"⟩
abbrev cX10_dies : ByteArray := prog_12_method_38_code
def yX10_dies : MethodName := ⟨RX10, "dies", "(I)I"⟩
abbrev cX10_grants : ByteArray := prog_12_method_39_code
def yX10_grants : MethodName := ⟨RX10, "grants", "(III)I"⟩
abbrev cX10_swap : ByteArray := prog_12_method_40_code
def yX10_swap : MethodName := ⟨RX10, "swap", "([III)V"⟩
abbrev cX10_exchanges : ByteArray := prog_12_method_41_code
def yX10_exchanges : MethodName := ⟨RX10, "exchanges", "(II)I"⟩
abbrev cX10_wills : ByteArray := prog_12_method_42_code
def yX10_wills : MethodName := ⟨RX10, "wills", "(II)I"⟩
abbrev cX10_undo : ByteArray := prog_12_method_43_code
def yX10_undo : MethodName := ⟨RX10, "undo", "()I"⟩
abbrev cX10_fromWhen : ByteArray := prog_12_method_44_code
def yX10_fromWhen : MethodName := ⟨RX10, "fromWhen", "(I)I"⟩
abbrev cX10_refused : ByteArray := prog_12_method_45_code
def yX10_refused : MethodName := ⟨RX10, "refused", "(IZ)I"⟩
abbrev cX10_needs : ByteArray := prog_12_method_46_code
def yX10_needs : MethodName := ⟨RX10, "needs", "(I)I"⟩
abbrev cX10_opens : ByteArray := prog_12_method_47_code
def yX10_opens : MethodName := ⟨RX10, "opens", "(I)I"⟩
abbrev cX10_exchange : ByteArray := prog_12_method_48_code
def yX10_exchange : MethodName := ⟨RX10, "exchange", "()I"⟩
abbrev cX10_holdsOut : ByteArray := prog_12_method_49_code
def yX10_holdsOut : MethodName := ⟨RX10, "holdsOut", "()I"⟩
abbrev cX10_dinner : ByteArray := prog_12_method_50_code
def yX10_dinner : MethodName := ⟨RX10, "dinner", "(II)I"⟩
abbrev cX10_seen : ByteArray := prog_12_method_51_code
def yX10_seen : MethodName := ⟨RX10, "seen", "(III)I"⟩
abbrev cX10_forget : ByteArray := prog_12_method_52_code
def yX10_forget : MethodName := ⟨RX10, "forget", "()I"⟩
abbrev cX10_said : ByteArray := prog_12_method_53_code
def yX10_said : MethodName := ⟨RX10, "said", "(I)I"⟩
abbrev cX10_last : ByteArray := prog_12_method_54_code
def yX10_last : MethodName := ⟨RX10, "last", "(I)I"⟩
abbrev cX10_waits : ByteArray := prog_12_method_55_code
def yX10_waits : MethodName := ⟨RX10, "waits", "(II)I"⟩
abbrev cX10_odds : ByteArray := prog_12_method_56_code
def yX10_odds : MethodName := ⟨RX10, "odds", "(III)I"⟩
abbrev cX10_roomRate : ByteArray := prog_12_method_57_code
def yX10_roomRate : MethodName := ⟨RX10, "roomRate", "(I)I"⟩
abbrev cX10_hallRate : ByteArray := prog_12_method_58_code
def yX10_hallRate : MethodName := ⟨RX10, "hallRate", "(I)I"⟩
abbrev cX10_stairRate : ByteArray := prog_12_method_59_code
def yX10_stairRate : MethodName := ⟨RX10, "stairRate", "(I)I"⟩
abbrev cX10_rate : ByteArray := prog_12_method_60_code
def yX10_rate : MethodName := ⟨RX10, "rate", "(II)I"⟩
abbrev cX10_keep : ByteArray := prog_12_method_61_code
def yX10_keep : MethodName := ⟨RX10, "keep", "(I)I"⟩
abbrev cX10_back : ByteArray := prog_12_method_62_code
def yX10_back : MethodName := ⟨RX10, "back", "(I)I"⟩
abbrev cX10_count : ByteArray := prog_12_method_63_code
def yX10_count : MethodName := ⟨RX10, "count", "(I)I"⟩
abbrev cX10_trace : ByteArray := prog_12_method_64_code
def yX10_trace : MethodName := ⟨RX10, "trace", "()J"⟩
def RJ6 : String := "java/lang/Integer"
abbrev cJ6_bitCount_0f7a4 : ByteArray := prog_13_method_49_code
def yJ6_bitCount_0f7a4 : MethodName := ⟨RJ6, "bitCount", "(I)I"⟩
def RJ10 : String := "java/lang/System"
def RL : String := "GhostRoomsLaw"
abbrev cL_law : ByteArray := code
def yL_law : MethodName := ⟨RL, "law", "([I)Z"⟩
end
section
/-! the world: 62 cells by number, their kinds; a pure heap; what the machine's heap has of it -/
def zt : List Cond := lw_tbl.filter goodWord
theorem zt_mem {w : Cond} (i : Nat) (h : lw_tbl[i]? = some w) (hg : goodWord w = true) : w ∈ zt := List.mem_filter.mpr ⟨List.mem_of_getElem? h, hg⟩
theorem zt_good {w : Cond} (h : w ∈ zt) : (w.onTables && w.keeps) = true ∨ ∃ ty, w = .arrayClass ty := good_of_word (List.mem_filter.mp h).2
def b2i (b : Bool) : Int32 := if b then 1 else 0
/-- ints by cell and place; the long of a cell; references by cell and place -/
abbrev PH : Type := (Nat → Nat → Int32) × (Nat → Int64) × (Nat → Nat → Nat)
abbrev Ev : Type := (Nat → ClassId) × (Nat → Nat → Nat) × (Nat → Nat) × ClassId × ClassId × ClassId
def ad (E : Ev) (c : Nat) : Nat := E.2.2.1 c
def NC : Nat := 62
def zkd : List Nat := [7, 4, 6, 9, 9, 0, 9, 9, 9, 5, 9, 9, 9, 3, 11, 2, 9, 9, 9, 9, 9, 2, 9, 9, 9, 9, 9, 1, 9, 9, 9, 2, 9, 9, 9, 9, 9, 1, 9, 9, 9, 2, 9, 9, 9, 9, 9, 8, 9, 9, 9, 9, 9, 9, 10, 9, 9, 9, 9, 9, 9, 9]
def zln : List Nat := [0, 0, 0, 200, 3, 0, 10, 10, 10, 0, 5, 5, 5, 0, 2, 0, 6, 7, 10, 10, 10, 0, 6, 7, 10, 10, 10, 0, 7, 6, 6, 0, 6, 7, 10, 10, 10, 0, 7, 6, 6, 0, 6, 7, 10, 10, 10, 0, 6, 6, 7, 46, 460, 92, 2, 15, 200, 6, 6, 7, 46, 46]
def zft : List (List Nat) := [[0, 2, 2, 2], [0, 0, 2, 2, 2, 2], [0, 0, 0, 2, 2, 2, 2, 2], [1], [2, 2], [0, 2, 2, 2], [2, 0, 0, 0, 0, 0], [2, 2, 2, 2, 2, 0, 2, 2], [0, 0, 2, 2, 2, 2, 2, 0, 2, 2, 0, 2, 1, 2, 0, 0, 0, 0, 0, 0, 0, 0, 2, 2, 2, 2, 2, 0], [], [], [2, 2]]
def zfk : List (List Nat) := [[0, 9, 9, 9], [0, 0, 9, 9, 9, 2], [0, 0, 0, 9, 9, 9, 9, 9], [0], [6, 9], [0, 9, 9, 9], [9, 0, 0, 0, 0, 0], [4, 0, 5, 3, 11, 0, 1, 1], [0, 0, 9, 9, 9, 9, 9, 0, 9, 10, 0, 9, 0, 9, 0, 0, 0, 0, 0, 0, 0, 0, 9, 9, 9, 9, 9, 0], [], [], [2, 2]]
def zfl : List (List Nat) := [[0, 10, 10, 10], [0, 0, 7, 6, 6, 0], [0, 0, 0, 6, 7, 10, 10, 10], [0], [0, 3], [0, 5, 5, 5], [200, 0, 0, 0, 0, 0], [0, 0, 0, 0, 2, 0, 0, 0], [0, 0, 6, 6, 7, 46, 460, 0, 92, 2, 0, 15, 0, 200, 0, 0, 0, 0, 0, 0, 0, 0, 6, 6, 7, 46, 46, 0], [], [], [0, 0]]
def zfn : List Nat := [4, 6, 8, 1, 2, 4, 6, 8, 28]
def kd (c : Nat) : Nat := zkd.getD c 99
def ln (c : Nat) : Nat := zln.getD c 0
def ft (K j : Nat) : Nat := (zft.getD K []).getD j 0
def fk (K j : Nat) : Nat := (zfk.getD K []).getD j 0
def fl (K j : Nat) : Nat := (zfl.getD K []).getD j 0
def fn (K : Nat) : Nat := zfn.getD K 0
def ok (c K n : Nat) : Prop := c < NC ∧ kd c = K ∧ ln c = n
abbrev classes : List vw_C := [(RX1, TX1, 4), (RX2, TX2, 6), (RX4, TX4, 8), (RX5, TX5, 1), (RX6, TX6, 2), (RX7, TX7, 4), (RX8, TX8, 6), (RX9, TX9, 8), (RX10, TX10, 28)]
def fv (E : Ev) (P : PH) (c K j : Nat) : Value := if ft K j = 0 then .int (P.1 c j) else if ft K j = 1 then .long (P.2.1 c) else .ref (ad E (P.2.2 c j))
def en (E : Ev) (P : PH) (c : Nat) : va_E :=
  if kd c = 9 then .inl (E.2.2.2.1, ln c, .inl (P.1 c))
  else if kd c = 10 then .inl (E.2.2.2.2.1, ln c, .inl (P.1 c))
  else if kd c = 11 then .inl (E.2.2.2.2.2, ln c, .inr (.inr (.inr (.inr (fun j => some (ad E (P.2.2 c j)))))))
  else .inr (kd c, (List.range (fn (kd c))).map (fv E P c (kd c)))
def wl (E : Ev) (P : PH) : va_W := (List.range NC).map (fun c => (ad E c, en E P c))
def WT (P : PH) : Prop := ∀ c j, c < NC → ft (kd c) j = 2 → ok (P.2.2 c j) (fk (kd c) j) (fl (kd c) j)
def tys3 (E : Ev) : List (ClassId × FieldType) := [(E.2.2.2.1, .int), (E.2.2.2.2.1, .boolean), (E.2.2.2.2.2, .object RX4)]
def Rep (E : Ev) (P : PH) (H : Heap) : Prop := va_P (E.1, E.2.1) classes (wl E P) H ∧ WT P
def EK (E : Ev) (U : State) : Prop := va_K (E.1, E.2.1) classes (tys3 E) U
def EvOK (E : Ev) : Prop := ∀ c c', c < NC → c' < NC → ad E c = ad E c' → c = c'
def AE (E : Ev) : Nat → Prop := fun q => ∃ c, c < NC ∧ ad E c = q
/-! updates -/
def sA (P : PH) (c : Nat) (f : Nat → Int32) : PH := (fun c' => if c' = c then f else P.1 c', P.2)
def sI (P : PH) (c i : Nat) (v : Int32) : PH := sA P c (upd (P.1 c) i v)
def sL (P : PH) (c : Nat) (v : Int64) : PH := (P.1, fun c' => if c' = c then v else P.2.1 c', P.2.2)
def sR (P : PH) (c i d : Nat) : PH := (P.1, P.2.1, fun c' => if c' = c then (fun j => if j = i then d else P.2.2 c j) else P.2.2 c')
theorem wl_get {E : Ev} {P : PH} {c : Nat} (h : c < NC) : (wl E P)[c]? = some (ad E c, en E P c) := by
  unfold wl
  rw [List.getElem?_map, List.getElem?_range h]
  rfl
theorem wl_set {E : Ev} {P P' : PH} {c : Nat} (hc : c < NC) (h : ∀ c', c' ≠ c → en E P' c' = en E P c') : (wl E P).set c (ad E c, en E P' c) = wl E P' := by
  have hlen : c < (wl E P).length := by unfold wl; rw [List.length_map, List.length_range]; exact hc
  apply List.ext_getElem?
  intro k
  by_cases hk : k = c
  · subst hk
    rw [List.getElem?_set_self hlen, wl_get hc]
  · rw [List.getElem?_set_ne (Ne.symm hk)]
    by_cases hn : k < NC
    · rw [wl_get hn, wl_get hn, h k hk]
    · rw [List.getElem?_eq_none (by unfold wl; rw [List.length_map, List.length_range]; omega), List.getElem?_eq_none (by unfold wl; rw [List.length_map, List.length_range]; omega)]
theorem wl_D {E : Ev} {P : PH} {A : Nat → Prop} (hi : EvOK E) (hA : ∀ c, c < NC → A (ad E c)) : va_D A (wl E P) := by
  have key : ∀ (k : Nat) (q : Nat × va_E), (wl E P)[k]? = some q → k < NC ∧ q.1 = ad E k := by
    intro k q hq
    by_cases hn : k < NC
    · rw [wl_get hn] at hq
      cases hq
      exact ⟨hn, rfl⟩
    · rw [List.getElem?_eq_none (by unfold wl; rw [List.length_map, List.length_range]; omega)] at hq
      cases hq
  refine ⟨fun i j p q hp hq hpq => ?_, fun k q hq => ?_⟩
  · obtain ⟨a1, a2⟩ := key i p hp
    obtain ⟨b1, b2⟩ := key j q hq
    exact hi i j a1 b1 (by rw [← a2, ← b2]; exact hpq)
  · obtain ⟨a1, a2⟩ := key k q hq
    rw [a2]
    exact hA k a1
theorem en_i {E : Ev} {P : PH} {c n : Nat} (h : ok c 9 n) : en E P c = .inl (E.2.2.2.1, n, .inl (P.1 c)) := by
  unfold en
  rw [if_pos h.2.1, h.2.2]
theorem en_z {E : Ev} {P : PH} {c n : Nat} (h : ok c 10 n) : en E P c = .inl (E.2.2.2.2.1, n, .inl (P.1 c)) := by
  unfold en
  rw [if_neg (by rw [h.2.1]; decide), if_pos h.2.1, h.2.2]
theorem en_q {E : Ev} {P : PH} {c n : Nat} (h : ok c 11 n) : en E P c = .inl (E.2.2.2.2.2, n, .inr (.inr (.inr (.inr (fun j => some (ad E (P.2.2 c j))))))) := by
  unfold en
  rw [if_neg (by rw [h.2.1]; decide), if_neg (by rw [h.2.1]; decide), if_pos h.2.1, h.2.2]
theorem en_o {E : Ev} {P : PH} {c K n : Nat} (h : ok c K n) (hK : K < 9) : en E P c = .inr (K, (List.range (fn K)).map (fv E P c K)) := by
  unfold en
  rw [if_neg (by rw [h.2.1]; omega), if_neg (by rw [h.2.1]; omega), if_neg (by rw [h.2.1]; omega), h.2.1]
theorem en_ne {E : Ev} {P P' : PH} {c : Nat} (h1 : P'.1 c = P.1 c) (h2 : P'.2.1 c = P.2.1 c) (h3 : P'.2.2 c = P.2.2 c) : en E P' c = en E P c := by
  have : ∀ K, fv E P' c K = fv E P c K := fun K => by funext j; unfold fv; rw [h1, h2, h3]
  unfold en
  rw [this, h1, h3]
theorem sA_ne {P : PH} {c c' : Nat} {f : Nat → Int32} (h : c' ≠ c) : (sA P c f).1 c' = P.1 c' := if_neg h
theorem sA_eq {P : PH} {c : Nat} {f : Nat → Int32} : (sA P c f).1 c = f := if_pos rfl
theorem sL_ne {P : PH} {c c' : Nat} {v : Int64} (h : c' ≠ c) : (sL P c v).2.1 c' = P.2.1 c' := if_neg h
theorem sL_eq {P : PH} {c : Nat} {v : Int64} : (sL P c v).2.1 c = v := if_pos rfl
theorem sR_ne {P : PH} {c c' i d : Nat} (h : c' ≠ c) : (sR P c i d).2.2 c' = P.2.2 c' := if_neg h
theorem sR_eq {P : PH} {c i d : Nat} : (sR P c i d).2.2 c = fun j => if j = i then d else P.2.2 c j := if_pos rfl
/-- an array's cell rewritten -/
theorem wl_sA {E : Ev} {P : PH} {c n : Nat} {f : Nat → Int32} (h : ok c 9 n) : (wl E P).set c (ad E c, .inl (E.2.2.2.1, n, .inl f)) = wl E (sA P c f) := by
  rw [← wl_set (P := P) (P' := sA P c f) h.1 (fun c' hc => en_ne (sA_ne hc) rfl rfl), en_i h, sA_eq]
theorem wl_sAz {E : Ev} {P : PH} {c n : Nat} {f : Nat → Int32} (h : ok c 10 n) : (wl E P).set c (ad E c, .inl (E.2.2.2.2.1, n, .inl f)) = wl E (sA P c f) := by
  rw [← wl_set (P := P) (P' := sA P c f) h.1 (fun c' hc => en_ne (sA_ne hc) rfl rfl), en_z h, sA_eq]
theorem map_set {f g : Nat → Value} {n j : Nat} (hj : j < n) (h : ∀ k, k ≠ j → g k = f k) : ((List.range n).map f).set j (g j) = (List.range n).map g := by
  apply List.ext_getElem?
  intro k
  by_cases hk : k = j
  · subst hk
    rw [List.getElem?_set_self (by simp; exact hj), List.getElem?_map, List.getElem?_range hj]
    rfl
  · rw [List.getElem?_set_ne (Ne.symm hk)]
    by_cases hn : k < n
    · rw [List.getElem?_map, List.getElem?_map, List.getElem?_range hn]
      simp [h k hk]
    · rw [List.getElem?_eq_none (by simp; omega), List.getElem?_eq_none (by simp; omega)]
/-- an object's cell rewritten -/
theorem wl_sF {E : Ev} {P P' : PH} {c K n j : Nat} {v : Value} (h : ok c K n) (hK : K < 9) (hj : j < fn K) (hv : fv E P' c K j = v) (hs : ∀ k, k ≠ j → fv E P' c K k = fv E P c K k) (hne : ∀ c', c' ≠ c → en E P' c' = en E P c') :
    (wl E P).set c (ad E c, .inr (K, ((List.range (fn K)).map (fv E P c K)).set j v)) = wl E P' := by
  rw [← wl_set (P := P) (P' := P') h.1 hne, en_o h hK, ← hv, map_set hj hs]
theorem fv_get {E : Ev} {P : PH} {c K j : Nat} (hj : j < fn K) : ((List.range (fn K)).map (fv E P c K))[j]? = some (fv E P c K j) := by
  rw [List.getElem?_map, List.getElem?_range hj]
  rfl
theorem WT_sA {P : PH} {c : Nat} {f : Nat → Int32} (h : WT P) : WT (sA P c f) := h
theorem WT_sL {P : PH} {c : Nat} {v : Int64} (h : WT P) : WT (sL P c v) := h
theorem WT_sR {P : PH} {c i d : Nat} (h : WT P) (hd : ft (kd c) i = 2 → ok d (fk (kd c) i) (fl (kd c) i)) : WT (sR P c i d) := by
  intro c' j hc hf
  by_cases hcc : c' = c
  · subst hcc
    rw [sR_eq]
    by_cases hj : j = i
    · subst hj
      simp only [if_true]
      exact hd hf
    · simp only [if_neg hj]
      exact h _ _ hc hf
  · rw [sR_ne hcc]
    exact h _ _ hc hf
/-! the judgement: the machine, at the pure state (P, pc, locals, stack), comes to Q -/
abbrev Fx : Type := Program × Launch × Env × Room × State × MethodId × Array Value × List Frame × Method × Code × (Nat → Prop) × Nat × Nat
def xp (x : Fx) : Program := x.1
def xl (x : Fx) : Launch := x.2.1
def xe (x : Fx) : Env := x.2.2.1
def xR (x : Fx) : Room := x.2.2.2.1
def xs (x : Fx) : State := x.2.2.2.2.1
def xm (x : Fx) : MethodId := x.2.2.2.2.2.1
def xa (x : Fx) : Array Value := x.2.2.2.2.2.2.1
def xb (x : Fx) : List Frame := x.2.2.2.2.2.2.2.1
def xM (x : Fx) : Method := x.2.2.2.2.2.2.2.2.1
def xc (x : Fx) : Code := x.2.2.2.2.2.2.2.2.2.1
def xA (x : Fx) : Nat → Prop := x.2.2.2.2.2.2.2.2.2.2.1
def xk (x : Fx) : Nat := x.2.2.2.2.2.2.2.2.2.2.2.1
def xj (x : Fx) : Nat := x.2.2.2.2.2.2.2.2.2.2.2.2
def Wz (x : Fx) (E : Ev) (nL : Nat) (Q : State → Prop) (P : PH) (pc : Nat) (lv : List (Nat × Value)) (st : List Value) : Prop :=
  ∀ (H : Heap) (locs : List Loc) (ls : Array Slot), Rep E P H → va_S (xA x) (xs x).heap H locs → lv_has ls nL lv → W (xp x) (xl x) (xe x) (xR x) (xs x) (xm x) (xa x) (xb x) (xM x) (xc x) H locs (xk x) (xj x) Q (F0 (xm x) pc ls st)
def ZS (x : Fx) (E : Ev) (rm : Room) (cc : ByteArray) (nL : Nat) (own : String) (ret : Option FieldType) : Prop :=
  (xp x).tables.exec = Jvm.exec ∧ (xc x).code = cc ∧ (xc x).maxLocals = nL ∧ (xs x).vm.findClass own = some (xm x).cls ∧ (∀ w ∈ zt, w.before (xa x) (xs x) = true) ∧ (xM x).sig.returnType = ret ∧ (xM x).locks = false ∧ EK E (xs x) ∧ EvOK E ∧ (∀ c, c < NC → xA x (ad E c)) ∧ xR x = rm ∧ xk x ≤ 100 ∧ xj x ≤ 2000
/-- what a class' objects want -/
def CF (K : Nat) (C : String) (T : u_T) (N : Nat) (ty : Nat → FieldType) : Prop :=
  classes[K]? = some (C, T, N) ∧ (∀ w ∈ u_ws C T N, w ∈ zt) ∧ (∀ k, k < N → parseFieldDescriptor (T k).2.2.1 = some (ty k)) ∧ (∀ a, a < N → ∀ b, b < N → a ≠ b → (T a).2.1 ≠ (T b).2.1) ∧ fn K = N ∧ K < 9
section ROWS
variable {x : Fx} {E : Ev} {rm : Room} {cc : ByteArray} {nL : Nat} {own : String} {ret : Option FieldType} {Q : State → Prop} {P : PH} {pc : Nat} {lv : List (Nat × Value)} {st : List Value}
theorem z_sub (ks : List Nat) {lv' : List (Nat × Value)} (h : lv_pick lv ks = lv') (k : Wz x E nL Q P pc lv' st) : Wz x E nL Q P pc lv st := fun H locs ls h1 h2 h3 => k H locs ls h1 h2 (lv_sub h3 ks h)
theorem z_iconst (S : ZS x E rm cc nL own ret) {n : Int} {v : Int32} (d : decode cc pc = .ok (.iconst n, 1)) (hv : Int32.ofInt n = v) (k : Wz x E nL Q P (pc + 1) lv (.int v :: st)) : Wz x E nL Q P pc lv st := fun H locs ls h1 h2 h3 => lv_iconst S.1 S.2.1 d hv (k H locs ls h1 h2 h3)
theorem z_bipush (S : ZS x E rm cc nL own ret) {n : Int} {v : Int32} (d : decode cc pc = .ok (.bipush n, 2)) (hv : (Int8.ofInt n).toInt32 = v) (k : Wz x E nL Q P (pc + 2) lv (.int v :: st)) : Wz x E nL Q P pc lv st := fun H locs ls h1 h2 h3 => lv_bipush S.1 S.2.1 d hv (k H locs ls h1 h2 h3)
theorem z_sipush (S : ZS x E rm cc nL own ret) {n : Int} {v : Int32} (d : decode cc pc = .ok (.sipush n, 3)) (hv : (Int16.ofInt n).toInt32 = v) (k : Wz x E nL Q P (pc + 3) lv (.int v :: st)) : Wz x E nL Q P pc lv st := fun H locs ls h1 h2 h3 => lv_sipush S.1 S.2.1 d hv (k H locs ls h1 h2 h3)
theorem z_lconst (S : ZS x E rm cc nL own ret) {n : Fin 2} {v : Int64} (d : decode cc pc = .ok (.lconst n, 1)) (hv : Int64.ofNat (n : Nat) = v) (k : Wz x E nL Q P (pc + 1) lv (.long v :: st)) : Wz x E nL Q P pc lv st := fun H locs ls h1 h2 h3 => lv_lconst S.1 S.2.1 d hv (k H locs ls h1 h2 h3)
theorem z_ldc (S : ZS x E rm cc nL own ret) {index : Nat} {v : Int32} (hw : Cond.constant own index v ∈ zt) (d : decode cc pc = .ok (.ldc index, 2)) (k : Wz x E nL Q P (pc + 2) lv (.int v :: st)) : Wz x E nL Q P pc lv st := fun H locs ls h1 h2 h3 => lv_ldc S.1 S.2.1 S.2.2.2.1 (S.2.2.2.2.1 _ hw) d (k H locs ls h1 h2 h3)
theorem z_ldcw (S : ZS x E rm cc nL own ret) {index : Nat} {v : Int32} (hw : Cond.constant own index v ∈ zt) (d : decode cc pc = .ok (.ldc_w index, 3)) (k : Wz x E nL Q P (pc + 3) lv (.int v :: st)) : Wz x E nL Q P pc lv st := fun H locs ls h1 h2 h3 => lv_ldcw S.1 S.2.1 S.2.2.2.1 (S.2.2.2.2.1 _ hw) d (k H locs ls h1 h2 h3)
theorem z_ldc2 (S : ZS x E rm cc nL own ret) {index : Nat} {v : Int64} (hw : Cond.constantLong own index v ∈ zt) (d : decode cc pc = .ok (.ldc2_w index, 3)) (k : Wz x E nL Q P (pc + 3) lv (.long v :: st)) : Wz x E nL Q P pc lv st := fun H locs ls h1 h2 h3 => lv_ldc2 S.1 S.2.1 S.2.2.2.1 (S.2.2.2.2.1 _ hw) d (k H locs ls h1 h2 h3)
theorem z_iload_n (S : ZS x E rm cc nL own ret) (j : Nat) {q : Fin 4} {i : Nat} {v : Int32} (d : decode cc pc = .ok (.iload_n q, 1)) (hi : (q : Nat) = i) (hj : lv[j]? = some (i, .int v)) (k : Wz x E nL Q P (pc + 1) lv (.int v :: st)) : Wz x E nL Q P pc lv st := fun H locs ls h1 h2 h3 => lv_iload_n S.1 S.2.1 d hi (lv_at h3 j hj) (k H locs ls h1 h2 h3)
theorem z_iload (S : ZS x E rm cc nL own ret) (j : Nat) {i : Nat} {v : Int32} (d : decode cc pc = .ok (.iload i, 2)) (hj : lv[j]? = some (i, .int v)) (k : Wz x E nL Q P (pc + 2) lv (.int v :: st)) : Wz x E nL Q P pc lv st := fun H locs ls h1 h2 h3 => lv_iload S.1 S.2.1 d (lv_at h3 j hj) (k H locs ls h1 h2 h3)
theorem z_aload_n (S : ZS x E rm cc nL own ret) (j : Nat) {q : Fin 4} {i : Nat} {v : Nat} (d : decode cc pc = .ok (.aload_n q, 1)) (hi : (q : Nat) = i) (hj : lv[j]? = some (i, .ref v)) (k : Wz x E nL Q P (pc + 1) lv (.ref v :: st)) : Wz x E nL Q P pc lv st := fun H locs ls h1 h2 h3 => lv_aload_n S.1 S.2.1 d hi (lv_at h3 j hj) (k H locs ls h1 h2 h3)
theorem z_aload (S : ZS x E rm cc nL own ret) (j : Nat) {i : Nat} {v : Nat} (d : decode cc pc = .ok (.aload i, 2)) (hj : lv[j]? = some (i, .ref v)) (k : Wz x E nL Q P (pc + 2) lv (.ref v :: st)) : Wz x E nL Q P pc lv st := fun H locs ls h1 h2 h3 => lv_aload S.1 S.2.1 d (lv_at h3 j hj) (k H locs ls h1 h2 h3)
theorem z_istore_n (S : ZS x E rm cc nL own ret) {q : Fin 4} {i : Nat} {v : Int32} {lv' : List (Nat × Value)} (d : decode cc pc = .ok (.istore_n q, 1)) (hi : (q : Nat) = i) (hn : i < nL) (hl : (i, Value.int v) :: lv.filter (fun q => !(q.1 == i) && !(q.1 + 1 == i && q.2.category == 2)) = lv') (k : Wz x E nL Q P (pc + 1) lv' st) : Wz x E nL Q P pc lv (.int v :: st) := fun H locs _ h1 h2 h3 => lv_istore_n S.1 S.2.1 d hi h3 hn hl (fun ls h3 => k H locs ls h1 h2 h3)
theorem z_istore (S : ZS x E rm cc nL own ret) {i : Nat} {v : Int32} {lv' : List (Nat × Value)} (d : decode cc pc = .ok (.istore i, 2)) (hn : i < nL) (hl : (i, Value.int v) :: lv.filter (fun q => !(q.1 == i) && !(q.1 + 1 == i && q.2.category == 2)) = lv') (k : Wz x E nL Q P (pc + 2) lv' st) : Wz x E nL Q P pc lv (.int v :: st) := fun H locs _ h1 h2 h3 => lv_istore S.1 S.2.1 d h3 hn hl (fun ls h3 => k H locs ls h1 h2 h3)
theorem z_astore_n (S : ZS x E rm cc nL own ret) {q : Fin 4} {i : Nat} {v : Nat} {lv' : List (Nat × Value)} (d : decode cc pc = .ok (.astore_n q, 1)) (hi : (q : Nat) = i) (hn : i < nL) (hl : (i, Value.ref v) :: lv.filter (fun q => !(q.1 == i) && !(q.1 + 1 == i && q.2.category == 2)) = lv') (k : Wz x E nL Q P (pc + 1) lv' st) : Wz x E nL Q P pc lv (.ref v :: st) := fun H locs _ h1 h2 h3 => lv_astore_n S.1 S.2.1 d hi h3 hn hl (fun ls h3 => k H locs ls h1 h2 h3)
theorem z_iinc (S : ZS x E rm cc nL own ret) (j : Nat) {i : Nat} {n : Int} {u v : Int32} {lv' : List (Nat × Value)} (d : decode cc pc = .ok (.iinc i n, 3)) (hj : lv[j]? = some (i, .int u)) (hv : u + Int32.ofInt n = v) (hn : i < nL) (hl : (i, Value.int v) :: lv.filter (fun q => !(q.1 == i) && !(q.1 + 1 == i && q.2.category == 2)) = lv') (k : Wz x E nL Q P (pc + 3) lv' st) : Wz x E nL Q P pc lv st := fun H locs _ h1 h2 h3 => lv_iinc S.1 S.2.1 d h3 hj hv hn hl (fun ls h3 => k H locs ls h1 h2 h3)
theorem z_iadd (S : ZS x E rm cc nL own ret) {a b : Int32} (d : decode cc pc = .ok (.iadd, 1)) (k : Wz x E nL Q P (pc + 1) lv (.int (a + b) :: st)) : Wz x E nL Q P pc lv (.int b :: .int a :: st) := fun H locs ls h1 h2 h3 => lv_iadd S.1 S.2.1 d (k H locs ls h1 h2 h3)
theorem z_isub (S : ZS x E rm cc nL own ret) {a b : Int32} (d : decode cc pc = .ok (.isub, 1)) (k : Wz x E nL Q P (pc + 1) lv (.int (a - b) :: st)) : Wz x E nL Q P pc lv (.int b :: .int a :: st) := fun H locs ls h1 h2 h3 => lv_isub S.1 S.2.1 d (k H locs ls h1 h2 h3)
theorem z_imul (S : ZS x E rm cc nL own ret) {a b : Int32} (d : decode cc pc = .ok (.imul, 1)) (k : Wz x E nL Q P (pc + 1) lv (.int (a * b) :: st)) : Wz x E nL Q P pc lv (.int b :: .int a :: st) := fun H locs ls h1 h2 h3 => lv_imul S.1 S.2.1 d (k H locs ls h1 h2 h3)
theorem z_iand (S : ZS x E rm cc nL own ret) {a b : Int32} (d : decode cc pc = .ok (.iand, 1)) (k : Wz x E nL Q P (pc + 1) lv (.int (a &&& b) :: st)) : Wz x E nL Q P pc lv (.int b :: .int a :: st) := fun H locs ls h1 h2 h3 => lv_iand S.1 S.2.1 d (k H locs ls h1 h2 h3)
theorem z_ior (S : ZS x E rm cc nL own ret) {a b : Int32} (d : decode cc pc = .ok (.ior, 1)) (k : Wz x E nL Q P (pc + 1) lv (.int (a ||| b) :: st)) : Wz x E nL Q P pc lv (.int b :: .int a :: st) := fun H locs ls h1 h2 h3 => lv_ior S.1 S.2.1 d (k H locs ls h1 h2 h3)
theorem z_ixor (S : ZS x E rm cc nL own ret) {a b : Int32} (d : decode cc pc = .ok (.ixor, 1)) (k : Wz x E nL Q P (pc + 1) lv (.int (a ^^^ b) :: st)) : Wz x E nL Q P pc lv (.int b :: .int a :: st) := fun H locs ls h1 h2 h3 => lv_ixor S.1 S.2.1 d (k H locs ls h1 h2 h3)
theorem z_ishl (S : ZS x E rm cc nL own ret) {a b : Int32} (d : decode cc pc = .ok (.ishl, 1)) (k : Wz x E nL Q P (pc + 1) lv (.int (a <<< (b &&& 31)) :: st)) : Wz x E nL Q P pc lv (.int b :: .int a :: st) := fun H locs ls h1 h2 h3 => lv_ishl S.1 S.2.1 d (k H locs ls h1 h2 h3)
theorem z_ishr (S : ZS x E rm cc nL own ret) {a b : Int32} (d : decode cc pc = .ok (.ishr, 1)) (k : Wz x E nL Q P (pc + 1) lv (.int (a >>> (b &&& 31)) :: st)) : Wz x E nL Q P pc lv (.int b :: .int a :: st) := fun H locs ls h1 h2 h3 => lv_ishr S.1 S.2.1 d (k H locs ls h1 h2 h3)
theorem z_iushr (S : ZS x E rm cc nL own ret) {a b : Int32} (d : decode cc pc = .ok (.iushr, 1)) (k : Wz x E nL Q P (pc + 1) lv (.int (a.toUInt32 >>> (b.toUInt32 &&& Int32.toUInt32 31)).toInt32 :: st)) : Wz x E nL Q P pc lv (.int b :: .int a :: st) := fun H locs ls h1 h2 h3 => lv_iushr S.1 S.2.1 d rfl (k H locs ls h1 h2 h3)
theorem z_idiv (S : ZS x E rm cc nL own ret) {α : Type} {A : Option α} {q : α} {a b : Int32} (d : decode cc pc = .ok (.idiv, 1)) (hf : (if b = 0 then none else A) = some q) (k : A = some q → Wz x E nL Q P (pc + 1) lv (.int (a / b) :: st)) : Wz x E nL Q P pc lv (.int b :: .int a :: st) := by
  by_cases h : b = 0
  · rw [if_pos h] at hf
    cases hf
  · rw [if_neg h] at hf
    exact fun H locs ls h1 h2 h3 => lv_idiv S.1 S.2.1 d h (k hf H locs ls h1 h2 h3)
theorem z_irem (S : ZS x E rm cc nL own ret) {α : Type} {A : Option α} {q : α} {a b : Int32} (d : decode cc pc = .ok (.irem, 1)) (hf : (if b = 0 then none else A) = some q) (k : A = some q → Wz x E nL Q P (pc + 1) lv (.int (a - a / b * b) :: st)) : Wz x E nL Q P pc lv (.int b :: .int a :: st) := by
  by_cases h : b = 0
  · rw [if_pos h] at hf
    cases hf
  · rw [if_neg h] at hf
    exact fun H locs ls h1 h2 h3 => lv_irem S.1 S.2.1 d h (k hf H locs ls h1 h2 h3)
theorem z_ladd (S : ZS x E rm cc nL own ret) {a b : Int64} (d : decode cc pc = .ok (.ladd, 1)) (k : Wz x E nL Q P (pc + 1) lv (.long (a + b) :: st)) : Wz x E nL Q P pc lv (.long b :: .long a :: st) := fun H locs ls h1 h2 h3 => lv_ladd S.1 S.2.1 d (k H locs ls h1 h2 h3)
theorem z_dup (S : ZS x E rm cc nL own ret) {v : Value} (d : decode cc pc = .ok (.dup, 1)) (hv : v.category = 1) (k : Wz x E nL Q P (pc + 1) lv (v :: v :: st)) : Wz x E nL Q P pc lv (v :: st) := fun H locs ls h1 h2 h3 => lv_dup S.1 S.2.1 d hv (k H locs ls h1 h2 h3)
theorem z_dup2 (S : ZS x E rm cc nL own ret) {v w : Value} (d : decode cc pc = .ok (.dup2, 1)) (hv : v.category = 1) (hw : w.category = 1) (k : Wz x E nL Q P (pc + 1) lv (v :: w :: v :: w :: st)) : Wz x E nL Q P pc lv (v :: w :: st) := fun H locs ls h1 h2 h3 => lv_dup2_11 S.1 S.2.1 d hv hw (k H locs ls h1 h2 h3)
theorem z_goto (S : ZS x E rm cc nL own ret) {off : Int} {tgt : Nat} (d : decode cc pc = .ok (.goto off, 3)) (ht : (pc : Int) + off = (tgt : Int)) (k : Wz x E nL Q P tgt lv st) : Wz x E nL Q P pc lv st := fun H locs ls h1 h2 h3 => lv_goto S.1 S.2.1 d ht (k H locs ls h1 h2 h3)
theorem z_if_eq (S : ZS x E rm cc nL own ret) {α : Type} {A B : Option α} {q : α} {a : Int32} {off : Int} {tgt : Nat} {hdec : Decidable (a = 0)} (d : decode cc pc = .ok (.ifCond .eq off, 3)) (ht : (pc : Int) + off = (tgt : Int)) (hf : (if a = 0 then A else B) = some q) (kt : A = some q → Wz x E nL Q P tgt lv st) (kf : B = some q → Wz x E nL Q P (pc + 3) lv st) : Wz x E nL Q P pc lv (.int a :: st) := fun H locs ls h1 h2 h3 => lv_if_eq S.1 S.2.1 d ht (fun h => kt (by rw [if_pos h] at hf; exact hf) H locs ls h1 h2 h3) (fun h => kf (by rw [if_neg h] at hf; exact hf) H locs ls h1 h2 h3)
theorem z_if_ne (S : ZS x E rm cc nL own ret) {α : Type} {A B : Option α} {q : α} {a : Int32} {off : Int} {tgt : Nat} {hdec : Decidable (a = 0)} (d : decode cc pc = .ok (.ifCond .ne off, 3)) (ht : (pc : Int) + off = (tgt : Int)) (hf : (if a = 0 then A else B) = some q) (kt : A = some q → Wz x E nL Q P (pc + 3) lv st) (kf : B = some q → Wz x E nL Q P tgt lv st) : Wz x E nL Q P pc lv (.int a :: st) := fun H locs ls h1 h2 h3 => lv_if_ne S.1 S.2.1 d ht (fun h => kf (by rw [if_neg h] at hf; exact hf) H locs ls h1 h2 h3) (fun h => kt (by rw [if_pos h] at hf; exact hf) H locs ls h1 h2 h3)
theorem z_if_lt (S : ZS x E rm cc nL own ret) {α : Type} {A B : Option α} {q : α} {a : Int32} {off : Int} {tgt : Nat} {hdec : Decidable (a < 0)} (d : decode cc pc = .ok (.ifCond .lt off, 3)) (ht : (pc : Int) + off = (tgt : Int)) (hf : (if a < 0 then A else B) = some q) (kt : A = some q → Wz x E nL Q P tgt lv st) (kf : B = some q → Wz x E nL Q P (pc + 3) lv st) : Wz x E nL Q P pc lv (.int a :: st) := fun H locs ls h1 h2 h3 => lv_if_lt S.1 S.2.1 d ht (fun h => kt (by rw [if_pos h] at hf; exact hf) H locs ls h1 h2 h3) (fun h => kf (by rw [if_neg h] at hf; exact hf) H locs ls h1 h2 h3)
theorem z_if_le (S : ZS x E rm cc nL own ret) {α : Type} {A B : Option α} {q : α} {a : Int32} {off : Int} {tgt : Nat} {hdec : Decidable (a ≤ 0)} (d : decode cc pc = .ok (.ifCond .le off, 3)) (ht : (pc : Int) + off = (tgt : Int)) (hf : (if a ≤ 0 then A else B) = some q) (kt : A = some q → Wz x E nL Q P tgt lv st) (kf : B = some q → Wz x E nL Q P (pc + 3) lv st) : Wz x E nL Q P pc lv (.int a :: st) := fun H locs ls h1 h2 h3 => lv_if_le S.1 S.2.1 d ht (fun h => kt (by rw [if_pos h] at hf; exact hf) H locs ls h1 h2 h3) (fun h => kf (by rw [if_neg h] at hf; exact hf) H locs ls h1 h2 h3)
theorem z_if_gt (S : ZS x E rm cc nL own ret) {α : Type} {A B : Option α} {q : α} {a : Int32} {off : Int} {tgt : Nat} {hdec : Decidable (0 < a)} (d : decode cc pc = .ok (.ifCond .gt off, 3)) (ht : (pc : Int) + off = (tgt : Int)) (hf : (if 0 < a then A else B) = some q) (kt : A = some q → Wz x E nL Q P tgt lv st) (kf : B = some q → Wz x E nL Q P (pc + 3) lv st) : Wz x E nL Q P pc lv (.int a :: st) := fun H locs ls h1 h2 h3 => lv_if_gt S.1 S.2.1 d ht (fun h => kt (by rw [if_pos h] at hf; exact hf) H locs ls h1 h2 h3) (fun h => kf (by rw [if_neg h] at hf; exact hf) H locs ls h1 h2 h3)
theorem z_if_ge (S : ZS x E rm cc nL own ret) {α : Type} {A B : Option α} {q : α} {a : Int32} {off : Int} {tgt : Nat} {hdec : Decidable (0 ≤ a)} (d : decode cc pc = .ok (.ifCond .ge off, 3)) (ht : (pc : Int) + off = (tgt : Int)) (hf : (if 0 ≤ a then A else B) = some q) (kt : A = some q → Wz x E nL Q P tgt lv st) (kf : B = some q → Wz x E nL Q P (pc + 3) lv st) : Wz x E nL Q P pc lv (.int a :: st) := fun H locs ls h1 h2 h3 => lv_if_ge S.1 S.2.1 d ht (fun h => kt (by rw [if_pos h] at hf; exact hf) H locs ls h1 h2 h3) (fun h => kf (by rw [if_neg h] at hf; exact hf) H locs ls h1 h2 h3)
theorem z_icmp_eq (S : ZS x E rm cc nL own ret) {α : Type} {A B : Option α} {q : α} {a b : Int32} {off : Int} {tgt : Nat} {hdec : Decidable (a = b)} (d : decode cc pc = .ok (.if_icmp .eq off, 3)) (ht : (pc : Int) + off = (tgt : Int)) (hf : (if a = b then A else B) = some q) (kt : A = some q → Wz x E nL Q P tgt lv st) (kf : B = some q → Wz x E nL Q P (pc + 3) lv st) : Wz x E nL Q P pc lv (.int b :: .int a :: st) := fun H locs ls h1 h2 h3 => lv_icmp_eq S.1 S.2.1 d ht (fun h => kt (by rw [if_pos h] at hf; exact hf) H locs ls h1 h2 h3) (fun h => kf (by rw [if_neg h] at hf; exact hf) H locs ls h1 h2 h3)
theorem z_icmp_ne (S : ZS x E rm cc nL own ret) {α : Type} {A B : Option α} {q : α} {a b : Int32} {off : Int} {tgt : Nat} {hdec : Decidable (a = b)} (d : decode cc pc = .ok (.if_icmp .ne off, 3)) (ht : (pc : Int) + off = (tgt : Int)) (hf : (if a = b then A else B) = some q) (kt : A = some q → Wz x E nL Q P (pc + 3) lv st) (kf : B = some q → Wz x E nL Q P tgt lv st) : Wz x E nL Q P pc lv (.int b :: .int a :: st) := fun H locs ls h1 h2 h3 => lv_icmp_ne S.1 S.2.1 d ht (fun h => kf (by rw [if_neg h] at hf; exact hf) H locs ls h1 h2 h3) (fun h => kt (by rw [if_pos h] at hf; exact hf) H locs ls h1 h2 h3)
theorem z_icmp_lt (S : ZS x E rm cc nL own ret) {α : Type} {A B : Option α} {q : α} {a b : Int32} {off : Int} {tgt : Nat} {hdec : Decidable (a < b)} (d : decode cc pc = .ok (.if_icmp .lt off, 3)) (ht : (pc : Int) + off = (tgt : Int)) (hf : (if a < b then A else B) = some q) (kt : A = some q → Wz x E nL Q P tgt lv st) (kf : B = some q → Wz x E nL Q P (pc + 3) lv st) : Wz x E nL Q P pc lv (.int b :: .int a :: st) := fun H locs ls h1 h2 h3 => lv_icmp_lt S.1 S.2.1 d ht (fun h => kt (by rw [if_pos h] at hf; exact hf) H locs ls h1 h2 h3) (fun h => kf (by rw [if_neg h] at hf; exact hf) H locs ls h1 h2 h3)
theorem z_icmp_le (S : ZS x E rm cc nL own ret) {α : Type} {A B : Option α} {q : α} {a b : Int32} {off : Int} {tgt : Nat} {hdec : Decidable (a ≤ b)} (d : decode cc pc = .ok (.if_icmp .le off, 3)) (ht : (pc : Int) + off = (tgt : Int)) (hf : (if a ≤ b then A else B) = some q) (kt : A = some q → Wz x E nL Q P tgt lv st) (kf : B = some q → Wz x E nL Q P (pc + 3) lv st) : Wz x E nL Q P pc lv (.int b :: .int a :: st) := fun H locs ls h1 h2 h3 => lv_icmp_le S.1 S.2.1 d ht (fun h => kt (by rw [if_pos h] at hf; exact hf) H locs ls h1 h2 h3) (fun h => kf (by rw [if_neg h] at hf; exact hf) H locs ls h1 h2 h3)
theorem z_icmp_gt (S : ZS x E rm cc nL own ret) {α : Type} {A B : Option α} {q : α} {a b : Int32} {off : Int} {tgt : Nat} {hdec : Decidable (b < a)} (d : decode cc pc = .ok (.if_icmp .gt off, 3)) (ht : (pc : Int) + off = (tgt : Int)) (hf : (if b < a then A else B) = some q) (kt : A = some q → Wz x E nL Q P tgt lv st) (kf : B = some q → Wz x E nL Q P (pc + 3) lv st) : Wz x E nL Q P pc lv (.int b :: .int a :: st) := fun H locs ls h1 h2 h3 => lv_icmp_gt S.1 S.2.1 d ht (fun h => kt (by rw [if_pos h] at hf; exact hf) H locs ls h1 h2 h3) (fun h => kf (by rw [if_neg h] at hf; exact hf) H locs ls h1 h2 h3)
theorem z_icmp_ge (S : ZS x E rm cc nL own ret) {α : Type} {A B : Option α} {q : α} {a b : Int32} {off : Int} {tgt : Nat} {hdec : Decidable (b ≤ a)} (d : decode cc pc = .ok (.if_icmp .ge off, 3)) (ht : (pc : Int) + off = (tgt : Int)) (hf : (if b ≤ a then A else B) = some q) (kt : A = some q → Wz x E nL Q P tgt lv st) (kf : B = some q → Wz x E nL Q P (pc + 3) lv st) : Wz x E nL Q P pc lv (.int b :: .int a :: st) := fun H locs ls h1 h2 h3 => lv_icmp_ge S.1 S.2.1 d ht (fun h => kt (by rw [if_pos h] at hf; exact hf) H locs ls h1 h2 h3) (fun h => kf (by rw [if_neg h] at hf; exact hf) H locs ls h1 h2 h3)
theorem z_tif {α : Type} {A B : Option α} {q : α} {c G : Prop} {hdec : Decidable c} (hf : (if c then A else B) = some q) (kt : c → A = some q → G) (kf : ¬ c → B = some q → G) : G := by
  by_cases h : c
  · rw [if_pos h] at hf
    exact kt h hf
  · rw [if_neg h] at hf
    exact kf h hf
theorem z_let {α β : Type} {T : β} {B : β → Option α} {q : α} {G : Prop} (hf : (fun J => B J) T = some q) (k : ∀ J, J = T → B J = some q → G) : G := k T rfl hf
theorem z_tabIn (S : ZS x E rm cc nL own ret) {dflt lo hi : Int} {offs : Array Int} {len : Nat} {v : Int32} {off : Int} {tgt : Nat} (i : Nat) (d : decode cc pc = .ok (.tableswitch dflt lo hi offs, len)) (hv : v.toInt = lo + i) (hh : lo + i ≤ hi) (ho : offs[i]? = some off) (ht : (pc : Int) + off = (tgt : Int)) (k : Wz x E nL Q P tgt lv st) : Wz x E nL Q P pc lv (.int v :: st) :=
  fun H locs ls h1 h2 h3 => lv_tableIn S.1 S.2.1 d (by omega) (by omega) (by rw [show (v.toInt - lo).toNat = i by omega]; exact ho) ht (k H locs ls h1 h2 h3)
theorem z_tabOut (S : ZS x E rm cc nL own ret) {dflt lo hi : Int} {offs : Array Int} {len : Nat} {v : Int32} {tgt : Nat} (d : decode cc pc = .ok (.tableswitch dflt lo hi offs, len)) (h : v.toInt < lo ∨ hi < v.toInt) (ht : (pc : Int) + dflt = (tgt : Int)) (k : Wz x E nL Q P tgt lv st) : Wz x E nL Q P pc lv (.int v :: st) :=
  fun H locs ls h1 h2 h3 => lv_tableOut S.1 S.2.1 d h ht (k H locs ls h1 h2 h3)
theorem z_lookup (S : ZS x E rm cc nL own ret) {dflt : Int} {ps : Array (Int × Int)} {len : Nat} {v : Int32} {off : Int} {tgt : Nat} (d : decode cc pc = .ok (.lookupswitch dflt ps, len)) (hp : (ps.toList.zip (ps.toList.drop 1)).all (fun (a, next) => a.1 < next.1) = true) (ho : Op.lookupswitch.offset ps.toList dflt v.toInt = off) (ht : (pc : Int) + off = (tgt : Int)) (k : Wz x E nL Q P tgt lv st) : Wz x E nL Q P pc lv (.int v :: st) :=
  fun H locs ls h1 h2 h3 => lv_lookup S.1 S.2.1 d hp ho ht (k H locs ls h1 h2 h3)
theorem z_getI (S : ZS x E rm cc nL own ret) {K N h n : Nat} {C : String} {T : u_T} {ty : Nat → FieldType} (cf : CF K C T N ty) (hk : ok h K n) (j : Nat) {idx : Nat} (hj : j < N) (hft : ft K j = 0) (hw : Cond.fieldLink own idx (T j).1 (T j).2.1 (T j).2.2.1 ∈ zt) (d : decode cc pc = .ok (.getfield idx, 3)) (k : Wz x E nL Q P (pc + 3) lv (.int (P.1 h j) :: st)) : Wz x E nL Q P pc lv (.ref (ad E h) :: st) :=
  fun H locs ls h1 h2 h3 => va_get S.1 S.2.1 S.2.2.2.2.1 cf.2.1 S.2.2.2.1 S.2.2.2.2.2.2.2.1 h1.1 h ((wl_get hk.1).trans (by rw [en_o hk cf.2.2.2.2.2])) cf.1 j hj (S.2.2.2.2.1 _ hw) (fun _ z => z) (by rw [fv_get (by rw [cf.2.2.2.2.1]; exact hj)]; unfold fv; rw [if_pos hft]) d (k H locs ls h1 h2 h3)
theorem z_getL (S : ZS x E rm cc nL own ret) {K N h n : Nat} {C : String} {T : u_T} {ty : Nat → FieldType} (cf : CF K C T N ty) (hk : ok h K n) (j : Nat) {idx : Nat} (hj : j < N) (hft : ft K j = 1) (hw : Cond.fieldLink own idx (T j).1 (T j).2.1 (T j).2.2.1 ∈ zt) (d : decode cc pc = .ok (.getfield idx, 3)) (k : Wz x E nL Q P (pc + 3) lv (.long (P.2.1 h) :: st)) : Wz x E nL Q P pc lv (.ref (ad E h) :: st) :=
  fun H locs ls h1 h2 h3 => va_get S.1 S.2.1 S.2.2.2.2.1 cf.2.1 S.2.2.2.1 S.2.2.2.2.2.2.2.1 h1.1 h ((wl_get hk.1).trans (by rw [en_o hk cf.2.2.2.2.2])) cf.1 j hj (S.2.2.2.2.1 _ hw) (fun _ z => z) (by rw [fv_get (by rw [cf.2.2.2.2.1]; exact hj)]; unfold fv; rw [if_neg (by omega), if_pos hft]) d (k H locs ls h1 h2 h3)
theorem z_getR (S : ZS x E rm cc nL own ret) {K N h n K' n' : Nat} {C : String} {T : u_T} {ty : Nat → FieldType} (cf : CF K C T N ty) (hk : ok h K n) (j : Nat) {idx : Nat} (hj : j < N) (hft : ft K j = 2) (hK : fk K j = K') (hn : fl K j = n') (hw : Cond.fieldLink own idx (T j).1 (T j).2.1 (T j).2.2.1 ∈ zt) (d : decode cc pc = .ok (.getfield idx, 3)) (k : ok (P.2.2 h j) K' n' → Wz x E nL Q P (pc + 3) lv (.ref (ad E (P.2.2 h j)) :: st)) : Wz x E nL Q P pc lv (.ref (ad E h) :: st) :=
  fun H locs ls h1 h2 h3 => va_get S.1 S.2.1 S.2.2.2.2.1 cf.2.1 S.2.2.2.1 S.2.2.2.2.2.2.2.1 h1.1 h ((wl_get hk.1).trans (by rw [en_o hk cf.2.2.2.2.2])) cf.1 j hj (S.2.2.2.2.1 _ hw) (fun _ z => z) (by rw [fv_get (by rw [cf.2.2.2.2.1]; exact hj)]; unfold fv; rw [if_neg (by omega), if_neg (by omega)]) d (k (by have := h1.2 h j hk.1 (by rw [hk.2.1]; exact hft); rw [hk.2.1, hK, hn] at this; exact this) H locs ls h1 h2 h3)
theorem z_putI (S : ZS x E rm cc nL own ret) {K N h n : Nat} {C : String} {T : u_T} {ty : Nat → FieldType} (cf : CF K C T N ty) (hk : ok h K n) (j : Nat) {idx : Nat} {v : Int32} (hj : j < N) (hft : ft K j = 0) (hfin : (T j).2.2.2 = false) (hna : narrow (ty j) (.int v) = .int v) (hfi : fits (ty j) (.int v) = true) (hw : Cond.fieldLink own idx (T j).1 (T j).2.1 (T j).2.2.1 ∈ zt) (d : decode cc pc = .ok (.putfield idx, 3)) (k : Wz x E nL Q (sI P h j v) (pc + 3) lv st) : Wz x E nL Q P pc lv (.int v :: .ref (ad E h) :: st) :=
  fun H locs ls h1 h2 h3 => va_put S.1 S.2.1 S.2.2.2.2.1 cf.2.1 ty cf.2.2.1 cf.2.2.2.1 S.2.2.2.1 S.2.2.2.2.2.2.2.1 h1.1 (wl_D S.2.2.2.2.2.2.2.2.1 S.2.2.2.2.2.2.2.2.2.1) h2 h ((wl_get hk.1).trans (by rw [en_o hk cf.2.2.2.2.2])) cf.1 j hj (S.2.2.2.2.1 _ hw) (fun _ z => z) hfin (cf.2.2.1 j hj) hna hfi (by rw [List.length_map, List.length_range, cf.2.2.2.2.1]; exact hj) d
    (fun H1 locs1 g1 _ g3 => k H1 locs1 ls ⟨by
      rw [← wl_sF (P := P) (P' := sI P h j v) (v := .int v) hk cf.2.2.2.2.2 (by rw [cf.2.2.2.2.1]; exact hj) (by unfold fv; rw [if_pos hft]; unfold sI; rw [sA_eq]; simp [upd]) (fun k' hk' => by unfold fv sI; rw [sA_eq]; simp [upd, hk']; rfl) (fun c' hc => en_ne (sA_ne hc) rfl rfl)]
      exact g1, h1.2⟩ g3 h3)
theorem z_putL (S : ZS x E rm cc nL own ret) {K N h n : Nat} {C : String} {T : u_T} {ty : Nat → FieldType} (cf : CF K C T N ty) (hk : ok h K n) (j : Nat) {idx : Nat} {v : Int64} (hj : j < N) (hft : ft K j = 1) (hsole : ∀ k, k ≠ j → ¬ ft K k = 1) (hfin : (T j).2.2.2 = false) (hna : narrow (ty j) (.long v) = .long v) (hfi : fits (ty j) (.long v) = true) (hw : Cond.fieldLink own idx (T j).1 (T j).2.1 (T j).2.2.1 ∈ zt) (d : decode cc pc = .ok (.putfield idx, 3)) (k : Wz x E nL Q (sL P h v) (pc + 3) lv st) : Wz x E nL Q P pc lv (.long v :: .ref (ad E h) :: st) :=
  fun H locs ls h1 h2 h3 => va_put S.1 S.2.1 S.2.2.2.2.1 cf.2.1 ty cf.2.2.1 cf.2.2.2.1 S.2.2.2.1 S.2.2.2.2.2.2.2.1 h1.1 (wl_D S.2.2.2.2.2.2.2.2.1 S.2.2.2.2.2.2.2.2.2.1) h2 h ((wl_get hk.1).trans (by rw [en_o hk cf.2.2.2.2.2])) cf.1 j hj (S.2.2.2.2.1 _ hw) (fun _ z => z) hfin (cf.2.2.1 j hj) hna hfi (by rw [List.length_map, List.length_range, cf.2.2.2.2.1]; exact hj) d
    (fun H1 locs1 g1 _ g3 => k H1 locs1 ls ⟨by
      rw [← wl_sF (P := P) (P' := sL P h v) (v := .long v) hk cf.2.2.2.2.2 (by rw [cf.2.2.2.2.1]; exact hj) (by unfold fv; rw [if_neg (by omega), if_pos hft, sL_eq]) (fun k' hk' => by unfold fv; rw [if_neg (hsole k' hk'), if_neg (hsole k' hk')]; rfl) (fun c' hc => en_ne rfl (sL_ne hc) rfl)]
      exact g1, h1.2⟩ g3 h3)
theorem z_putR (S : ZS x E rm cc nL own ret) {K N h n c : Nat} {C : String} {T : u_T} {ty : Nat → FieldType} (cf : CF K C T N ty) (hk : ok h K n) (j : Nat) {idx : Nat} (hc : ok c (fk K j) (fl K j)) (hj : j < N) (hft : ft K j = 2) (hfin : (T j).2.2.2 = false) (hna : narrow (ty j) (.ref (ad E c)) = .ref (ad E c)) (hfi : fits (ty j) (.ref (ad E c)) = true) (hw : Cond.fieldLink own idx (T j).1 (T j).2.1 (T j).2.2.1 ∈ zt) (d : decode cc pc = .ok (.putfield idx, 3)) (k : Wz x E nL Q (sR P h j c) (pc + 3) lv st) : Wz x E nL Q P pc lv (.ref (ad E c) :: .ref (ad E h) :: st) :=
  fun H locs ls h1 h2 h3 => va_put S.1 S.2.1 S.2.2.2.2.1 cf.2.1 ty cf.2.2.1 cf.2.2.2.1 S.2.2.2.1 S.2.2.2.2.2.2.2.1 h1.1 (wl_D S.2.2.2.2.2.2.2.2.1 S.2.2.2.2.2.2.2.2.2.1) h2 h ((wl_get hk.1).trans (by rw [en_o hk cf.2.2.2.2.2])) cf.1 j hj (S.2.2.2.2.1 _ hw) (fun _ z => z) hfin (cf.2.2.1 j hj) hna hfi (by rw [List.length_map, List.length_range, cf.2.2.2.2.1]; exact hj) d
    (fun H1 locs1 g1 _ g3 => k H1 locs1 ls ⟨by
      rw [← wl_sF (P := P) (P' := sR P h j c) (v := .ref (ad E c)) hk cf.2.2.2.2.2 (by rw [cf.2.2.2.2.1]; exact hj) (by unfold fv; rw [if_neg (by omega), if_neg (by omega), sR_eq]; simp) (fun k' hk' => by unfold fv; rw [sR_eq]; simp [hk']; rfl) (fun c' hc => en_ne rfl rfl (sR_ne hc))]
      exact g1, WT_sR h1.2 (fun _ => by rw [hk.2.1]; exact hc)⟩ g3 h3)
theorem z_in {α : Type} {A : Option α} {q : α} {i : Int32} {n : Nat} {hdec : Decidable (i < 0 ∨ n ≤ i.toNatClampNeg)} (hf : (if (i < 0 ∨ n ≤ i.toNatClampNeg) then none else A) = some q) : vp_in i n ∧ A = some q := by
  by_cases h : (i < 0 ∨ n ≤ i.toNatClampNeg)
  · rw [if_pos h] at hf
    cases hf
  · rw [if_neg h] at hf
    exact ⟨h, hf⟩
theorem z_iald (S : ZS x E rm cc nL own ret) {α : Type} {A : Option α} {q : α} {a n : Nat} {i : Int32} {hdec : Decidable (i < 0 ∨ n ≤ i.toNatClampNeg)} (hk : ok a 9 n) (d : decode cc pc = .ok (.iaload, 1)) (hf : (if (i < 0 ∨ n ≤ i.toNatClampNeg) then none else A) = some q) (k : A = some q → Wz x E nL Q P (pc + 1) lv (.int (P.1 a i.toNatClampNeg) :: st)) : Wz x E nL Q P pc lv (.int i :: .ref (ad E a) :: st) :=
  fun H locs ls h1 h2 h3 => va_iald S.1 S.2.1 S.2.2.2.2.2.2.2.1 h1.1 a 0 ((wl_get hk.1).trans (by rw [en_i hk])) rfl (z_in hf).1 d (k (z_in hf).2 H locs ls h1 h2 h3)
theorem z_bald (S : ZS x E rm cc nL own ret) {α : Type} {A : Option α} {q : α} {a n : Nat} {i : Int32} {hdec : Decidable (i < 0 ∨ n ≤ i.toNatClampNeg)} (hk : ok a 10 n) (d : decode cc pc = .ok (.baload, 1)) (hf : (if (i < 0 ∨ n ≤ i.toNatClampNeg) then none else A) = some q) (k : A = some q → Wz x E nL Q P (pc + 1) lv (.int (P.1 a i.toNatClampNeg) :: st)) : Wz x E nL Q P pc lv (.int i :: .ref (ad E a) :: st) :=
  fun H locs ls h1 h2 h3 => va_zald S.1 S.2.1 S.2.2.2.2.2.2.2.1 h1.1 a 1 ((wl_get hk.1).trans (by rw [en_z hk])) rfl (z_in hf).1 d (k (z_in hf).2 H locs ls h1 h2 h3)
theorem z_aald (S : ZS x E rm cc nL own ret) {α : Type} {A : Option α} {q : α} {a n : Nat} {i : Int32} {hdec : Decidable (i < 0 ∨ n ≤ i.toNatClampNeg)} (hk : ok a 11 n) (hn : n ≤ 2) (d : decode cc pc = .ok (.aaload, 1)) (hf : (if (i < 0 ∨ n ≤ i.toNatClampNeg) then none else A) = some q) (k : ok (P.2.2 a i.toNatClampNeg) 2 0 → A = some q → Wz x E nL Q P (pc + 1) lv (.ref (ad E (P.2.2 a i.toNatClampNeg)) :: st)) : Wz x E nL Q P pc lv (.int i :: .ref (ad E a) :: st) :=
  fun H locs ls h1 h2 h3 => va_aldq (f := fun j => some (ad E (P.2.2 a j))) S.1 S.2.1 S.2.2.2.2.2.2.2.1 h1.1 a 2 ((wl_get hk.1).trans (by rw [en_q hk])) rfl (z_in hf).1 d (k (by
    have hv := (z_in hf).1
    have h5 : i.toNatClampNeg < 2 := Nat.lt_of_lt_of_le (Nat.not_le.mp fun z => hv (Or.inr z)) hn
    have e1 : ∀ j, j < 2 → ft 11 j = 2 := by decide
    have e2 : ∀ j, j < 2 → fk 11 j = 2 ∧ fl 11 j = 0 := by decide
    have h6 := h1.2 a i.toNatClampNeg hk.1 (by rw [hk.2.1]; exact e1 _ h5)
    rw [hk.2.1, (e2 _ h5).1, (e2 _ h5).2] at h6
    exact h6) (z_in hf).2 H locs ls h1 h2 h3)
theorem z_iast (S : ZS x E rm cc nL own ret) {α : Type} {A : Option α} {q : α} {a n : Nat} {i v : Int32} {hdec : Decidable (i < 0 ∨ n ≤ i.toNatClampNeg)} (hk : ok a 9 n) (d : decode cc pc = .ok (.iastore, 1)) (hf : (if (i < 0 ∨ n ≤ i.toNatClampNeg) then none else A) = some q) (k : A = some q → Wz x E nL Q (sI P a i.toNatClampNeg v) (pc + 1) lv st) : Wz x E nL Q P pc lv (.int v :: .int i :: .ref (ad E a) :: st) :=
  fun H locs ls h1 h2 h3 => va_iast S.1 S.2.1 S.2.2.2.2.2.2.2.1 h1.1 (wl_D S.2.2.2.2.2.2.2.2.1 S.2.2.2.2.2.2.2.2.2.1) h2 a 0 ((wl_get hk.1).trans (by rw [en_i hk])) rfl (z_in hf).1 d (fun H1 locs1 g1 _ g3 => k (z_in hf).2 H1 locs1 ls ⟨by rw [wl_sA hk] at g1; exact g1, h1.2⟩ g3 h3)
theorem z_bast (S : ZS x E rm cc nL own ret) {α : Type} {A : Option α} {q : α} {a n : Nat} {i v : Int32} {hdec : Decidable (i < 0 ∨ n ≤ i.toNatClampNeg)} (hk : ok a 10 n) (hv : vp_nar .boolean v = v) (d : decode cc pc = .ok (.bastore, 1)) (hf : (if (i < 0 ∨ n ≤ i.toNatClampNeg) then none else A) = some q) (k : A = some q → Wz x E nL Q (sI P a i.toNatClampNeg v) (pc + 1) lv st) : Wz x E nL Q P pc lv (.int v :: .int i :: .ref (ad E a) :: st) :=
  fun H locs ls h1 h2 h3 => va_zast S.1 S.2.1 S.2.2.2.2.2.2.2.1 h1.1 (wl_D S.2.2.2.2.2.2.2.2.1 S.2.2.2.2.2.2.2.2.2.1) h2 a 1 ((wl_get hk.1).trans (by rw [en_z hk])) rfl (z_in hf).1 d (fun H1 locs1 g1 _ g3 => k (z_in hf).2 H1 locs1 ls ⟨by rw [hv, wl_sAz hk] at g1; exact g1, h1.2⟩ g3 h3)
theorem z_copy (S : ZS x E rm cc nL own ret) {α : Type} {A : Option α} {q : α} {a a0 n n0 : Nat} {sp dp m : Int32} {idx : Nat} {hdec : Decidable (sp < 0 ∨ dp < 0 ∨ m < 0 ∨ n0 < sp.toNatClampNeg + m.toNatClampNeg ∨ n < dp.toNatClampNeg + m.toNatClampNeg)} (hk0 : ok a0 9 n0) (hk : ok a 9 n) (hw : Cond.methodLink own idx arraycopyName ∈ zt) (hnat : Cond.native arraycopyName ∈ zt) (hstat : Cond.static arraycopyName ∈ zt) (hini : Cond.initialized "java/lang/System" ∈ zt) (hr1 : 1 ≤ rm.frames) (hr2 : (st.map fun v => v.category).sum + 18 ≤ rm.locals) (d : decode cc pc = .ok (.invokestatic idx, 3))
    (hf : (if (sp < 0 ∨ dp < 0 ∨ m < 0 ∨ n0 < sp.toNatClampNeg + m.toNatClampNeg ∨ n < dp.toNatClampNeg + m.toNatClampNeg) then none else A) = some q) (k : A = some q → Wz x E nL Q (sA P a (va_cpy (P.1 a0) (P.1 a) sp.toNatClampNeg dp.toNatClampNeg m.toNatClampNeg)) (pc + 3) lv st) : Wz x E nL Q P pc lv (.int m :: .int dp :: .ref (ad E a) :: .int sp :: .ref (ad E a0) :: st) := by
  by_cases hg : (sp < 0 ∨ dp < 0 ∨ m < 0 ∨ n0 < sp.toNatClampNeg + m.toNatClampNeg ∨ n < dp.toNatClampNeg + m.toNatClampNeg)
  · rw [if_pos hg] at hf
    cases hf
  · rw [if_neg hg] at hf
    simp only [not_or] at hg
    intro H locs ls h1 h2 h3
    refine va_copyi S.1 S.2.1 (by rw [S.2.2.1]; exact h3.1.symm) S.2.2.2.1 (S.2.2.2.2.1 _ hw) (S.2.2.2.2.1 _ hnat) (S.2.2.2.2.1 _ hstat) (S.2.2.2.2.1 _ hini) S.2.2.2.2.2.2.2.1 h1.1 (wl_D S.2.2.2.2.2.2.2.2.1 S.2.2.2.2.2.2.2.2.2.1) h2 a0 a 0 0 ((wl_get hk0.1).trans (by rw [en_i hk0])) ((wl_get hk.1).trans (by rw [en_i hk])) rfl rfl rfl hg.1 hg.2.1 hg.2.2.1 (by omega) (by omega) (fun _ _ => rfl) (by rw [S.2.2.2.2.2.2.2.2.2.2.1]; exact hr1) ?_ d (fun H1 locs1 g1 _ g3 => k hf H1 locs1 ls ⟨by rw [wl_sA hk] at g1; exact g1, h1.2⟩ g3 h3)
    rw [S.2.2.2.2.2.2.2.2.2.2.1]
    have e : nativeFrameWords "java/lang/System" "arraycopy" 5 = 7 := by decide
    rw [e]
    omega
/-! answers and contracts -/
def QI (E : Ev) (x : Fx) (r : Int32) (P' : PH) : State → Prop := MQ (xb x) (va_Qi (fun (v : Int32) (u : PH) => v = r ∧ u = P') (fun u t => Rep E u t.heap) (AE E)) (xa x) (xs x) 0 0 (AE E)
def QL (E : Ev) (x : Fx) (r : Int64) (P' : PH) : State → Prop := MQ (xb x) (va_Ql (fun (v : Int64) (u : PH) => v = r ∧ u = P') (fun u t => Rep E u t.heap) (AE E)) (xa x) (xs x) 0 0 (AE E)
def QV (E : Ev) (x : Fx) (P' : PH) : State → Prop := MQ (xb x) (va_Qv (fun (u : PH) => u = P') (fun u t => Rep E u t.heap) (AE E)) (xa x) (xs x) 0 0 (AE E)
/-- a method's frame: nothing made yet -/
def ZM (x : Fx) (E : Ev) : Prop := xA x = AE E ∧ xk x = 0 ∧ xj x = 0
theorem z_iret (S : ZS x E rm cc nL own ret) (M : ZM x E) {v : Int32} (hr : ret = some .int) (d : decode cc pc = .ok (.ireturn, 1)) : Wz x E nL (QI E x v P) P pc lv [.int v] := by
  intro H locs ls h1 h2 h3
  rw [M.2.1, M.2.2]
  rw [M.1] at h2
  exact W.iret S.1 S.2.1 (S.2.2.2.2.2.1.trans hr) (fun t ht _ => ⟨⟨v, P, rfl, ⟨rfl, rfl⟩, by show Rep E P t.heap; rw [ht]; exact h1⟩, h2.F ht⟩) h2.2.2 d S.2.2.2.2.2.2.1
theorem nb_b2i (b : Bool) : narrow .boolean (.int (b2i b)) = .int (b2i b) := by cases b <;> rfl
theorem z_zret (S : ZS x E rm cc nL own ret) (M : ZM x E) {v : Bool} (hr : ret = some .boolean) (d : decode cc pc = .ok (.ireturn, 1)) : Wz x E nL (QI E x (b2i v) P) P pc lv [.int (b2i v)] := by
  intro H locs ls h1 h2 h3
  rw [M.2.1, M.2.2]
  rw [M.1] at h2
  exact W.zret S.1 S.2.1 (S.2.2.2.2.2.1.trans hr) (nb_b2i v) (fun t ht _ => ⟨⟨b2i v, P, rfl, ⟨rfl, rfl⟩, by show Rep E P t.heap; rw [ht]; exact h1⟩, h2.F ht⟩) h2.2.2 d S.2.2.2.2.2.2.1
theorem z_lret (S : ZS x E rm cc nL own ret) (M : ZM x E) {v : Int64} (hr : ret = some .long) (d : decode cc pc = .ok (.lreturn, 1)) : Wz x E nL (QL E x v P) P pc lv [.long v] := by
  intro H locs ls h1 h2 h3
  rw [M.2.1, M.2.2]
  rw [M.1] at h2
  exact W.lret S.1 S.2.1 (S.2.2.2.2.2.1.trans hr) (fun t ht _ => ⟨⟨v, P, rfl, ⟨rfl, rfl⟩, by show Rep E P t.heap; rw [ht]; exact h1⟩, h2.F ht⟩) h2.2.2 d S.2.2.2.2.2.2.1
theorem z_vret (S : ZS x E rm cc nL own ret) (M : ZM x E) (hr : ret = none) (d : decode cc pc = .ok (.return_, 1)) : Wz x E nL (QV E x P) P pc lv [] := by
  intro H locs ls h1 h2 h3
  rw [M.2.1, M.2.2]
  rw [M.1] at h2
  exact W.vret S.1 S.2.1 (S.2.2.2.2.2.1.trans hr) (fun t ht _ => ⟨⟨P, rfl, rfl, by show Rep E P t.heap; rw [ht]; exact h1⟩, h2.F ht⟩) h2.2.2 d S.2.2.2.2.2.2.1
theorem z_iretP (S : ZS x E rm cc nL own ret) (M : ZM x E) {v r : Int32} (hr : ret = some .int) (d : decode cc pc = .ok (.ireturn, 1)) (hf : some v = some r) : Wz x E nL (QI E x r P) P pc lv [.int v] := by
  cases hf
  exact z_iret S M hr d
theorem z_iretI (S : ZS x E rm cc nL own ret) (M : ZM x E) {v : Int32} {r : Int32 × PH} (hr : ret = some .int) (d : decode cc pc = .ok (.ireturn, 1)) (hf : some (v, P) = some r) : Wz x E nL (QI E x r.1 r.2) P pc lv [.int v] := by
  cases hf
  exact z_iret S M hr d
theorem z_zretP (S : ZS x E rm cc nL own ret) (M : ZM x E) {v r : Bool} (hr : ret = some .boolean) (d : decode cc pc = .ok (.ireturn, 1)) (hf : some v = some r) : Wz x E nL (QI E x (b2i r) P) P pc lv [.int (b2i v)] := by
  cases hf
  exact z_zret S M hr d
theorem z_zretI (S : ZS x E rm cc nL own ret) (M : ZM x E) {v : Bool} {r : Bool × PH} (hr : ret = some .boolean) (d : decode cc pc = .ok (.ireturn, 1)) (hf : some (v, P) = some r) : Wz x E nL (QI E x (b2i r.1) r.2) P pc lv [.int (b2i v)] := by
  cases hf
  exact z_zret S M hr d
theorem z_lretP (S : ZS x E rm cc nL own ret) (M : ZM x E) {v r : Int64} (hr : ret = some .long) (d : decode cc pc = .ok (.lreturn, 1)) (hf : some v = some r) : Wz x E nL (QL E x r P) P pc lv [.long v] := by
  cases hf
  exact z_lret S M hr d
theorem z_lretI (S : ZS x E rm cc nL own ret) (M : ZM x E) {v : Int64} {r : Int64 × PH} (hr : ret = some .long) (d : decode cc pc = .ok (.lreturn, 1)) (hf : some (v, P) = some r) : Wz x E nL (QL E x r.1 r.2) P pc lv [.long v] := by
  cases hf
  exact z_lret S M hr d
theorem z_vretI (S : ZS x E rm cc nL own ret) (M : ZM x E) {r : PH} (hr : ret = none) (d : decode cc pc = .ok (.return_, 1)) (hf : some P = some r) : Wz x E nL (QV E x r) P pc lv [] := by
  cases hf
  exact z_vret S M hr d
def CPre (E : Ev) (vs : List Value) (P : PH) : Array Value → State → Prop := va_Pc vs (fun U => EvOK E ∧ EK E U ∧ Rep E P U.heap)
def CtI (l : Launch) (E : Ev) (y : MethodName) (bytes : ByteArray) (maxL : Nat) (ret : Option FieldType) (rm : Room) (vs : List Value) (P : PH) (r : Int32) (P' : PH) : Prop := Met l y (.code y bytes maxL ret :: zt) rm (CPre E vs P) (va_Qi (fun (v : Int32) (u : PH) => v = r ∧ u = P') (fun u t => Rep E u t.heap) (AE E)) 0 0 (AE E)
def CtL (l : Launch) (E : Ev) (y : MethodName) (bytes : ByteArray) (maxL : Nat) (ret : Option FieldType) (rm : Room) (vs : List Value) (P : PH) (r : Int64) (P' : PH) : Prop := Met l y (.code y bytes maxL ret :: zt) rm (CPre E vs P) (va_Ql (fun (v : Int64) (u : PH) => v = r ∧ u = P') (fun u t => Rep E u t.heap) (AE E)) 0 0 (AE E)
def CtV (l : Launch) (E : Ev) (y : MethodName) (bytes : ByteArray) (maxL : Nat) (ret : Option FieldType) (rm : Room) (vs : List Value) (P : PH) (P' : PH) : Prop := Met l y (.code y bytes maxL ret :: zt) rm (CPre E vs P) (va_Qv (fun (u : PH) => u = P') (fun u t => Rep E u t.heap) (AE E)) 0 0 (AE E)
theorem z_body {l : Launch} {y : MethodName} {vs : List Value} {lv0 : List (Nat × Value)} {Qc : Array Value → State → Outcome → State → Prop} (hy : plainName y.cls = true) (ho : y.cls = own) (hn : (lg_sl vs).length ≤ nL) (hl : lv_args 0 vs = lv0)
    (body : ∀ x : Fx, xl x = l → ZS x E rm cc nL own ret → ZM x E → Wz x E nL (MQ (xb x) Qc (xa x) (xs x) 0 0 (AE E)) P 0 lv0 []) : Met l y (.code y cc nL ret :: zt) rm (CPre E vs P) Qc 0 0 (AE E) := by
  refine Met.ofW (cc := cc) (maxL := nL) (ret := ret) hy rfl ?_
  intro p e s m args below meth c s₁ B hml hv
  obtain ⟨rfl, hinj, hK, hR⟩ := hv
  have hts := atoms_spec (ws := .code y cc nL ret :: zt) B.pre
  have hown : s.vm.findClass own = some m.cls := ho ▸ findClass_of_methodNamed B.named
  have hlv := lv_entry vs (n := nL) hn
  rw [hl] at hlv
  rw [lg_entry_eq]
  exact body (p, l, e, rm, s, m, vs.toArray, below, meth, c, AE E, 0, 0) rfl ⟨B.exec, B.bytes, hml, hown, fun w hw => hts w (List.mem_cons_of_mem _ hw), B.returns, B.notSynchronized, hK, hinj, fun c hc => ⟨c, hc, rfl⟩, rfl, Nat.zero_le _, Nat.zero_le _⟩ ⟨rfl, rfl, rfl⟩ s.heap [] _ hR va_S.rf hlv
/-- what a call wants of the tables -/
def MO (y : MethodName) (bytes : ByteArray) (maxL : Nat) (ret : Option FieldType) (n : Nat) : Prop := Cond.code y bytes maxL ret ∈ zt ∧ Cond.initialized y.cls ∈ zt ∧ (y.cls ≠ "java/lang/invoke/MethodHandle" ∧ y.cls ≠ "java/lang/invoke/VarHandle") ∧ (parseMethodDescriptor y.desc).map (fun d => d.parameters.length) = some n
theorem z_goodIn {y : MethodName} {bytes : ByteArray} {maxL : Nat} {ret : Option FieldType} (h : Cond.code y bytes maxL ret ∈ zt) : GoodIn zt (.code y bytes maxL ret :: zt) := by
  intro w hw
  have hm : w ∈ zt := by
    rcases List.mem_cons.mp hw with rfl | hw
    · exact h
    · exact hw
  exact ⟨hm, zt_good hm⟩
theorem z_blind {vs : List Value} : FrameBlind (CPre E vs P) := fun a U g mk q => ⟨q.1, q.2.1, va_K.moved (u := U) (U := U.calling g mk a) (Vm.Alike.refl U.vm) q.2.2.1, q.2.2.2⟩
theorem z_runV {T : Nat} {C : String} {y : MethodName} {bytes : ByteArray} {maxL n idx b K nb : Nat} {rt : Option FieldType} {rc : Room} {As : List Value} {Qc : Array Value → State → Outcome → State → Prop} {H : Heap} {locs : List Loc} {ls : Array Slot} {tT : u_T}
    (S : ZS x E rm cc nL own ret) (mo : MO y bytes maxL rt n) (hin : Cond.instanceMethod y ∈ zt) (hsel : Cond.selects C y y ∈ zt) (hlink : Cond.methodLink own idx y ∈ zt) (hk : ok b K nb) (hK : K < 9) (hcl : classes[K]? = some (C, tT, T)) (hrc : rc.cells = 0) (hrs : rc.slots = 0) (hR : rc.frames + 1 ≤ rm.frames ∧ 8 + (maxL + 11) + rc.locals ≤ rm.locals)
    (hM : Met (xl x) y (.code y bytes maxL rt :: zt) rc (CPre E (.ref (ad E b) :: As) P) Qc 0 0 (AE E)) (hcs : xk x ≤ rm.cells ∧ xj x ≤ rm.slots) (h1 : Rep E P H) (h3 : ls.size = nL) (hn : As.length = n) (hW : (st.map fun v => v.category).sum ≤ 8) (hdg : decode cc pc = .ok (.invokevirtual idx, 3)) :
    va_Run (xp x) (xl x) (xe x) (xR x) (xs x) (xm x) (xa x) (xb x) (xM x) (xc x) H locs (xk x) (xj x) 0 0 (F0 (xm x) pc ls (As.reverse ++ .ref (ad E b) :: st)) st (Qc (Value.ref (ad E b) :: As).toArray) (AE E) := by
  obtain ⟨hx, hb, hml, hown, hts, -, -, hEK, hinj, -, hRm, hk1, hk2⟩ := S
  have hbl : FrameBlind (CPre E (.ref (ad E b) :: As) P) := z_blind
  refine va_runV (nL := nL) (Ts := zt) (own := own) (C := C) (b := ad E b) (As := As) ⟨hx, hb, hml, hown, hts⟩ hM ⟨⟨hrc, hrs, by rw [hRm]; exact hR.1, by rw [hRm]; exact hR.2, pay_in hts (z_goodIn mo.1), List.mem_cons_self, hts _ mo.1, hts _ mo.2.1, mo.2.2.1, fun sig h => ?_, hts _ hlink⟩, hts _ hin, hts _ hsel⟩ ⟨hbl, va_recv hEK h1.1 hcl ((wl_get hk.1).trans (by rw [en_o hk hK])), fun U hU hWm => ⟨rfl, hinj, va_K.moved hWm.alike hEK, by rw [hU]; exact h1⟩⟩ rfl hn h3 rfl (lv_room hW) hdg (by rw [hRm]; exact hcs)
  have h2 := mo.2.2.2
  rw [h] at h2
  exact (Option.some.inj h2).symm
theorem z_runS {y : MethodName} {bytes : ByteArray} {maxL n idx : Nat} {rt : Option FieldType} {rc : Room} {As : List Value} {Qc : Array Value → State → Outcome → State → Prop} {H : Heap} {locs : List Loc} {ls : Array Slot}
    (S : ZS x E rm cc nL own ret) (mo : MO y bytes maxL rt n) (hst : Cond.static y ∈ zt) (hlink : Cond.methodLink own idx y ∈ zt) (hrc : rc.cells = 0) (hrs : rc.slots = 0) (hR : rc.frames + 1 ≤ rm.frames ∧ 8 + (maxL + 11) + rc.locals ≤ rm.locals)
    (hM : Met (xl x) y (.code y bytes maxL rt :: zt) rc (CPre E As P) Qc 0 0 (AE E)) (hcs : xk x ≤ rm.cells ∧ xj x ≤ rm.slots) (h1 : Rep E P H) (h3 : ls.size = nL) (hn : As.length = n) (hW : (st.map fun v => v.category).sum ≤ 8) (hdg : decode cc pc = .ok (.invokestatic idx, 3)) :
    va_Run (xp x) (xl x) (xe x) (xR x) (xs x) (xm x) (xa x) (xb x) (xM x) (xc x) H locs (xk x) (xj x) 0 0 (F0 (xm x) pc ls (As.reverse ++ st)) st (Qc As.toArray) (AE E) := by
  obtain ⟨hx, hb, hml, hown, hts, -, -, hEK, hinj, -, hRm, hk1, hk2⟩ := S
  have hbl : FrameBlind (CPre E As P) := z_blind
  refine va_runS (nL := nL) (Ts := zt) (own := own) (As := As) ⟨hx, hb, hml, hown, hts⟩ hM ⟨⟨hrc, hrs, by rw [hRm]; exact hR.1, by rw [hRm]; exact hR.2, pay_in hts (z_goodIn mo.1), List.mem_cons_self, hts _ mo.1, hts _ mo.2.1, mo.2.2.1, fun sig h => ?_, hts _ hlink⟩, hts _ hst⟩ ⟨hbl, fun U hU hWm => ⟨rfl, hinj, va_K.moved hWm.alike hEK, by rw [hU]; exact h1⟩⟩ rfl hn h3 rfl (lv_room hW) hdg (by rw [hRm]; exact hcs)
  have h2 := mo.2.2.2
  rw [h] at h2
  exact (Option.some.inj h2).symm
theorem z_callVI {T : Nat} {C : String} {y : MethodName} {bytes : ByteArray} {maxL n idx b K nb : Nat} {rt : Option FieldType} {rc : Room} {tT : u_T} {α β : Type} {F : Option α} {g : α → Option β} {q : β} (As : List Value) {st0 : List Value} (S : ZS x E rm cc nL own ret) (mo : MO y bytes maxL rt n) (hin : Cond.instanceMethod y ∈ zt) (hsel : Cond.selects C y y ∈ zt) (hlink : Cond.methodLink own idx y ∈ zt) (hk : ok b K nb) (hK : K < 9) (hcl : classes[K]? = some (C, tT, T)) (hrc : rc.cells = 0) (hrs : rc.slots = 0) (hR : rc.frames + 1 ≤ rm.frames ∧ 8 + (maxL + 11) + rc.locals ≤ rm.locals) (hcs : xk x ≤ rm.cells ∧ xj x ≤ rm.slots) (hn : As.length = n) (hW : (st.map fun v => v.category).sum ≤ 8) (hst0 : st0 = (As.reverse ++ .ref (ad E b) :: st)) (d : decode cc pc = .ok (.invokevirtual idx, 3)) (ri : α → Int32) (rp : α → PH)
    (hM : ∀ a, F = some a → CtI (xl x) E y bytes maxL rt rc (.ref (ad E b) :: As) P (ri a) (rp a)) (hf : F.bind g = some q) (k : ∀ a, g a = some q → Wz x E nL Q (rp a) (pc + 3) lv (.int (ri a) :: st)) : Wz x E nL Q P pc lv st0 := by
  subst hst0
  obtain ⟨a, ha, hg⟩ := Option.bind_eq_some_iff.mp hf
  intro H locs ls h1 h2 h3
  refine va_calli (z_runV S mo hin hsel hlink hk hK hcl hrc hrs hR (hM a ha) hcs h1 h3.1 hn hW d) h2 (fun q _ h => ?_) (fun q h => ?_) (fun r u t H1 locs1 ht _ hw hB _ _ hS => ?_)
  · obtain ⟨c, hc, rfl⟩ := h
    exact S.2.2.2.2.2.2.2.2.2.1 c hc
  · obtain ⟨c, hc, rfl⟩ := h
    exact S.2.2.2.2.2.2.2.2.2.1 c hc
  · obtain ⟨rfl, rfl⟩ := hw
    rw [ht] at hB
    exact k a hg H1 locs1 ls hB hS h3
theorem z_callVL {T : Nat} {C : String} {y : MethodName} {bytes : ByteArray} {maxL n idx b K nb : Nat} {rt : Option FieldType} {rc : Room} {tT : u_T} {α β : Type} {F : Option α} {g : α → Option β} {q : β} (As : List Value) {st0 : List Value} (S : ZS x E rm cc nL own ret) (mo : MO y bytes maxL rt n) (hin : Cond.instanceMethod y ∈ zt) (hsel : Cond.selects C y y ∈ zt) (hlink : Cond.methodLink own idx y ∈ zt) (hk : ok b K nb) (hK : K < 9) (hcl : classes[K]? = some (C, tT, T)) (hrc : rc.cells = 0) (hrs : rc.slots = 0) (hR : rc.frames + 1 ≤ rm.frames ∧ 8 + (maxL + 11) + rc.locals ≤ rm.locals) (hcs : xk x ≤ rm.cells ∧ xj x ≤ rm.slots) (hn : As.length = n) (hW : (st.map fun v => v.category).sum ≤ 8) (hst0 : st0 = (As.reverse ++ .ref (ad E b) :: st)) (d : decode cc pc = .ok (.invokevirtual idx, 3)) (ri : α → Int64) (rp : α → PH)
    (hM : ∀ a, F = some a → CtL (xl x) E y bytes maxL rt rc (.ref (ad E b) :: As) P (ri a) (rp a)) (hf : F.bind g = some q) (k : ∀ a, g a = some q → Wz x E nL Q (rp a) (pc + 3) lv (.long (ri a) :: st)) : Wz x E nL Q P pc lv st0 := by
  subst hst0
  obtain ⟨a, ha, hg⟩ := Option.bind_eq_some_iff.mp hf
  intro H locs ls h1 h2 h3
  refine va_calll (z_runV S mo hin hsel hlink hk hK hcl hrc hrs hR (hM a ha) hcs h1 h3.1 hn hW d) h2 (fun q _ h => ?_) (fun q h => ?_) (fun r u t H1 locs1 ht _ hw hB _ _ hS => ?_)
  · obtain ⟨c, hc, rfl⟩ := h
    exact S.2.2.2.2.2.2.2.2.2.1 c hc
  · obtain ⟨c, hc, rfl⟩ := h
    exact S.2.2.2.2.2.2.2.2.2.1 c hc
  · obtain ⟨rfl, rfl⟩ := hw
    rw [ht] at hB
    exact k a hg H1 locs1 ls hB hS h3
theorem z_callVV {T : Nat} {C : String} {y : MethodName} {bytes : ByteArray} {maxL n idx b K nb : Nat} {rt : Option FieldType} {rc : Room} {tT : u_T} {α β : Type} {F : Option α} {g : α → Option β} {q : β} (As : List Value) {st0 : List Value} (S : ZS x E rm cc nL own ret) (mo : MO y bytes maxL rt n) (hin : Cond.instanceMethod y ∈ zt) (hsel : Cond.selects C y y ∈ zt) (hlink : Cond.methodLink own idx y ∈ zt) (hk : ok b K nb) (hK : K < 9) (hcl : classes[K]? = some (C, tT, T)) (hrc : rc.cells = 0) (hrs : rc.slots = 0) (hR : rc.frames + 1 ≤ rm.frames ∧ 8 + (maxL + 11) + rc.locals ≤ rm.locals) (hcs : xk x ≤ rm.cells ∧ xj x ≤ rm.slots) (hn : As.length = n) (hW : (st.map fun v => v.category).sum ≤ 8) (hst0 : st0 = (As.reverse ++ .ref (ad E b) :: st)) (d : decode cc pc = .ok (.invokevirtual idx, 3)) (rp : α → PH)
    (hM : ∀ a, F = some a → CtV (xl x) E y bytes maxL rt rc (.ref (ad E b) :: As) P (rp a)) (hf : F.bind g = some q) (k : ∀ a, g a = some q → Wz x E nL Q (rp a) (pc + 3) lv st) : Wz x E nL Q P pc lv st0 := by
  subst hst0
  obtain ⟨a, ha, hg⟩ := Option.bind_eq_some_iff.mp hf
  intro H locs ls h1 h2 h3
  refine va_callv (z_runV S mo hin hsel hlink hk hK hcl hrc hrs hR (hM a ha) hcs h1 h3.1 hn hW d) h2 (fun q _ h => ?_) (fun q h => ?_) (fun u t H1 locs1 ht _ hw hB _ _ hS => ?_)
  · obtain ⟨c, hc, rfl⟩ := h
    exact S.2.2.2.2.2.2.2.2.2.1 c hc
  · obtain ⟨c, hc, rfl⟩ := h
    exact S.2.2.2.2.2.2.2.2.2.1 c hc
  · subst hw
    rw [ht] at hB
    exact k a hg H1 locs1 ls hB hS h3
theorem z_callSI {y : MethodName} {bytes : ByteArray} {maxL n idx : Nat} {rt : Option FieldType} {rc : Room} {α β : Type} {F : Option α} {g : α → Option β} {q : β} (As : List Value) {st0 : List Value} (S : ZS x E rm cc nL own ret) (mo : MO y bytes maxL rt n) (hst : Cond.static y ∈ zt) (hlink : Cond.methodLink own idx y ∈ zt) (hrc : rc.cells = 0) (hrs : rc.slots = 0) (hR : rc.frames + 1 ≤ rm.frames ∧ 8 + (maxL + 11) + rc.locals ≤ rm.locals) (hcs : xk x ≤ rm.cells ∧ xj x ≤ rm.slots) (hn : As.length = n) (hW : (st.map fun v => v.category).sum ≤ 8) (hst0 : st0 = (As.reverse ++ st)) (d : decode cc pc = .ok (.invokestatic idx, 3)) (ri : α → Int32) (rp : α → PH)
    (hM : ∀ a, F = some a → CtI (xl x) E y bytes maxL rt rc As P (ri a) (rp a)) (hf : F.bind g = some q) (k : ∀ a, g a = some q → Wz x E nL Q (rp a) (pc + 3) lv (.int (ri a) :: st)) : Wz x E nL Q P pc lv st0 := by
  subst hst0
  obtain ⟨a, ha, hg⟩ := Option.bind_eq_some_iff.mp hf
  intro H locs ls h1 h2 h3
  refine va_calli (z_runS S mo hst hlink hrc hrs hR (hM a ha) hcs h1 h3.1 hn hW d) h2 (fun q _ h => ?_) (fun q h => ?_) (fun r u t H1 locs1 ht _ hw hB _ _ hS => ?_)
  · obtain ⟨c, hc, rfl⟩ := h
    exact S.2.2.2.2.2.2.2.2.2.1 c hc
  · obtain ⟨c, hc, rfl⟩ := h
    exact S.2.2.2.2.2.2.2.2.2.1 c hc
  · obtain ⟨rfl, rfl⟩ := hw
    rw [ht] at hB
    exact k a hg H1 locs1 ls hB hS h3
theorem z_callSL {y : MethodName} {bytes : ByteArray} {maxL n idx : Nat} {rt : Option FieldType} {rc : Room} {α β : Type} {F : Option α} {g : α → Option β} {q : β} (As : List Value) {st0 : List Value} (S : ZS x E rm cc nL own ret) (mo : MO y bytes maxL rt n) (hst : Cond.static y ∈ zt) (hlink : Cond.methodLink own idx y ∈ zt) (hrc : rc.cells = 0) (hrs : rc.slots = 0) (hR : rc.frames + 1 ≤ rm.frames ∧ 8 + (maxL + 11) + rc.locals ≤ rm.locals) (hcs : xk x ≤ rm.cells ∧ xj x ≤ rm.slots) (hn : As.length = n) (hW : (st.map fun v => v.category).sum ≤ 8) (hst0 : st0 = (As.reverse ++ st)) (d : decode cc pc = .ok (.invokestatic idx, 3)) (ri : α → Int64) (rp : α → PH)
    (hM : ∀ a, F = some a → CtL (xl x) E y bytes maxL rt rc As P (ri a) (rp a)) (hf : F.bind g = some q) (k : ∀ a, g a = some q → Wz x E nL Q (rp a) (pc + 3) lv (.long (ri a) :: st)) : Wz x E nL Q P pc lv st0 := by
  subst hst0
  obtain ⟨a, ha, hg⟩ := Option.bind_eq_some_iff.mp hf
  intro H locs ls h1 h2 h3
  refine va_calll (z_runS S mo hst hlink hrc hrs hR (hM a ha) hcs h1 h3.1 hn hW d) h2 (fun q _ h => ?_) (fun q h => ?_) (fun r u t H1 locs1 ht _ hw hB _ _ hS => ?_)
  · obtain ⟨c, hc, rfl⟩ := h
    exact S.2.2.2.2.2.2.2.2.2.1 c hc
  · obtain ⟨c, hc, rfl⟩ := h
    exact S.2.2.2.2.2.2.2.2.2.1 c hc
  · obtain ⟨rfl, rfl⟩ := hw
    rw [ht] at hB
    exact k a hg H1 locs1 ls hB hS h3
theorem z_callSV {y : MethodName} {bytes : ByteArray} {maxL n idx : Nat} {rt : Option FieldType} {rc : Room} {α β : Type} {F : Option α} {g : α → Option β} {q : β} (As : List Value) {st0 : List Value} (S : ZS x E rm cc nL own ret) (mo : MO y bytes maxL rt n) (hst : Cond.static y ∈ zt) (hlink : Cond.methodLink own idx y ∈ zt) (hrc : rc.cells = 0) (hrs : rc.slots = 0) (hR : rc.frames + 1 ≤ rm.frames ∧ 8 + (maxL + 11) + rc.locals ≤ rm.locals) (hcs : xk x ≤ rm.cells ∧ xj x ≤ rm.slots) (hn : As.length = n) (hW : (st.map fun v => v.category).sum ≤ 8) (hst0 : st0 = (As.reverse ++ st)) (d : decode cc pc = .ok (.invokestatic idx, 3)) (rp : α → PH)
    (hM : ∀ a, F = some a → CtV (xl x) E y bytes maxL rt rc As P (rp a)) (hf : F.bind g = some q) (k : ∀ a, g a = some q → Wz x E nL Q (rp a) (pc + 3) lv st) : Wz x E nL Q P pc lv st0 := by
  subst hst0
  obtain ⟨a, ha, hg⟩ := Option.bind_eq_some_iff.mp hf
  intro H locs ls h1 h2 h3
  refine va_callv (z_runS S mo hst hlink hrc hrs hR (hM a ha) hcs h1 h3.1 hn hW d) h2 (fun q _ h => ?_) (fun q h => ?_) (fun u t H1 locs1 ht _ hw hB _ _ hS => ?_)
  · obtain ⟨c, hc, rfl⟩ := h
    exact S.2.2.2.2.2.2.2.2.2.1 c hc
  · obtain ⟨c, hc, rfl⟩ := h
    exact S.2.2.2.2.2.2.2.2.2.1 c hc
  · subst hw
    rw [ht] at hB
    exact k a hg H1 locs1 ls hB hS h3
theorem z_nm {α : Type} {T : Int32 → Option α} {q : α} {e : Int32} (hf : (some e).bind T = some q) (k : ∀ v : Int32, T v = some q → Wz x E nL Q P pc lv (.int v :: st)) : Wz x E nL Q P pc lv (.int e :: st) := k e hf
theorem z_nmP {α : Type} {T : PH → Option α} {q : α} {e : PH} (hf : (some e).bind T = some q) (k : ∀ v : PH, T v = some q → Wz x E nL Q v pc lv st) : Wz x E nL Q e pc lv st := k e hf
end ROWS
end
section
theorem wd0 : Cond.selects RX8 yX8_isDigitAt yX8_isDigitAt ∈ zt := zt_mem 0 (by decide +kernel) rfl
theorem wd1 : Cond.selects RX8 yX8_takeNumber yX8_takeNumber ∈ zt := zt_mem 1 (by decide +kernel) rfl
theorem wd2 : Cond.selects RX6 yX6_readItem yX6_readItem ∈ zt := zt_mem 2 (by decide +kernel) rfl
theorem wd3 : Cond.selects RX6 yX6_fits yX6_fits ∈ zt := zt_mem 3 (by decide +kernel) rfl
theorem wd4 : Cond.selects RX6 yX6_tell yX6_tell ∈ zt := zt_mem 4 (by decide +kernel) rfl
theorem wd5 : Cond.selects RX1 yX1_loseOldest yX1_loseOldest ∈ zt := zt_mem 5 (by decide +kernel) rfl
theorem wd6 : Cond.selects RX9 yX9_unlessAlive yX9_unlessAlive ∈ zt := zt_mem 6 (by decide +kernel) rfl
theorem wd7 : Cond.selects RX7 yX7_isSo yX7_isSo ∈ zt := zt_mem 7 (by decide +kernel) rfl
theorem wd8 : Cond.selects RX10 yX10_next yX10_next ∈ zt := zt_mem 8 (by decide +kernel) rfl
theorem wd9 : Cond.selects RX10 yX10_letterAt yX10_letterAt ∈ zt := zt_mem 9 (by decide +kernel) rfl
theorem wd10 : Cond.selects RX10 yX10_readItem yX10_readItem ∈ zt := zt_mem 10 (by decide +kernel) rfl
theorem wd11 : Cond.selects RX10 yX10_readPerson yX10_readPerson ∈ zt := zt_mem 11 (by decide +kernel) rfl
theorem wd12 : Cond.selects RX10 yX10_takes yX10_takes ∈ zt := zt_mem 12 (by decide +kernel) rfl
theorem wd13 : Cond.selects RX10 yX10_readRoom yX10_readRoom ∈ zt := zt_mem 13 (by decide +kernel) rfl
theorem wd14 : Cond.selects RX10 yX10_readDoor yX10_readDoor ∈ zt := zt_mem 14 (by decide +kernel) rfl
theorem wd15 : Cond.selects RX10 yX10_readPlace yX10_readPlace ∈ zt := zt_mem 15 (by decide +kernel) rfl
theorem wd16 : Cond.selects RX10 yX10_isPerson yX10_isPerson ∈ zt := zt_mem 16 (by decide +kernel) rfl
theorem wd17 : Cond.selects RX10 yX10_asItIs yX10_asItIs ∈ zt := zt_mem 17 (by decide +kernel) rfl
theorem wd18 : Cond.selects RX10 yX10_mayIn yX10_mayIn ∈ zt := zt_mem 18 (by decide +kernel) rfl
theorem wd19 : Cond.selects RX10 yX10_mayBe yX10_mayBe ∈ zt := zt_mem 19 (by decide +kernel) rfl
theorem wd20 : Cond.selects RX10 yX10_isAlive yX10_isAlive ∈ zt := zt_mem 20 (by decide +kernel) rfl
theorem wd21 : Cond.selects RX10 yX10_ownerOf yX10_ownerOf ∈ zt := zt_mem 21 (by decide +kernel) rfl
theorem wd22 : Cond.selects RX10 yX10_goesBy yX10_goesBy ∈ zt := zt_mem 22 (by decide +kernel) rfl
theorem wd23 : Cond.selects RX10 yX10_isCutOff yX10_isCutOff ∈ zt := zt_mem 23 (by decide +kernel) rfl
theorem wd24 : Cond.selects RX10 yX10_isCutOffBy yX10_isCutOffBy ∈ zt := zt_mem 24 (by decide +kernel) rfl
theorem wd25 : Cond.selects RX10 yX10_isRoom yX10_isRoom ∈ zt := zt_mem 25 (by decide +kernel) rfl
theorem wd26 : Cond.selects RX10 yX10_whoMay yX10_whoMay ∈ zt := zt_mem 26 (by decide +kernel) rfl
theorem wd27 : Cond.selects RX10 yX10_cutOff yX10_cutOff ∈ zt := zt_mem 27 (by decide +kernel) rfl
theorem wd28 : Cond.selects RX10 yX10_remembers yX10_remembers ∈ zt := zt_mem 28 (by decide +kernel) rfl
theorem wd29 : Cond.selects RX10 yX10_refused yX10_refused ∈ zt := zt_mem 29 (by decide +kernel) rfl
theorem wd30 : Cond.selects RX10 yX10_roomRate yX10_roomRate ∈ zt := zt_mem 30 (by decide +kernel) rfl
theorem wd31 : Cond.selects RX10 yX10_hallRate yX10_hallRate ∈ zt := zt_mem 31 (by decide +kernel) rfl
theorem wd32 : Cond.selects RX10 yX10_stairRate yX10_stairRate ∈ zt := zt_mem 32 (by decide +kernel) rfl
theorem wd34 : Cond.initialized RX9 ∈ zt := zt_mem 34 (by decide +kernel) rfl
theorem wd35 : Cond.initialized RX6 ∈ zt := zt_mem 35 (by decide +kernel) rfl
theorem wd36 : Cond.initialized RX8 ∈ zt := zt_mem 36 (by decide +kernel) rfl
theorem wd37 : Cond.initialized RX1 ∈ zt := zt_mem 37 (by decide +kernel) rfl
theorem wd38 : Cond.initialized RX7 ∈ zt := zt_mem 38 (by decide +kernel) rfl
theorem wd39 : Cond.initialized RX5 ∈ zt := zt_mem 39 (by decide +kernel) rfl
theorem wd40 : Cond.initialized RX2 ∈ zt := zt_mem 40 (by decide +kernel) rfl
theorem wd41 : Cond.initialized RX4 ∈ zt := zt_mem 41 (by decide +kernel) rfl
theorem wd42 : Cond.initialized RX10 ∈ zt := zt_mem 42 (by decide +kernel) rfl
theorem wd43 : Cond.initialized "java/lang/System" ∈ zt := zt_mem 43 (by decide +kernel) rfl
theorem wd44 : Cond.initialized RJ6 ∈ zt := zt_mem 44 (by decide +kernel) rfl
theorem wd45 : Cond.initialized RX3 ∈ zt := zt_mem 45 (by decide +kernel) rfl
theorem wd46 : Cond.initialized RX0 ∈ zt := zt_mem 46 (by decide +kernel) rfl
theorem wd67 : Cond.fieldLink RX8 9 "GhostRooms$Text" "letters" "[I" ∈ zt := zt_mem 67 (by decide +kernel) rfl
theorem wd68 : Cond.fieldLink RX8 15 "GhostRooms$Text" "length" "I" ∈ zt := zt_mem 68 (by decide +kernel) rfl
theorem wd69 : Cond.fieldLink RX9 64 "GhostRooms$Text" "length" "I" ∈ zt := zt_mem 69 (by decide +kernel) rfl
theorem wd70 : Cond.fieldLink RX6 33 "GhostRooms$Text" "sort" "I" ∈ zt := zt_mem 70 (by decide +kernel) rfl
theorem wd71 : Cond.fieldLink RX8 25 "GhostRooms$Text" "sort" "I" ∈ zt := zt_mem 71 (by decide +kernel) rfl
theorem wd72 : Cond.fieldLink RX6 41 "GhostRooms$Text" "start" "I" ∈ zt := zt_mem 72 (by decide +kernel) rfl
theorem wd73 : Cond.fieldLink RX8 22 "GhostRooms$Text" "start" "I" ∈ zt := zt_mem 73 (by decide +kernel) rfl
theorem wd74 : Cond.fieldLink RX6 44 "GhostRooms$Text" "value" "I" ∈ zt := zt_mem 74 (by decide +kernel) rfl
theorem wd75 : Cond.fieldLink RX8 35 "GhostRooms$Text" "value" "I" ∈ zt := zt_mem 75 (by decide +kernel) rfl
theorem wd76 : Cond.fieldLink RX8 19 "GhostRooms$Text" "end" "I" ∈ zt := zt_mem 76 (by decide +kernel) rfl
theorem wd77 : Cond.laysFinal RX8 "GhostRooms$Text" "letters" "[I" ∈ zt := zt_mem 77 (by decide +kernel) rfl
theorem wd79 : Cond.lays RX8 "GhostRooms$Text" "length" "I" ∈ zt := zt_mem 79 (by decide +kernel) rfl
theorem wd81 : Cond.lays RX8 "GhostRooms$Text" "sort" "I" ∈ zt := zt_mem 81 (by decide +kernel) rfl
theorem wd83 : Cond.lays RX8 "GhostRooms$Text" "start" "I" ∈ zt := zt_mem 83 (by decide +kernel) rfl
theorem wd85 : Cond.lays RX8 "GhostRooms$Text" "value" "I" ∈ zt := zt_mem 85 (by decide +kernel) rfl
theorem wd87 : Cond.lays RX8 "GhostRooms$Text" "end" "I" ∈ zt := zt_mem 87 (by decide +kernel) rfl
theorem wd91 : Cond.fieldLink RX6 12 "GhostRooms$Reader" "text" "LGhostRooms$Text;" ∈ zt := zt_mem 91 (by decide +kernel) rfl
theorem wd92 : Cond.fieldLink RX9 54 "GhostRooms$Reader" "text" "LGhostRooms$Text;" ∈ zt := zt_mem 92 (by decide +kernel) rfl
theorem wd93 : Cond.fieldLink RX6 18 "GhostRooms$Reader" "numbers" "[I" ∈ zt := zt_mem 93 (by decide +kernel) rfl
theorem wd94 : Cond.laysFinal RX6 "GhostRooms$Reader" "text" "LGhostRooms$Text;" ∈ zt := zt_mem 94 (by decide +kernel) rfl
theorem wd96 : Cond.laysFinal RX6 "GhostRooms$Reader" "numbers" "[I" ∈ zt := zt_mem 96 (by decide +kernel) rfl
theorem wd105 : Cond.fieldLink RX1 21 "GhostRooms$Deeds" "size" "I" ∈ zt := zt_mem 105 (by decide +kernel) rfl
theorem wd106 : Cond.fieldLink RX9 75 "GhostRooms$Deeds" "size" "I" ∈ zt := zt_mem 106 (by decide +kernel) rfl
theorem wd107 : Cond.fieldLink RX1 9 "GhostRooms$Deeds" "deeds" "[I" ∈ zt := zt_mem 107 (by decide +kernel) rfl
theorem wd108 : Cond.fieldLink RX1 15 "GhostRooms$Deeds" "firsts" "[I" ∈ zt := zt_mem 108 (by decide +kernel) rfl
theorem wd109 : Cond.fieldLink RX1 18 "GhostRooms$Deeds" "seconds" "[I" ∈ zt := zt_mem 109 (by decide +kernel) rfl
theorem wd110 : Cond.lays RX1 "GhostRooms$Deeds" "size" "I" ∈ zt := zt_mem 110 (by decide +kernel) rfl
theorem wd112 : Cond.laysFinal RX1 "GhostRooms$Deeds" "deeds" "[I" ∈ zt := zt_mem 112 (by decide +kernel) rfl
theorem wd114 : Cond.laysFinal RX1 "GhostRooms$Deeds" "firsts" "[I" ∈ zt := zt_mem 114 (by decide +kernel) rfl
theorem wd116 : Cond.laysFinal RX1 "GhostRooms$Deeds" "seconds" "[I" ∈ zt := zt_mem 116 (by decide +kernel) rfl
theorem wd125 : Cond.fieldLink RX7 21 "GhostRooms$Seen" "size" "I" ∈ zt := zt_mem 125 (by decide +kernel) rfl
theorem wd126 : Cond.fieldLink RX9 72 "GhostRooms$Seen" "size" "I" ∈ zt := zt_mem 126 (by decide +kernel) rfl
theorem wd127 : Cond.fieldLink RX7 9 "GhostRooms$Seen" "people" "[I" ∈ zt := zt_mem 127 (by decide +kernel) rfl
theorem wd128 : Cond.fieldLink RX7 15 "GhostRooms$Seen" "rooms" "[I" ∈ zt := zt_mem 128 (by decide +kernel) rfl
theorem wd129 : Cond.fieldLink RX7 18 "GhostRooms$Seen" "mays" "[I" ∈ zt := zt_mem 129 (by decide +kernel) rfl
theorem wd130 : Cond.lays RX7 "GhostRooms$Seen" "size" "I" ∈ zt := zt_mem 130 (by decide +kernel) rfl
theorem wd132 : Cond.laysFinal RX7 "GhostRooms$Seen" "people" "[I" ∈ zt := zt_mem 132 (by decide +kernel) rfl
theorem wd134 : Cond.laysFinal RX7 "GhostRooms$Seen" "rooms" "[I" ∈ zt := zt_mem 134 (by decide +kernel) rfl
theorem wd136 : Cond.laysFinal RX7 "GhostRooms$Seen" "mays" "[I" ∈ zt := zt_mem 136 (by decide +kernel) rfl
theorem wd145 : Cond.fieldLink RX5 7 "GhostRooms$Rates" "trace" "J" ∈ zt := zt_mem 145 (by decide +kernel) rfl
theorem wd146 : Cond.fieldLink RX9 243 "GhostRooms$Rates" "trace" "J" ∈ zt := zt_mem 146 (by decide +kernel) rfl
theorem wd147 : Cond.lays RX5 "GhostRooms$Rates" "trace" "J" ∈ zt := zt_mem 147 (by decide +kernel) rfl
theorem wd164 : Cond.fieldLink RX4 27 "GhostRooms$Now" "day" "I" ∈ zt := zt_mem 164 (by decide +kernel) rfl
theorem wd165 : Cond.fieldLink RX3 15 "GhostRooms$Now" "day" "I" ∈ zt := zt_mem 165 (by decide +kernel) rfl
theorem wd166 : Cond.fieldLink RX2 35 "GhostRooms$Now" "day" "I" ∈ zt := zt_mem 166 (by decide +kernel) rfl
theorem wd167 : Cond.fieldLink RX0 40 "GhostRooms$Now" "day" "I" ∈ zt := zt_mem 167 (by decide +kernel) rfl
theorem wd168 : Cond.fieldLink RX1 34 "GhostRooms$Now" "day" "I" ∈ zt := zt_mem 168 (by decide +kernel) rfl
theorem wd169 : Cond.fieldLink RX9 110 "GhostRooms$Now" "day" "I" ∈ zt := zt_mem 169 (by decide +kernel) rfl
theorem wd170 : Cond.fieldLink RX5 57 "GhostRooms$Now" "day" "I" ∈ zt := zt_mem 170 (by decide +kernel) rfl
theorem wd171 : Cond.fieldLink RX4 31 "GhostRooms$Now" "alive" "I" ∈ zt := zt_mem 171 (by decide +kernel) rfl
theorem wd172 : Cond.fieldLink RX3 21 "GhostRooms$Now" "alive" "I" ∈ zt := zt_mem 172 (by decide +kernel) rfl
theorem wd173 : Cond.fieldLink RX2 38 "GhostRooms$Now" "alive" "I" ∈ zt := zt_mem 173 (by decide +kernel) rfl
theorem wd174 : Cond.fieldLink RX0 27 "GhostRooms$Now" "alive" "I" ∈ zt := zt_mem 174 (by decide +kernel) rfl
theorem wd175 : Cond.fieldLink RX1 39 "GhostRooms$Now" "alive" "I" ∈ zt := zt_mem 175 (by decide +kernel) rfl
theorem wd176 : Cond.fieldLink RX9 107 "GhostRooms$Now" "alive" "I" ∈ zt := zt_mem 176 (by decide +kernel) rfl
theorem wd177 : Cond.fieldLink RX4 34 "GhostRooms$Now" "rights" "I" ∈ zt := zt_mem 177 (by decide +kernel) rfl
theorem wd178 : Cond.fieldLink RX2 41 "GhostRooms$Now" "rights" "I" ∈ zt := zt_mem 178 (by decide +kernel) rfl
theorem wd179 : Cond.fieldLink RX6 73 "GhostRooms$Now" "rights" "I" ∈ zt := zt_mem 179 (by decide +kernel) rfl
theorem wd180 : Cond.fieldLink RX1 42 "GhostRooms$Now" "rights" "I" ∈ zt := zt_mem 180 (by decide +kernel) rfl
theorem wd181 : Cond.fieldLink RX9 135 "GhostRooms$Now" "rights" "I" ∈ zt := zt_mem 181 (by decide +kernel) rfl
theorem wd182 : Cond.fieldLink RX4 9 "GhostRooms$Now" "heirs" "[I" ∈ zt := zt_mem 182 (by decide +kernel) rfl
theorem wd183 : Cond.fieldLink RX7 31 "GhostRooms$Now" "heirs" "[I" ∈ zt := zt_mem 183 (by decide +kernel) rfl
theorem wd184 : Cond.fieldLink RX2 44 "GhostRooms$Now" "heirs" "[I" ∈ zt := zt_mem 184 (by decide +kernel) rfl
theorem wd185 : Cond.fieldLink RX1 49 "GhostRooms$Now" "heirs" "[I" ∈ zt := zt_mem 185 (by decide +kernel) rfl
theorem wd186 : Cond.fieldLink RX9 89 "GhostRooms$Now" "heirs" "[I" ∈ zt := zt_mem 186 (by decide +kernel) rfl
theorem wd187 : Cond.fieldLink RX4 15 "GhostRooms$Now" "left" "[I" ∈ zt := zt_mem 187 (by decide +kernel) rfl
theorem wd188 : Cond.fieldLink RX2 47 "GhostRooms$Now" "left" "[I" ∈ zt := zt_mem 188 (by decide +kernel) rfl
theorem wd189 : Cond.fieldLink RX9 120 "GhostRooms$Now" "left" "[I" ∈ zt := zt_mem 189 (by decide +kernel) rfl
theorem wd190 : Cond.fieldLink RX4 18 "GhostRooms$Now" "holders" "[I" ∈ zt := zt_mem 190 (by decide +kernel) rfl
theorem wd191 : Cond.fieldLink RX9 138 "GhostRooms$Now" "holders" "[I" ∈ zt := zt_mem 191 (by decide +kernel) rfl
theorem wd192 : Cond.fieldLink RX4 21 "GhostRooms$Now" "places" "[I" ∈ zt := zt_mem 192 (by decide +kernel) rfl
theorem wd193 : Cond.fieldLink RX9 141 "GhostRooms$Now" "places" "[I" ∈ zt := zt_mem 193 (by decide +kernel) rfl
theorem wd194 : Cond.fieldLink RX4 24 "GhostRooms$Now" "tills" "[I" ∈ zt := zt_mem 194 (by decide +kernel) rfl
theorem wd195 : Cond.fieldLink RX9 144 "GhostRooms$Now" "tills" "[I" ∈ zt := zt_mem 195 (by decide +kernel) rfl
theorem wd196 : Cond.lays RX4 "GhostRooms$Now" "day" "I" ∈ zt := zt_mem 196 (by decide +kernel) rfl
theorem wd198 : Cond.lays RX4 "GhostRooms$Now" "alive" "I" ∈ zt := zt_mem 198 (by decide +kernel) rfl
theorem wd200 : Cond.lays RX4 "GhostRooms$Now" "rights" "I" ∈ zt := zt_mem 200 (by decide +kernel) rfl
theorem wd202 : Cond.laysFinal RX4 "GhostRooms$Now" "heirs" "[I" ∈ zt := zt_mem 202 (by decide +kernel) rfl
theorem wd204 : Cond.laysFinal RX4 "GhostRooms$Now" "left" "[I" ∈ zt := zt_mem 204 (by decide +kernel) rfl
theorem wd206 : Cond.laysFinal RX4 "GhostRooms$Now" "holders" "[I" ∈ zt := zt_mem 206 (by decide +kernel) rfl
theorem wd208 : Cond.laysFinal RX4 "GhostRooms$Now" "places" "[I" ∈ zt := zt_mem 208 (by decide +kernel) rfl
theorem wd210 : Cond.laysFinal RX4 "GhostRooms$Now" "tills" "[I" ∈ zt := zt_mem 210 (by decide +kernel) rfl
theorem wd213 : Cond.fieldLink RX2 28 "GhostRooms$House" "people" "I" ∈ zt := zt_mem 213 (by decide +kernel) rfl
theorem wd214 : Cond.fieldLink RX3 44 "GhostRooms$House" "people" "I" ∈ zt := zt_mem 214 (by decide +kernel) rfl
theorem wd215 : Cond.fieldLink RX6 63 "GhostRooms$House" "people" "I" ∈ zt := zt_mem 215 (by decide +kernel) rfl
theorem wd216 : Cond.fieldLink RX9 237 "GhostRooms$House" "people" "I" ∈ zt := zt_mem 216 (by decide +kernel) rfl
theorem wd217 : Cond.fieldLink RX2 32 "GhostRooms$House" "rooms" "I" ∈ zt := zt_mem 217 (by decide +kernel) rfl
theorem wd218 : Cond.fieldLink RX3 32 "GhostRooms$House" "rooms" "I" ∈ zt := zt_mem 218 (by decide +kernel) rfl
theorem wd219 : Cond.fieldLink RX6 66 "GhostRooms$House" "rooms" "I" ∈ zt := zt_mem 219 (by decide +kernel) rfl
theorem wd220 : Cond.fieldLink RX9 240 "GhostRooms$House" "rooms" "I" ∈ zt := zt_mem 220 (by decide +kernel) rfl
theorem wd221 : Cond.fieldLink RX2 9 "GhostRooms$House" "doors" "[I" ∈ zt := zt_mem 221 (by decide +kernel) rfl
theorem wd222 : Cond.fieldLink RX5 13 "GhostRooms$House" "doors" "[I" ∈ zt := zt_mem 222 (by decide +kernel) rfl
theorem wd223 : Cond.fieldLink RX9 129 "GhostRooms$House" "doors" "[I" ∈ zt := zt_mem 223 (by decide +kernel) rfl
theorem wd224 : Cond.fieldLink RX2 15 "GhostRooms$House" "beds" "[I" ∈ zt := zt_mem 224 (by decide +kernel) rfl
theorem wd225 : Cond.fieldLink RX9 93 "GhostRooms$House" "beds" "[I" ∈ zt := zt_mem 225 (by decide +kernel) rfl
theorem wd226 : Cond.fieldLink RX6 100 "GhostRooms$House" "beds" "[I" ∈ zt := zt_mem 226 (by decide +kernel) rfl
theorem wd227 : Cond.fieldLink RX2 18 "GhostRooms$House" "wants" "[I" ∈ zt := zt_mem 227 (by decide +kernel) rfl
theorem wd228 : Cond.fieldLink RX9 96 "GhostRooms$House" "wants" "[I" ∈ zt := zt_mem 228 (by decide +kernel) rfl
theorem wd229 : Cond.fieldLink RX6 103 "GhostRooms$House" "wants" "[I" ∈ zt := zt_mem 229 (by decide +kernel) rfl
theorem wd230 : Cond.fieldLink RX2 24 "GhostRooms$House" "now" "LGhostRooms$Now;" ∈ zt := zt_mem 230 (by decide +kernel) rfl
theorem wd231 : Cond.fieldLink RX3 9 "GhostRooms$House" "now" "LGhostRooms$Now;" ∈ zt := zt_mem 231 (by decide +kernel) rfl
theorem wd232 : Cond.fieldLink RX0 21 "GhostRooms$House" "now" "LGhostRooms$Now;" ∈ zt := zt_mem 232 (by decide +kernel) rfl
theorem wd233 : Cond.fieldLink RX7 25 "GhostRooms$House" "now" "LGhostRooms$Now;" ∈ zt := zt_mem 233 (by decide +kernel) rfl
theorem wd234 : Cond.fieldLink RX5 36 "GhostRooms$House" "now" "LGhostRooms$Now;" ∈ zt := zt_mem 234 (by decide +kernel) rfl
theorem wd235 : Cond.fieldLink RX6 69 "GhostRooms$House" "now" "LGhostRooms$Now;" ∈ zt := zt_mem 235 (by decide +kernel) rfl
theorem wd236 : Cond.fieldLink RX9 85 "GhostRooms$House" "now" "LGhostRooms$Now;" ∈ zt := zt_mem 236 (by decide +kernel) rfl
theorem wd237 : Cond.lays RX2 "GhostRooms$House" "people" "I" ∈ zt := zt_mem 237 (by decide +kernel) rfl
theorem wd239 : Cond.lays RX2 "GhostRooms$House" "rooms" "I" ∈ zt := zt_mem 239 (by decide +kernel) rfl
theorem wd241 : Cond.laysFinal RX2 "GhostRooms$House" "doors" "[I" ∈ zt := zt_mem 241 (by decide +kernel) rfl
theorem wd243 : Cond.laysFinal RX2 "GhostRooms$House" "beds" "[I" ∈ zt := zt_mem 243 (by decide +kernel) rfl
theorem wd245 : Cond.laysFinal RX2 "GhostRooms$House" "wants" "[I" ∈ zt := zt_mem 245 (by decide +kernel) rfl
theorem wd247 : Cond.laysFinal RX2 "GhostRooms$House" "now" "LGhostRooms$Now;" ∈ zt := zt_mem 247 (by decide +kernel) rfl
theorem wd251 : Cond.fieldLink RX9 10 "GhostRooms" "reader" "LGhostRooms$Reader;" ∈ zt := zt_mem 251 (by decide +kernel) rfl
theorem wd252 : Cond.fieldLink RX9 19 "GhostRooms" "deeds" "LGhostRooms$Deeds;" ∈ zt := zt_mem 252 (by decide +kernel) rfl
theorem wd253 : Cond.fieldLink RX9 26 "GhostRooms" "seen" "LGhostRooms$Seen;" ∈ zt := zt_mem 253 (by decide +kernel) rfl
theorem wd254 : Cond.fieldLink RX9 33 "GhostRooms" "rates" "LGhostRooms$Rates;" ∈ zt := zt_mem 254 (by decide +kernel) rfl
theorem wd255 : Cond.fieldLink RX9 39 "GhostRooms" "images" "[LGhostRooms$Now;" ∈ zt := zt_mem 255 (by decide +kernel) rfl
theorem wd256 : Cond.fieldLink RX9 76 "GhostRooms" "imagesKept" "I" ∈ zt := zt_mem 256 (by decide +kernel) rfl
theorem wd257 : Cond.fieldLink RX9 46 "GhostRooms" "house" "LGhostRooms$House;" ∈ zt := zt_mem 257 (by decide +kernel) rfl
theorem wd258 : Cond.fieldLink RX9 50 "GhostRooms" "spare" "LGhostRooms$House;" ∈ zt := zt_mem 258 (by decide +kernel) rfl
theorem wd259 : Cond.laysFinal RX9 "GhostRooms" "reader" "LGhostRooms$Reader;" ∈ zt := zt_mem 259 (by decide +kernel) rfl
theorem wd261 : Cond.laysFinal RX9 "GhostRooms" "deeds" "LGhostRooms$Deeds;" ∈ zt := zt_mem 261 (by decide +kernel) rfl
theorem wd263 : Cond.laysFinal RX9 "GhostRooms" "seen" "LGhostRooms$Seen;" ∈ zt := zt_mem 263 (by decide +kernel) rfl
theorem wd265 : Cond.laysFinal RX9 "GhostRooms" "rates" "LGhostRooms$Rates;" ∈ zt := zt_mem 265 (by decide +kernel) rfl
theorem wd267 : Cond.laysFinal RX9 "GhostRooms" "images" "[LGhostRooms$Now;" ∈ zt := zt_mem 267 (by decide +kernel) rfl
theorem wd269 : Cond.lays RX9 "GhostRooms" "imagesKept" "I" ∈ zt := zt_mem 269 (by decide +kernel) rfl
theorem wd271 : Cond.lays RX9 "GhostRooms" "house" "LGhostRooms$House;" ∈ zt := zt_mem 271 (by decide +kernel) rfl
theorem wd273 : Cond.lays RX9 "GhostRooms" "spare" "LGhostRooms$House;" ∈ zt := zt_mem 273 (by decide +kernel) rfl
theorem wd280 : Cond.methodLink RX9 58 yX8_add ∈ zt := zt_mem 280 (by decide +kernel) rfl
theorem wd281 : Cond.instanceMethod yX8_add ∈ zt := zt_mem 281 (by decide +kernel) rfl
theorem wd282 : Cond.selects RX8 yX8_add yX8_add ∈ zt := zt_mem 282 (by decide +kernel) rfl
theorem wd283 : Cond.code yX8_add cX8_add 2 (some .boolean) ∈ zt := zt_mem 283 (by decide +kernel) rfl
theorem wd292 : Cond.methodLink RX9 68 yX6_readInto ∈ zt := zt_mem 292 (by decide +kernel) rfl
theorem wd293 : Cond.instanceMethod yX6_readInto ∈ zt := zt_mem 293 (by decide +kernel) rfl
theorem wd294 : Cond.selects RX6 yX6_readInto yX6_readInto ∈ zt := zt_mem 294 (by decide +kernel) rfl
theorem wd295 : Cond.code yX6_readInto cX6_readInto 3 (some .int) ∈ zt := zt_mem 295 (by decide +kernel) rfl
theorem wd296 : Cond.methodLink RX6 22 yX2_empty ∈ zt := zt_mem 296 (by decide +kernel) rfl
theorem wd297 : Cond.instanceMethod yX2_empty ∈ zt := zt_mem 297 (by decide +kernel) rfl
theorem wd298 : Cond.selects RX2 yX2_empty yX2_empty ∈ zt := zt_mem 298 (by decide +kernel) rfl
theorem wd299 : Cond.code yX2_empty cX2_empty 1 none ∈ zt := zt_mem 299 (by decide +kernel) rfl
theorem wd300 : Cond.methodLink RX6 27 yX8_rewind ∈ zt := zt_mem 300 (by decide +kernel) rfl
theorem wd301 : Cond.instanceMethod yX8_rewind ∈ zt := zt_mem 301 (by decide +kernel) rfl
theorem wd302 : Cond.selects RX8 yX8_rewind yX8_rewind ∈ zt := zt_mem 302 (by decide +kernel) rfl
theorem wd303 : Cond.code yX8_rewind cX8_rewind 1 none ∈ zt := zt_mem 303 (by decide +kernel) rfl
theorem wd304 : Cond.methodLink RX6 30 yX8_next ∈ zt := zt_mem 304 (by decide +kernel) rfl
theorem wd305 : Cond.instanceMethod yX8_next ∈ zt := zt_mem 305 (by decide +kernel) rfl
theorem wd306 : Cond.selects RX8 yX8_next yX8_next ∈ zt := zt_mem 306 (by decide +kernel) rfl
theorem wd307 : Cond.code yX8_next cX8_next 1 none ∈ zt := zt_mem 307 (by decide +kernel) rfl
theorem wd308 : Cond.methodLink RX8 28 yX8_isDigitAt ∈ zt := zt_mem 308 (by decide +kernel) rfl
theorem wd310 : Cond.instanceMethod yX8_isDigitAt ∈ zt := zt_mem 310 (by decide +kernel) rfl
theorem wd311 : Cond.code yX8_isDigitAt cX8_isDigitAt 2 (some .boolean) ∈ zt := zt_mem 311 (by decide +kernel) rfl
theorem wd312 : Cond.methodLink RX8 32 yX8_takeNumber ∈ zt := zt_mem 312 (by decide +kernel) rfl
theorem wd314 : Cond.instanceMethod yX8_takeNumber ∈ zt := zt_mem 314 (by decide +kernel) rfl
theorem wd315 : Cond.code yX8_takeNumber cX8_takeNumber 2 none ∈ zt := zt_mem 315 (by decide +kernel) rfl
theorem wd316 : Cond.methodLink RX6 37 yX6_readItem ∈ zt := zt_mem 316 (by decide +kernel) rfl
theorem wd318 : Cond.instanceMethod yX6_readItem ∈ zt := zt_mem 318 (by decide +kernel) rfl
theorem wd319 : Cond.code yX6_readItem cX6_readItem 5 (some .boolean) ∈ zt := zt_mem 319 (by decide +kernel) rfl
theorem wd320 : Cond.methodLink RX6 47 yX6_hasPlaceFor ∈ zt := zt_mem 320 (by decide +kernel) rfl
theorem wd321 : Cond.static yX6_hasPlaceFor ∈ zt := zt_mem 321 (by decide +kernel) rfl
theorem wd322 : Cond.code yX6_hasPlaceFor cX6_hasPlaceFor 2 (some .boolean) ∈ zt := zt_mem 322 (by decide +kernel) rfl
theorem wd323 : Cond.methodLink RX6 51 yX6_howManyNumbers ∈ zt := zt_mem 323 (by decide +kernel) rfl
theorem wd324 : Cond.static yX6_howManyNumbers ∈ zt := zt_mem 324 (by decide +kernel) rfl
theorem wd325 : Cond.code yX6_howManyNumbers cX6_howManyNumbers 1 (some .int) ∈ zt := zt_mem 325 (by decide +kernel) rfl
theorem wd326 : Cond.methodLink RX6 55 yX6_fits ∈ zt := zt_mem 326 (by decide +kernel) rfl
theorem wd328 : Cond.instanceMethod yX6_fits ∈ zt := zt_mem 328 (by decide +kernel) rfl
theorem wd329 : Cond.code yX6_fits cX6_fits 5 (some .boolean) ∈ zt := zt_mem 329 (by decide +kernel) rfl
theorem wd330 : Cond.methodLink RX6 78 yX2_canBeHeir ∈ zt := zt_mem 330 (by decide +kernel) rfl
theorem wd331 : Cond.static yX2_canBeHeir ∈ zt := zt_mem 331 (by decide +kernel) rfl
theorem wd332 : Cond.code yX2_canBeHeir cX2_canBeHeir 1 (some .boolean) ∈ zt := zt_mem 332 (by decide +kernel) rfl
theorem wd333 : Cond.methodLink RX6 82 yX2_isPerson ∈ zt := zt_mem 333 (by decide +kernel) rfl
theorem wd334 : Cond.instanceMethod yX2_isPerson ∈ zt := zt_mem 334 (by decide +kernel) rfl
theorem wd335 : Cond.selects RX2 yX2_isPerson yX2_isPerson ∈ zt := zt_mem 335 (by decide +kernel) rfl
theorem wd336 : Cond.code yX2_isPerson cX2_isPerson 2 (some .boolean) ∈ zt := zt_mem 336 (by decide +kernel) rfl
theorem wd337 : Cond.methodLink RX6 85 yX2_isRoom ∈ zt := zt_mem 337 (by decide +kernel) rfl
theorem wd338 : Cond.instanceMethod yX2_isRoom ∈ zt := zt_mem 338 (by decide +kernel) rfl
theorem wd339 : Cond.selects RX2 yX2_isRoom yX2_isRoom ∈ zt := zt_mem 339 (by decide +kernel) rfl
theorem wd340 : Cond.code yX2_isRoom cX2_isRoom 2 (some .boolean) ∈ zt := zt_mem 340 (by decide +kernel) rfl
theorem wd341 : Cond.methodLink RX6 59 yX6_tell ∈ zt := zt_mem 341 (by decide +kernel) rfl
theorem wd343 : Cond.instanceMethod yX6_tell ∈ zt := zt_mem 343 (by decide +kernel) rfl
theorem wd344 : Cond.code yX6_tell cX6_tell 5 none ∈ zt := zt_mem 344 (by decide +kernel) rfl
theorem wd345 : Cond.methodLink RX6 88 yX2_addPerson ∈ zt := zt_mem 345 (by decide +kernel) rfl
theorem wd346 : Cond.instanceMethod yX2_addPerson ∈ zt := zt_mem 346 (by decide +kernel) rfl
theorem wd347 : Cond.selects RX2 yX2_addPerson yX2_addPerson ∈ zt := zt_mem 347 (by decide +kernel) rfl
theorem wd348 : Cond.code yX2_addPerson cX2_addPerson 3 none ∈ zt := zt_mem 348 (by decide +kernel) rfl
theorem wd349 : Cond.methodLink RX6 92 yX2_addRoom ∈ zt := zt_mem 349 (by decide +kernel) rfl
theorem wd350 : Cond.instanceMethod yX2_addRoom ∈ zt := zt_mem 350 (by decide +kernel) rfl
theorem wd351 : Cond.selects RX2 yX2_addRoom yX2_addRoom ∈ zt := zt_mem 351 (by decide +kernel) rfl
theorem wd352 : Cond.code yX2_addRoom cX2_addRoom 2 none ∈ zt := zt_mem 352 (by decide +kernel) rfl
theorem wd353 : Cond.methodLink RX6 96 yX2_addDoor ∈ zt := zt_mem 353 (by decide +kernel) rfl
theorem wd354 : Cond.instanceMethod yX2_addDoor ∈ zt := zt_mem 354 (by decide +kernel) rfl
theorem wd355 : Cond.selects RX2 yX2_addDoor yX2_addDoor ∈ zt := zt_mem 355 (by decide +kernel) rfl
theorem wd356 : Cond.code yX2_addDoor cX2_addDoor 3 none ∈ zt := zt_mem 356 (by decide +kernel) rfl
theorem wd357 : Cond.methodLink RX6 106 yX4_addRight ∈ zt := zt_mem 357 (by decide +kernel) rfl
theorem wd358 : Cond.instanceMethod yX4_addRight ∈ zt := zt_mem 358 (by decide +kernel) rfl
theorem wd359 : Cond.selects RX4 yX4_addRight yX4_addRight ∈ zt := zt_mem 359 (by decide +kernel) rfl
theorem wd360 : Cond.code yX4_addRight cX4_addRight 4 none ∈ zt := zt_mem 360 (by decide +kernel) rfl
theorem wd365 : Cond.methodLink RX9 79 yX2_isPerson ∈ zt := zt_mem 365 (by decide +kernel) rfl
theorem wd366 : Cond.methodLink RX9 82 yX2_lives ∈ zt := zt_mem 366 (by decide +kernel) rfl
theorem wd367 : Cond.instanceMethod yX2_lives ∈ zt := zt_mem 367 (by decide +kernel) rfl
theorem wd368 : Cond.selects RX2 yX2_lives yX2_lives ∈ zt := zt_mem 368 (by decide +kernel) rfl
theorem wd369 : Cond.code yX2_lives cX2_lives 2 (some .boolean) ∈ zt := zt_mem 369 (by decide +kernel) rfl
theorem wd370 : Cond.methodLink RX2 50 yX2_isPerson ∈ zt := zt_mem 370 (by decide +kernel) rfl
theorem wd371 : Cond.methodLink RX9 99 yX2_mayNow ∈ zt := zt_mem 371 (by decide +kernel) rfl
theorem wd372 : Cond.instanceMethod yX2_mayNow ∈ zt := zt_mem 372 (by decide +kernel) rfl
theorem wd373 : Cond.selects RX2 yX2_mayNow yX2_mayNow ∈ zt := zt_mem 373 (by decide +kernel) rfl
theorem wd374 : Cond.code yX2_mayNow cX2_mayNow 2 (some .int) ∈ zt := zt_mem 374 (by decide +kernel) rfl
theorem wd375 : Cond.methodLink RX2 64 yX2_may ∈ zt := zt_mem 375 (by decide +kernel) rfl
theorem wd376 : Cond.instanceMethod yX2_may ∈ zt := zt_mem 376 (by decide +kernel) rfl
theorem wd377 : Cond.selects RX2 yX2_may yX2_may ∈ zt := zt_mem 377 (by decide +kernel) rfl
theorem wd378 : Cond.code yX2_may cX2_may 6 (some .int) ∈ zt := zt_mem 378 (by decide +kernel) rfl
theorem wd379 : Cond.methodLink RX2 58 yX2_owned ∈ zt := zt_mem 379 (by decide +kernel) rfl
theorem wd380 : Cond.instanceMethod yX2_owned ∈ zt := zt_mem 380 (by decide +kernel) rfl
theorem wd381 : Cond.selects RX2 yX2_owned yX2_owned ∈ zt := zt_mem 381 (by decide +kernel) rfl
theorem wd382 : Cond.code yX2_owned cX2_owned 5 (some .int) ∈ zt := zt_mem 382 (by decide +kernel) rfl
theorem wd383 : Cond.methodLink RX2 54 yX2_owner ∈ zt := zt_mem 383 (by decide +kernel) rfl
theorem wd384 : Cond.instanceMethod yX2_owner ∈ zt := zt_mem 384 (by decide +kernel) rfl
theorem wd385 : Cond.selects RX2 yX2_owner yX2_owner ∈ zt := zt_mem 385 (by decide +kernel) rfl
theorem wd386 : Cond.code yX2_owner cX2_owner 5 (some .int) ∈ zt := zt_mem 386 (by decide +kernel) rfl
theorem wd387 : Cond.methodLink RX2 61 yX4_roomsByRight ∈ zt := zt_mem 387 (by decide +kernel) rfl
theorem wd388 : Cond.instanceMethod yX4_roomsByRight ∈ zt := zt_mem 388 (by decide +kernel) rfl
theorem wd389 : Cond.selects RX4 yX4_roomsByRight yX4_roomsByRight ∈ zt := zt_mem 389 (by decide +kernel) rfl
theorem wd390 : Cond.code yX4_roomsByRight cX4_roomsByRight 5 (some .int) ∈ zt := zt_mem 390 (by decide +kernel) rfl
theorem wd391 : Cond.methodLink RX9 103 yX2_reach ∈ zt := zt_mem 391 (by decide +kernel) rfl
theorem wd392 : Cond.instanceMethod yX2_reach ∈ zt := zt_mem 392 (by decide +kernel) rfl
theorem wd393 : Cond.selects RX2 yX2_reach yX2_reach ∈ zt := zt_mem 393 (by decide +kernel) rfl
theorem wd394 : Cond.code yX2_reach cX2_reach 5 (some .int) ∈ zt := zt_mem 394 (by decide +kernel) rfl
theorem wd395 : Cond.methodLink RX2 68 yX2_behindDoorsOf ∈ zt := zt_mem 395 (by decide +kernel) rfl
theorem wd396 : Cond.instanceMethod yX2_behindDoorsOf ∈ zt := zt_mem 396 (by decide +kernel) rfl
theorem wd397 : Cond.selects RX2 yX2_behindDoorsOf yX2_behindDoorsOf ∈ zt := zt_mem 397 (by decide +kernel) rfl
theorem wd398 : Cond.code yX2_behindDoorsOf cX2_behindDoorsOf 4 (some .int) ∈ zt := zt_mem 398 (by decide +kernel) rfl
theorem wd399 : Cond.methodLink RX9 113 yX2_isCutOff ∈ zt := zt_mem 399 (by decide +kernel) rfl
theorem wd400 : Cond.instanceMethod yX2_isCutOff ∈ zt := zt_mem 400 (by decide +kernel) rfl
theorem wd401 : Cond.selects RX2 yX2_isCutOff yX2_isCutOff ∈ zt := zt_mem 401 (by decide +kernel) rfl
theorem wd402 : Cond.code yX2_isCutOff cX2_isCutOff 5 (some .boolean) ∈ zt := zt_mem 402 (by decide +kernel) rfl
theorem wd403 : Cond.methodLink RX2 75 yX2_lacks ∈ zt := zt_mem 403 (by decide +kernel) rfl
theorem wd404 : Cond.instanceMethod yX2_lacks ∈ zt := zt_mem 404 (by decide +kernel) rfl
theorem wd405 : Cond.selects RX2 yX2_lacks yX2_lacks ∈ zt := zt_mem 405 (by decide +kernel) rfl
theorem wd406 : Cond.code yX2_lacks cX2_lacks 3 (some .boolean) ∈ zt := zt_mem 406 (by decide +kernel) rfl
theorem wd407 : Cond.methodLink RX2 72 yX2_reach ∈ zt := zt_mem 407 (by decide +kernel) rfl
theorem wd412 : Cond.methodLink RX9 117 yX2_isRoom ∈ zt := zt_mem 412 (by decide +kernel) rfl
theorem wd413 : Cond.methodLink RX9 123 yX2_owner ∈ zt := zt_mem 413 (by decide +kernel) rfl
theorem wd414 : Cond.methodLink RX9 126 yX2_chain ∈ zt := zt_mem 414 (by decide +kernel) rfl
theorem wd415 : Cond.instanceMethod yX2_chain ∈ zt := zt_mem 415 (by decide +kernel) rfl
theorem wd416 : Cond.selects RX2 yX2_chain yX2_chain ∈ zt := zt_mem 416 (by decide +kernel) rfl
theorem wd417 : Cond.code yX2_chain cX2_chain 4 (some .int) ∈ zt := zt_mem 417 (by decide +kernel) rfl
theorem wd418 : Cond.methodLink RX9 132 yX2_whoMay ∈ zt := zt_mem 418 (by decide +kernel) rfl
theorem wd419 : Cond.instanceMethod yX2_whoMay ∈ zt := zt_mem 419 (by decide +kernel) rfl
theorem wd420 : Cond.selects RX2 yX2_whoMay yX2_whoMay ∈ zt := zt_mem 420 (by decide +kernel) rfl
theorem wd421 : Cond.code yX2_whoMay cX2_whoMay 4 (some .int) ∈ zt := zt_mem 421 (by decide +kernel) rfl
theorem wd430 : Cond.methodLink RX9 147 yX2_cutOff ∈ zt := zt_mem 430 (by decide +kernel) rfl
theorem wd431 : Cond.instanceMethod yX2_cutOff ∈ zt := zt_mem 431 (by decide +kernel) rfl
theorem wd432 : Cond.selects RX2 yX2_cutOff yX2_cutOff ∈ zt := zt_mem 432 (by decide +kernel) rfl
theorem wd433 : Cond.code yX2_cutOff cX2_cutOff 4 (some .int) ∈ zt := zt_mem 433 (by decide +kernel) rfl
theorem wd434 : Cond.methodLink RX2 79 yX2_isCutOff ∈ zt := zt_mem 434 (by decide +kernel) rfl
theorem wd439 : Cond.methodLink RX9 150 yX1_add ∈ zt := zt_mem 439 (by decide +kernel) rfl
theorem wd440 : Cond.instanceMethod yX1_add ∈ zt := zt_mem 440 (by decide +kernel) rfl
theorem wd441 : Cond.selects RX1 yX1_add yX1_add ∈ zt := zt_mem 441 (by decide +kernel) rfl
theorem wd442 : Cond.code yX1_add cX1_add 4 none ∈ zt := zt_mem 442 (by decide +kernel) rfl
theorem wd443 : Cond.methodLink RX1 25 yX1_loseOldest ∈ zt := zt_mem 443 (by decide +kernel) rfl
theorem wd445 : Cond.instanceMethod yX1_loseOldest ∈ zt := zt_mem 445 (by decide +kernel) rfl
theorem wd446 : Cond.code yX1_loseOldest cX1_loseOldest 1 none ∈ zt := zt_mem 446 (by decide +kernel) rfl
theorem wd447 : Cond.methodLink RX1 28 arraycopyName ∈ zt := zt_mem 447 (by decide +kernel) rfl
theorem wd448 : Cond.static arraycopyName ∈ zt := zt_mem 448 (by decide +kernel) rfl
theorem wd449 : Cond.native arraycopyName ∈ zt := zt_mem 449 (by decide +kernel) rfl
theorem wd454 : Cond.methodLink RX9 153 yJ6_bitCount_0f7a4 ∈ zt := zt_mem 454 (by decide +kernel) rfl
theorem wd455 : Cond.static yJ6_bitCount_0f7a4 ∈ zt := zt_mem 455 (by decide +kernel) rfl
theorem wd456 : Cond.code yJ6_bitCount_0f7a4 cJ6_bitCount_0f7a4 1 (some .int) ∈ zt := zt_mem 456 (by decide +kernel) rfl
theorem wd457 : Cond.constant RJ6 265 (1431655765) ∈ zt := zt_mem 457 (by decide +kernel) rfl
theorem wd458 : Cond.constant RJ6 266 (858993459) ∈ zt := zt_mem 458 (by decide +kernel) rfl
theorem wd459 : Cond.constant RJ6 267 (252645135) ∈ zt := zt_mem 459 (by decide +kernel) rfl
theorem wd464 : Cond.methodLink RX9 158 yX4_addRight ∈ zt := zt_mem 464 (by decide +kernel) rfl
theorem wd469 : Cond.methodLink RX9 161 yX4_swap ∈ zt := zt_mem 469 (by decide +kernel) rfl
theorem wd470 : Cond.instanceMethod yX4_swap ∈ zt := zt_mem 470 (by decide +kernel) rfl
theorem wd471 : Cond.selects RX4 yX4_swap yX4_swap ∈ zt := zt_mem 471 (by decide +kernel) rfl
theorem wd472 : Cond.code yX4_swap cX4_swap 4 none ∈ zt := zt_mem 472 (by decide +kernel) rfl
theorem wd477 : Cond.methodLink RX9 165 yX2_canBeHeir ∈ zt := zt_mem 477 (by decide +kernel) rfl
theorem wd482 : Cond.methodLink RX9 168 yX1_takeBack ∈ zt := zt_mem 482 (by decide +kernel) rfl
theorem wd483 : Cond.instanceMethod yX1_takeBack ∈ zt := zt_mem 483 (by decide +kernel) rfl
theorem wd484 : Cond.selects RX1 yX1_takeBack yX1_takeBack ∈ zt := zt_mem 484 (by decide +kernel) rfl
theorem wd485 : Cond.code yX1_takeBack cX1_takeBack 4 none ∈ zt := zt_mem 485 (by decide +kernel) rfl
theorem wd486 : Cond.methodLink RX1 45 yX4_swap ∈ zt := zt_mem 486 (by decide +kernel) rfl
theorem wd491 : Cond.methodLink RX9 172 yX3_firstDayCutOff ∈ zt := zt_mem 491 (by decide +kernel) rfl
theorem wd492 : Cond.static yX3_firstDayCutOff ∈ zt := zt_mem 492 (by decide +kernel) rfl
theorem wd493 : Cond.code yX3_firstDayCutOff cX3_firstDayCutOff 3 (some .int) ∈ zt := zt_mem 493 (by decide +kernel) rfl
theorem wd494 : Cond.methodLink RX3 24 yX2_isCutOff ∈ zt := zt_mem 494 (by decide +kernel) rfl
theorem wd499 : Cond.methodLink RX9 178 yX9_unlessAlive ∈ zt := zt_mem 499 (by decide +kernel) rfl
theorem wd501 : Cond.instanceMethod yX9_unlessAlive ∈ zt := zt_mem 501 (by decide +kernel) rfl
theorem wd502 : Cond.code yX9_unlessAlive cX9_unlessAlive 2 (some .int) ∈ zt := zt_mem 502 (by decide +kernel) rfl
theorem wd503 : Cond.methodLink RX9 181 yX3_fewestRights ∈ zt := zt_mem 503 (by decide +kernel) rfl
theorem wd504 : Cond.static yX3_fewestRights ∈ zt := zt_mem 504 (by decide +kernel) rfl
theorem wd505 : Cond.code yX3_fewestRights cX3_fewestRights 6 (some .int) ∈ zt := zt_mem 505 (by decide +kernel) rfl
theorem wd506 : Cond.methodLink RX3 28 yX2_mayNow ∈ zt := zt_mem 506 (by decide +kernel) rfl
theorem wd507 : Cond.methodLink RX3 35 yJ6_bitCount_0f7a4 ∈ zt := zt_mem 507 (by decide +kernel) rfl
theorem wd508 : Cond.methodLink RX3 40 yX2_lacks ∈ zt := zt_mem 508 (by decide +kernel) rfl
theorem wd513 : Cond.methodLink RX9 184 yX3_openers ∈ zt := zt_mem 513 (by decide +kernel) rfl
theorem wd514 : Cond.static yX3_openers ∈ zt := zt_mem 514 (by decide +kernel) rfl
theorem wd515 : Cond.code yX3_openers cX3_openers 7 (some .int) ∈ zt := zt_mem 515 (by decide +kernel) rfl
theorem wd516 : Cond.methodLink RX3 47 yX2_lives ∈ zt := zt_mem 516 (by decide +kernel) rfl
theorem wd521 : Cond.methodLink RX9 187 yX3_bestExchange ∈ zt := zt_mem 521 (by decide +kernel) rfl
theorem wd522 : Cond.static yX3_bestExchange ∈ zt := zt_mem 522 (by decide +kernel) rfl
theorem wd523 : Cond.code yX3_bestExchange cX3_bestExchange 6 (some .int) ∈ zt := zt_mem 523 (by decide +kernel) rfl
theorem wd524 : Cond.methodLink RX3 51 yX2_cutOff ∈ zt := zt_mem 524 (by decide +kernel) rfl
theorem wd525 : Cond.methodLink RX3 54 yX4_swap ∈ zt := zt_mem 525 (by decide +kernel) rfl
theorem wd530 : Cond.methodLink RX9 190 yX3_roomsHeldByRight ∈ zt := zt_mem 530 (by decide +kernel) rfl
theorem wd531 : Cond.static yX3_roomsHeldByRight ∈ zt := zt_mem 531 (by decide +kernel) rfl
theorem wd532 : Cond.code yX3_roomsHeldByRight cX3_roomsHeldByRight 4 (some .int) ∈ zt := zt_mem 532 (by decide +kernel) rfl
theorem wd537 : Cond.methodLink RX9 193 yX3_doorsBetween ∈ zt := zt_mem 537 (by decide +kernel) rfl
theorem wd538 : Cond.static yX3_doorsBetween ∈ zt := zt_mem 538 (by decide +kernel) rfl
theorem wd539 : Cond.code yX3_doorsBetween cX3_doorsBetween 6 (some .int) ∈ zt := zt_mem 539 (by decide +kernel) rfl
theorem wd540 : Cond.methodLink RX3 58 yX2_behindDoorsOf ∈ zt := zt_mem 540 (by decide +kernel) rfl
theorem wd545 : Cond.methodLink RX9 197 yX7_add ∈ zt := zt_mem 545 (by decide +kernel) rfl
theorem wd546 : Cond.instanceMethod yX7_add ∈ zt := zt_mem 546 (by decide +kernel) rfl
theorem wd547 : Cond.selects RX7 yX7_add yX7_add ∈ zt := zt_mem 547 (by decide +kernel) rfl
theorem wd548 : Cond.code yX7_add cX7_add 4 (some .boolean) ∈ zt := zt_mem 548 (by decide +kernel) rfl
theorem wd557 : Cond.methodLink RX9 200 yX7_heirsThatFit ∈ zt := zt_mem 557 (by decide +kernel) rfl
theorem wd558 : Cond.instanceMethod yX7_heirsThatFit ∈ zt := zt_mem 558 (by decide +kernel) rfl
theorem wd559 : Cond.selects RX7 yX7_heirsThatFit yX7_heirsThatFit ∈ zt := zt_mem 559 (by decide +kernel) rfl
theorem wd560 : Cond.code yX7_heirsThatFit cX7_heirsThatFit 6 (some .int) ∈ zt := zt_mem 560 (by decide +kernel) rfl
theorem wd561 : Cond.methodLink RX7 36 yX7_isSo ∈ zt := zt_mem 561 (by decide +kernel) rfl
theorem wd563 : Cond.instanceMethod yX7_isSo ∈ zt := zt_mem 563 (by decide +kernel) rfl
theorem wd564 : Cond.code yX7_isSo cX7_isSo 3 (some .boolean) ∈ zt := zt_mem 564 (by decide +kernel) rfl
theorem wd565 : Cond.methodLink RX7 40 yX2_mayNow ∈ zt := zt_mem 565 (by decide +kernel) rfl
theorem wd570 : Cond.methodLink RX9 203 yX2_owned ∈ zt := zt_mem 570 (by decide +kernel) rfl
theorem wd575 : Cond.methodLink RX9 206 yX0_fewestBefore ∈ zt := zt_mem 575 (by decide +kernel) rfl
theorem wd576 : Cond.static yX0_fewestBefore ∈ zt := zt_mem 576 (by decide +kernel) rfl
theorem wd577 : Cond.code yX0_fewestBefore cX0_fewestBefore 7 (some .int) ∈ zt := zt_mem 577 (by decide +kernel) rfl
theorem wd578 : Cond.methodLink RX0 9 yX0_othersThan ∈ zt := zt_mem 578 (by decide +kernel) rfl
theorem wd579 : Cond.static yX0_othersThan ∈ zt := zt_mem 579 (by decide +kernel) rfl
theorem wd580 : Cond.code yX0_othersThan cX0_othersThan 2 (some .int) ∈ zt := zt_mem 580 (by decide +kernel) rfl
theorem wd581 : Cond.methodLink RX0 15 yJ6_bitCount_0f7a4 ∈ zt := zt_mem 581 (by decide +kernel) rfl
theorem wd582 : Cond.methodLink RX0 33 yX2_owner ∈ zt := zt_mem 582 (by decide +kernel) rfl
theorem wd587 : Cond.methodLink RX9 211 yX0_chance ∈ zt := zt_mem 587 (by decide +kernel) rfl
theorem wd588 : Cond.static yX0_chance ∈ zt := zt_mem 588 (by decide +kernel) rfl
theorem wd589 : Cond.code yX0_chance cX0_chance 10 (some .int) ∈ zt := zt_mem 589 (by decide +kernel) rfl
theorem wd590 : Cond.methodLink RX0 37 yX0_power ∈ zt := zt_mem 590 (by decide +kernel) rfl
theorem wd591 : Cond.static yX0_power ∈ zt := zt_mem 591 (by decide +kernel) rfl
theorem wd592 : Cond.code yX0_power cX0_power 4 (some .int) ∈ zt := zt_mem 592 (by decide +kernel) rfl
theorem wd593 : Cond.methodLink RX0 43 yX2_isCutOff ∈ zt := zt_mem 593 (by decide +kernel) rfl
theorem wd594 : Cond.methodLink RX0 47 yX0_commonDivisor ∈ zt := zt_mem 594 (by decide +kernel) rfl
theorem wd595 : Cond.static yX0_commonDivisor ∈ zt := zt_mem 595 (by decide +kernel) rfl
theorem wd596 : Cond.code yX0_commonDivisor cX0_commonDivisor 4 (some .int) ∈ zt := zt_mem 596 (by decide +kernel) rfl
theorem wd601 : Cond.constant RX9 215 (-1000000) ∈ zt := zt_mem 601 (by decide +kernel) rfl
theorem wd602 : Cond.methodLink RX9 216 yX5_asRoom ∈ zt := zt_mem 602 (by decide +kernel) rfl
theorem wd603 : Cond.instanceMethod yX5_asRoom ∈ zt := zt_mem 603 (by decide +kernel) rfl
theorem wd604 : Cond.selects RX5 yX5_asRoom yX5_asRoom ∈ zt := zt_mem 604 (by decide +kernel) rfl
theorem wd605 : Cond.code yX5_asRoom cX5_asRoom 3 (some .int) ∈ zt := zt_mem 605 (by decide +kernel) rfl
theorem wd606 : Cond.methodLink RX5 19 yJ6_bitCount_0f7a4 ∈ zt := zt_mem 606 (by decide +kernel) rfl
theorem wd607 : Cond.methodLink RX9 219 yX5_asHall ∈ zt := zt_mem 607 (by decide +kernel) rfl
theorem wd608 : Cond.instanceMethod yX5_asHall ∈ zt := zt_mem 608 (by decide +kernel) rfl
theorem wd609 : Cond.selects RX5 yX5_asHall yX5_asHall ∈ zt := zt_mem 609 (by decide +kernel) rfl
theorem wd610 : Cond.code yX5_asHall cX5_asHall 3 (some .int) ∈ zt := zt_mem 610 (by decide +kernel) rfl
theorem wd611 : Cond.constantLong RX5 25 (10) ∈ zt := zt_mem 611 (by decide +kernel) rfl
theorem wd612 : Cond.methodLink RX5 27 yX5_asRoom ∈ zt := zt_mem 612 (by decide +kernel) rfl
theorem wd613 : Cond.methodLink RX5 31 yX2_whoMay ∈ zt := zt_mem 613 (by decide +kernel) rfl
theorem wd614 : Cond.methodLink RX9 222 yX5_asStair ∈ zt := zt_mem 614 (by decide +kernel) rfl
theorem wd615 : Cond.instanceMethod yX5_asStair ∈ zt := zt_mem 615 (by decide +kernel) rfl
theorem wd616 : Cond.selects RX5 yX5_asStair yX5_asStair ∈ zt := zt_mem 616 (by decide +kernel) rfl
theorem wd617 : Cond.code yX5_asStair cX5_asStair 3 (some .int) ∈ zt := zt_mem 617 (by decide +kernel) rfl
theorem wd618 : Cond.constantLong RX5 34 (100) ∈ zt := zt_mem 618 (by decide +kernel) rfl
theorem wd619 : Cond.methodLink RX5 40 yX4_rightsIn ∈ zt := zt_mem 619 (by decide +kernel) rfl
theorem wd620 : Cond.instanceMethod yX4_rightsIn ∈ zt := zt_mem 620 (by decide +kernel) rfl
theorem wd621 : Cond.selects RX4 yX4_rightsIn yX4_rightsIn ∈ zt := zt_mem 621 (by decide +kernel) rfl
theorem wd622 : Cond.code yX4_rightsIn cX4_rightsIn 4 (some .int) ∈ zt := zt_mem 622 (by decide +kernel) rfl
theorem wd623 : Cond.methodLink RX9 225 yX5_asAttic ∈ zt := zt_mem 623 (by decide +kernel) rfl
theorem wd624 : Cond.instanceMethod yX5_asAttic ∈ zt := zt_mem 624 (by decide +kernel) rfl
theorem wd625 : Cond.selects RX5 yX5_asAttic yX5_asAttic ∈ zt := zt_mem 625 (by decide +kernel) rfl
theorem wd626 : Cond.code yX5_asAttic cX5_asAttic 3 (some .int) ∈ zt := zt_mem 626 (by decide +kernel) rfl
theorem wd627 : Cond.constantLong RX5 45 (1000) ∈ zt := zt_mem 627 (by decide +kernel) rfl
theorem wd628 : Cond.methodLink RX5 47 yX5_asHall ∈ zt := zt_mem 628 (by decide +kernel) rfl
theorem wd629 : Cond.methodLink RX9 228 yX5_asCellar ∈ zt := zt_mem 629 (by decide +kernel) rfl
theorem wd630 : Cond.instanceMethod yX5_asCellar ∈ zt := zt_mem 630 (by decide +kernel) rfl
theorem wd631 : Cond.selects RX5 yX5_asCellar yX5_asCellar ∈ zt := zt_mem 631 (by decide +kernel) rfl
theorem wd632 : Cond.code yX5_asCellar cX5_asCellar 3 (some .int) ∈ zt := zt_mem 632 (by decide +kernel) rfl
theorem wd633 : Cond.constantLong RX5 50 (10000) ∈ zt := zt_mem 633 (by decide +kernel) rfl
theorem wd634 : Cond.methodLink RX5 52 yX5_asStair ∈ zt := zt_mem 634 (by decide +kernel) rfl
theorem wd635 : Cond.methodLink RX9 231 yX5_asBath ∈ zt := zt_mem 635 (by decide +kernel) rfl
theorem wd636 : Cond.instanceMethod yX5_asBath ∈ zt := zt_mem 636 (by decide +kernel) rfl
theorem wd637 : Cond.selects RX5 yX5_asBath yX5_asBath ∈ zt := zt_mem 637 (by decide +kernel) rfl
theorem wd638 : Cond.code yX5_asBath cX5_asBath 3 (some .int) ∈ zt := zt_mem 638 (by decide +kernel) rfl
theorem wd639 : Cond.constantLong RX5 55 (100000) ∈ zt := zt_mem 639 (by decide +kernel) rfl
theorem wd644 : Cond.methodLink RX9 234 yX4_copy ∈ zt := zt_mem 644 (by decide +kernel) rfl
theorem wd645 : Cond.instanceMethod yX4_copy ∈ zt := zt_mem 645 (by decide +kernel) rfl
theorem wd646 : Cond.selects RX4 yX4_copy yX4_copy ∈ zt := zt_mem 646 (by decide +kernel) rfl
theorem wd647 : Cond.code yX4_copy cX4_copy 2 none ∈ zt := zt_mem 647 (by decide +kernel) rfl
theorem wd648 : Cond.methodLink RX4 37 arraycopyName ∈ zt := zt_mem 648 (by decide +kernel) rfl
theorem wd667 : Cond.fieldLink RX10 53 "GhostRoomsModel" "people" "I" ∈ zt := zt_mem 667 (by decide +kernel) rfl
theorem wd668 : Cond.fieldLink RX10 61 "GhostRoomsModel" "rooms" "I" ∈ zt := zt_mem 668 (by decide +kernel) rfl
theorem wd669 : Cond.fieldLink RX10 7 "GhostRoomsModel" "bed" "[I" ∈ zt := zt_mem 669 (by decide +kernel) rfl
theorem wd670 : Cond.fieldLink RX10 13 "GhostRoomsModel" "wants" "[I" ∈ zt := zt_mem 670 (by decide +kernel) rfl
theorem wd671 : Cond.fieldLink RX10 16 "GhostRoomsModel" "doors" "[I" ∈ zt := zt_mem 671 (by decide +kernel) rfl
theorem wd672 : Cond.fieldLink RX10 19 "GhostRoomsModel" "st" "[I" ∈ zt := zt_mem 672 (by decide +kernel) rfl
theorem wd673 : Cond.fieldLink RX10 22 "GhostRoomsModel" "was" "[I" ∈ zt := zt_mem 673 (by decide +kernel) rfl
theorem wd674 : Cond.fieldLink RX10 128 "GhostRoomsModel" "known" "I" ∈ zt := zt_mem 674 (by decide +kernel) rfl
theorem wd675 : Cond.fieldLink RX10 25 "GhostRoomsModel" "images" "[I" ∈ zt := zt_mem 675 (by decide +kernel) rfl
theorem wd676 : Cond.fieldLink RX10 28 "GhostRoomsModel" "isKept" "[Z" ∈ zt := zt_mem 676 (by decide +kernel) rfl
theorem wd677 : Cond.fieldLink RX10 131 "GhostRoomsModel" "seens" "I" ∈ zt := zt_mem 677 (by decide +kernel) rfl
theorem wd678 : Cond.fieldLink RX10 32 "GhostRoomsModel" "seen" "[I" ∈ zt := zt_mem 678 (by decide +kernel) rfl
theorem wd679 : Cond.fieldLink RX10 193 "GhostRoomsModel" "trace" "J" ∈ zt := zt_mem 679 (by decide +kernel) rfl
theorem wd680 : Cond.fieldLink RX10 35 "GhostRoomsModel" "text" "[I" ∈ zt := zt_mem 680 (by decide +kernel) rfl
theorem wd681 : Cond.fieldLink RX10 64 "GhostRoomsModel" "texted" "I" ∈ zt := zt_mem 681 (by decide +kernel) rfl
theorem wd682 : Cond.fieldLink RX10 67 "GhostRoomsModel" "cursor" "I" ∈ zt := zt_mem 682 (by decide +kernel) rfl
theorem wd683 : Cond.fieldLink RX10 74 "GhostRoomsModel" "start" "I" ∈ zt := zt_mem 683 (by decide +kernel) rfl
theorem wd684 : Cond.fieldLink RX10 80 "GhostRoomsModel" "token" "I" ∈ zt := zt_mem 684 (by decide +kernel) rfl
theorem wd685 : Cond.fieldLink RX10 77 "GhostRoomsModel" "number" "I" ∈ zt := zt_mem 685 (by decide +kernel) rfl
theorem wd686 : Cond.fieldLink RX10 87 "GhostRoomsModel" "isWrong" "Z" ∈ zt := zt_mem 686 (by decide +kernel) rfl
theorem wd687 : Cond.fieldLink RX10 98 "GhostRoomsModel" "saidPeople" "I" ∈ zt := zt_mem 687 (by decide +kernel) rfl
theorem wd688 : Cond.fieldLink RX10 101 "GhostRoomsModel" "saidRooms" "I" ∈ zt := zt_mem 688 (by decide +kernel) rfl
theorem wd689 : Cond.fieldLink RX10 38 "GhostRoomsModel" "saidBed" "[I" ∈ zt := zt_mem 689 (by decide +kernel) rfl
theorem wd690 : Cond.fieldLink RX10 41 "GhostRoomsModel" "saidWants" "[I" ∈ zt := zt_mem 690 (by decide +kernel) rfl
theorem wd691 : Cond.fieldLink RX10 44 "GhostRoomsModel" "saidDoors" "[I" ∈ zt := zt_mem 691 (by decide +kernel) rfl
theorem wd692 : Cond.fieldLink RX10 47 "GhostRoomsModel" "said" "[I" ∈ zt := zt_mem 692 (by decide +kernel) rfl
theorem wd693 : Cond.fieldLink RX10 50 "GhostRoomsModel" "now" "[I" ∈ zt := zt_mem 693 (by decide +kernel) rfl
theorem wd694 : Cond.fieldLink RX10 141 "GhostRoomsModel" "chain" "I" ∈ zt := zt_mem 694 (by decide +kernel) rfl
theorem wd695 : Cond.lays RX10 "GhostRoomsModel" "people" "I" ∈ zt := zt_mem 695 (by decide +kernel) rfl
theorem wd697 : Cond.lays RX10 "GhostRoomsModel" "rooms" "I" ∈ zt := zt_mem 697 (by decide +kernel) rfl
theorem wd699 : Cond.laysFinal RX10 "GhostRoomsModel" "bed" "[I" ∈ zt := zt_mem 699 (by decide +kernel) rfl
theorem wd701 : Cond.laysFinal RX10 "GhostRoomsModel" "wants" "[I" ∈ zt := zt_mem 701 (by decide +kernel) rfl
theorem wd703 : Cond.laysFinal RX10 "GhostRoomsModel" "doors" "[I" ∈ zt := zt_mem 703 (by decide +kernel) rfl
theorem wd705 : Cond.laysFinal RX10 "GhostRoomsModel" "st" "[I" ∈ zt := zt_mem 705 (by decide +kernel) rfl
theorem wd707 : Cond.laysFinal RX10 "GhostRoomsModel" "was" "[I" ∈ zt := zt_mem 707 (by decide +kernel) rfl
theorem wd709 : Cond.lays RX10 "GhostRoomsModel" "known" "I" ∈ zt := zt_mem 709 (by decide +kernel) rfl
theorem wd711 : Cond.laysFinal RX10 "GhostRoomsModel" "images" "[I" ∈ zt := zt_mem 711 (by decide +kernel) rfl
theorem wd713 : Cond.laysFinal RX10 "GhostRoomsModel" "isKept" "[Z" ∈ zt := zt_mem 713 (by decide +kernel) rfl
theorem wd715 : Cond.lays RX10 "GhostRoomsModel" "seens" "I" ∈ zt := zt_mem 715 (by decide +kernel) rfl
theorem wd717 : Cond.laysFinal RX10 "GhostRoomsModel" "seen" "[I" ∈ zt := zt_mem 717 (by decide +kernel) rfl
theorem wd719 : Cond.lays RX10 "GhostRoomsModel" "trace" "J" ∈ zt := zt_mem 719 (by decide +kernel) rfl
theorem wd721 : Cond.laysFinal RX10 "GhostRoomsModel" "text" "[I" ∈ zt := zt_mem 721 (by decide +kernel) rfl
theorem wd723 : Cond.lays RX10 "GhostRoomsModel" "texted" "I" ∈ zt := zt_mem 723 (by decide +kernel) rfl
theorem wd725 : Cond.lays RX10 "GhostRoomsModel" "cursor" "I" ∈ zt := zt_mem 725 (by decide +kernel) rfl
theorem wd727 : Cond.lays RX10 "GhostRoomsModel" "start" "I" ∈ zt := zt_mem 727 (by decide +kernel) rfl
theorem wd729 : Cond.lays RX10 "GhostRoomsModel" "token" "I" ∈ zt := zt_mem 729 (by decide +kernel) rfl
theorem wd731 : Cond.lays RX10 "GhostRoomsModel" "number" "I" ∈ zt := zt_mem 731 (by decide +kernel) rfl
theorem wd733 : Cond.lays RX10 "GhostRoomsModel" "isWrong" "Z" ∈ zt := zt_mem 733 (by decide +kernel) rfl
theorem wd735 : Cond.lays RX10 "GhostRoomsModel" "saidPeople" "I" ∈ zt := zt_mem 735 (by decide +kernel) rfl
theorem wd737 : Cond.lays RX10 "GhostRoomsModel" "saidRooms" "I" ∈ zt := zt_mem 737 (by decide +kernel) rfl
theorem wd739 : Cond.laysFinal RX10 "GhostRoomsModel" "saidBed" "[I" ∈ zt := zt_mem 739 (by decide +kernel) rfl
theorem wd741 : Cond.laysFinal RX10 "GhostRoomsModel" "saidWants" "[I" ∈ zt := zt_mem 741 (by decide +kernel) rfl
theorem wd743 : Cond.laysFinal RX10 "GhostRoomsModel" "saidDoors" "[I" ∈ zt := zt_mem 743 (by decide +kernel) rfl
theorem wd745 : Cond.laysFinal RX10 "GhostRoomsModel" "said" "[I" ∈ zt := zt_mem 745 (by decide +kernel) rfl
theorem wd747 : Cond.laysFinal RX10 "GhostRoomsModel" "now" "[I" ∈ zt := zt_mem 747 (by decide +kernel) rfl
theorem wd749 : Cond.lays RX10 "GhostRoomsModel" "chain" "I" ∈ zt := zt_mem 749 (by decide +kernel) rfl
theorem wd757 : Cond.methodLink RX10 57 yX10_in ∈ zt := zt_mem 757 (by decide +kernel) rfl
theorem wd758 : Cond.static yX10_in ∈ zt := zt_mem 758 (by decide +kernel) rfl
theorem wd759 : Cond.code yX10_in cX10_in 3 (some .boolean) ∈ zt := zt_mem 759 (by decide +kernel) rfl
theorem wd768 : Cond.methodLink RX10 91 yX10_next ∈ zt := zt_mem 768 (by decide +kernel) rfl
theorem wd770 : Cond.instanceMethod yX10_next ∈ zt := zt_mem 770 (by decide +kernel) rfl
theorem wd771 : Cond.code yX10_next cX10_next 3 none ∈ zt := zt_mem 771 (by decide +kernel) rfl
theorem wd772 : Cond.methodLink RX10 70 yX10_letterAt ∈ zt := zt_mem 772 (by decide +kernel) rfl
theorem wd774 : Cond.instanceMethod yX10_letterAt ∈ zt := zt_mem 774 (by decide +kernel) rfl
theorem wd775 : Cond.code yX10_letterAt cX10_letterAt 2 (some .int) ∈ zt := zt_mem 775 (by decide +kernel) rfl
theorem wd776 : Cond.methodLink RX10 83 yX10_isFigure ∈ zt := zt_mem 776 (by decide +kernel) rfl
theorem wd777 : Cond.static yX10_isFigure ∈ zt := zt_mem 777 (by decide +kernel) rfl
theorem wd778 : Cond.code yX10_isFigure cX10_isFigure 1 (some .boolean) ∈ zt := zt_mem 778 (by decide +kernel) rfl
theorem wd779 : Cond.methodLink RX10 121 yX10_readItem ∈ zt := zt_mem 779 (by decide +kernel) rfl
theorem wd781 : Cond.instanceMethod yX10_readItem ∈ zt := zt_mem 781 (by decide +kernel) rfl
theorem wd782 : Cond.code yX10_readItem cX10_readItem 3 none ∈ zt := zt_mem 782 (by decide +kernel) rfl
theorem wd783 : Cond.methodLink RX10 108 yX10_readPerson ∈ zt := zt_mem 783 (by decide +kernel) rfl
theorem wd785 : Cond.instanceMethod yX10_readPerson ∈ zt := zt_mem 785 (by decide +kernel) rfl
theorem wd786 : Cond.code yX10_readPerson cX10_readPerson 3 none ∈ zt := zt_mem 786 (by decide +kernel) rfl
theorem wd787 : Cond.methodLink RX10 94 yX10_takes ∈ zt := zt_mem 787 (by decide +kernel) rfl
theorem wd789 : Cond.instanceMethod yX10_takes ∈ zt := zt_mem 789 (by decide +kernel) rfl
theorem wd790 : Cond.code yX10_takes cX10_takes 6 (some .int) ∈ zt := zt_mem 790 (by decide +kernel) rfl
theorem wd791 : Cond.methodLink RX10 111 yX10_readRoom ∈ zt := zt_mem 791 (by decide +kernel) rfl
theorem wd793 : Cond.instanceMethod yX10_readRoom ∈ zt := zt_mem 793 (by decide +kernel) rfl
theorem wd794 : Cond.code yX10_readRoom cX10_readRoom 1 none ∈ zt := zt_mem 794 (by decide +kernel) rfl
theorem wd795 : Cond.methodLink RX10 114 yX10_readDoor ∈ zt := zt_mem 795 (by decide +kernel) rfl
theorem wd797 : Cond.instanceMethod yX10_readDoor ∈ zt := zt_mem 797 (by decide +kernel) rfl
theorem wd798 : Cond.code yX10_readDoor cX10_readDoor 3 none ∈ zt := zt_mem 798 (by decide +kernel) rfl
theorem wd799 : Cond.methodLink RX10 117 yX10_readPlace ∈ zt := zt_mem 799 (by decide +kernel) rfl
theorem wd801 : Cond.instanceMethod yX10_readPlace ∈ zt := zt_mem 801 (by decide +kernel) rfl
theorem wd802 : Cond.code yX10_readPlace cX10_readPlace 5 none ∈ zt := zt_mem 802 (by decide +kernel) rfl
theorem wd803 : Cond.methodLink RX10 104 yX10_grantsIn ∈ zt := zt_mem 803 (by decide +kernel) rfl
theorem wd804 : Cond.static yX10_grantsIn ∈ zt := zt_mem 804 (by decide +kernel) rfl
theorem wd805 : Cond.code yX10_grantsIn cX10_grantsIn 5 none ∈ zt := zt_mem 805 (by decide +kernel) rfl
theorem wd806 : Cond.methodLink RX10 124 yX10_copy ∈ zt := zt_mem 806 (by decide +kernel) rfl
theorem wd807 : Cond.static yX10_copy ∈ zt := zt_mem 807 (by decide +kernel) rfl
theorem wd808 : Cond.code yX10_copy cX10_copy 5 none ∈ zt := zt_mem 808 (by decide +kernel) rfl
theorem wd813 : Cond.methodLink RX10 134 yX10_isPerson ∈ zt := zt_mem 813 (by decide +kernel) rfl
theorem wd815 : Cond.instanceMethod yX10_isPerson ∈ zt := zt_mem 815 (by decide +kernel) rfl
theorem wd816 : Cond.code yX10_isPerson cX10_isPerson 2 (some .boolean) ∈ zt := zt_mem 816 (by decide +kernel) rfl
theorem wd817 : Cond.methodLink RX10 166 yX10_asItIs ∈ zt := zt_mem 817 (by decide +kernel) rfl
theorem wd819 : Cond.instanceMethod yX10_asItIs ∈ zt := zt_mem 819 (by decide +kernel) rfl
theorem wd820 : Cond.code yX10_asItIs cX10_asItIs 1 none ∈ zt := zt_mem 820 (by decide +kernel) rfl
theorem wd821 : Cond.methodLink RX10 157 yX10_mayIn ∈ zt := zt_mem 821 (by decide +kernel) rfl
theorem wd823 : Cond.instanceMethod yX10_mayIn ∈ zt := zt_mem 823 (by decide +kernel) rfl
theorem wd824 : Cond.code yX10_mayIn cX10_mayIn 4 (some .int) ∈ zt := zt_mem 824 (by decide +kernel) rfl
theorem wd825 : Cond.methodLink RX10 150 yX10_mayBe ∈ zt := zt_mem 825 (by decide +kernel) rfl
theorem wd827 : Cond.instanceMethod yX10_mayBe ∈ zt := zt_mem 827 (by decide +kernel) rfl
theorem wd828 : Cond.code yX10_mayBe cX10_mayBe 6 (some .boolean) ∈ zt := zt_mem 828 (by decide +kernel) rfl
theorem wd829 : Cond.methodLink RX10 144 yX10_isAlive ∈ zt := zt_mem 829 (by decide +kernel) rfl
theorem wd831 : Cond.instanceMethod yX10_isAlive ∈ zt := zt_mem 831 (by decide +kernel) rfl
theorem wd832 : Cond.code yX10_isAlive cX10_isAlive 2 (some .boolean) ∈ zt := zt_mem 832 (by decide +kernel) rfl
theorem wd833 : Cond.methodLink RX10 137 yX10_has ∈ zt := zt_mem 833 (by decide +kernel) rfl
theorem wd834 : Cond.static yX10_has ∈ zt := zt_mem 834 (by decide +kernel) rfl
theorem wd835 : Cond.code yX10_has cX10_has 2 (some .boolean) ∈ zt := zt_mem 835 (by decide +kernel) rfl
theorem wd836 : Cond.methodLink RX10 147 yX10_ownerOf ∈ zt := zt_mem 836 (by decide +kernel) rfl
theorem wd838 : Cond.instanceMethod yX10_ownerOf ∈ zt := zt_mem 838 (by decide +kernel) rfl
theorem wd839 : Cond.code yX10_ownerOf cX10_ownerOf 3 (some .int) ∈ zt := zt_mem 839 (by decide +kernel) rfl
theorem wd840 : Cond.methodLink RX10 153 yX10_goesBy ∈ zt := zt_mem 840 (by decide +kernel) rfl
theorem wd842 : Cond.instanceMethod yX10_goesBy ∈ zt := zt_mem 842 (by decide +kernel) rfl
theorem wd843 : Cond.code yX10_goesBy cX10_goesBy 6 (some .int) ∈ zt := zt_mem 843 (by decide +kernel) rfl
theorem wd844 : Cond.methodLink RX10 163 yX10_isCutOff ∈ zt := zt_mem 844 (by decide +kernel) rfl
theorem wd846 : Cond.instanceMethod yX10_isCutOff ∈ zt := zt_mem 846 (by decide +kernel) rfl
theorem wd847 : Cond.code yX10_isCutOff cX10_isCutOff 2 (some .boolean) ∈ zt := zt_mem 847 (by decide +kernel) rfl
theorem wd848 : Cond.methodLink RX10 160 yX10_isCutOffBy ∈ zt := zt_mem 848 (by decide +kernel) rfl
theorem wd850 : Cond.instanceMethod yX10_isCutOffBy ∈ zt := zt_mem 850 (by decide +kernel) rfl
theorem wd851 : Cond.code yX10_isCutOffBy cX10_isCutOffBy 3 (some .boolean) ∈ zt := zt_mem 851 (by decide +kernel) rfl
theorem wd856 : Cond.methodLink RX10 169 yX10_isRoom ∈ zt := zt_mem 856 (by decide +kernel) rfl
theorem wd858 : Cond.instanceMethod yX10_isRoom ∈ zt := zt_mem 858 (by decide +kernel) rfl
theorem wd859 : Cond.code yX10_isRoom cX10_isRoom 2 (some .boolean) ∈ zt := zt_mem 859 (by decide +kernel) rfl
theorem wd860 : Cond.methodLink RX10 172 yX10_whoMay ∈ zt := zt_mem 860 (by decide +kernel) rfl
theorem wd862 : Cond.instanceMethod yX10_whoMay ∈ zt := zt_mem 862 (by decide +kernel) rfl
theorem wd863 : Cond.code yX10_whoMay cX10_whoMay 4 (some .int) ∈ zt := zt_mem 863 (by decide +kernel) rfl
theorem wd872 : Cond.methodLink RX10 175 yX10_cutOff ∈ zt := zt_mem 872 (by decide +kernel) rfl
theorem wd874 : Cond.instanceMethod yX10_cutOff ∈ zt := zt_mem 874 (by decide +kernel) rfl
theorem wd875 : Cond.code yX10_cutOff cX10_cutOff 3 (some .int) ∈ zt := zt_mem 875 (by decide +kernel) rfl
theorem wd880 : Cond.methodLink RX10 179 yX10_remembers ∈ zt := zt_mem 880 (by decide +kernel) rfl
theorem wd882 : Cond.instanceMethod yX10_remembers ∈ zt := zt_mem 882 (by decide +kernel) rfl
theorem wd883 : Cond.code yX10_remembers cX10_remembers 2 none ∈ zt := zt_mem 883 (by decide +kernel) rfl
theorem wd888 : Cond.methodLink RX10 182 yX10_bits ∈ zt := zt_mem 888 (by decide +kernel) rfl
theorem wd889 : Cond.static yX10_bits ∈ zt := zt_mem 889 (by decide +kernel) rfl
theorem wd890 : Cond.code yX10_bits cX10_bits 3 (some .int) ∈ zt := zt_mem 890 (by decide +kernel) rfl
theorem wd899 : Cond.methodLink RX10 185 yX10_swap ∈ zt := zt_mem 899 (by decide +kernel) rfl
theorem wd900 : Cond.static yX10_swap ∈ zt := zt_mem 900 (by decide +kernel) rfl
theorem wd901 : Cond.code yX10_swap cX10_swap 4 none ∈ zt := zt_mem 901 (by decide +kernel) rfl
theorem wd918 : Cond.methodLink RX10 189 yX10_refused ∈ zt := zt_mem 918 (by decide +kernel) rfl
theorem wd920 : Cond.instanceMethod yX10_refused ∈ zt := zt_mem 920 (by decide +kernel) rfl
theorem wd921 : Cond.code yX10_refused cX10_refused 3 (some .int) ∈ zt := zt_mem 921 (by decide +kernel) rfl
theorem wd966 : Cond.constant RX10 204 (-1000000) ∈ zt := zt_mem 966 (by decide +kernel) rfl
theorem wd967 : Cond.methodLink RX10 199 yX10_roomRate ∈ zt := zt_mem 967 (by decide +kernel) rfl
theorem wd969 : Cond.instanceMethod yX10_roomRate ∈ zt := zt_mem 969 (by decide +kernel) rfl
theorem wd970 : Cond.code yX10_roomRate cX10_roomRate 2 (some .int) ∈ zt := zt_mem 970 (by decide +kernel) rfl
theorem wd971 : Cond.methodLink RX10 205 yX10_hallRate ∈ zt := zt_mem 971 (by decide +kernel) rfl
theorem wd973 : Cond.instanceMethod yX10_hallRate ∈ zt := zt_mem 973 (by decide +kernel) rfl
theorem wd974 : Cond.code yX10_hallRate cX10_hallRate 2 (some .int) ∈ zt := zt_mem 974 (by decide +kernel) rfl
theorem wd975 : Cond.constantLong RX10 197 (10) ∈ zt := zt_mem 975 (by decide +kernel) rfl
theorem wd976 : Cond.methodLink RX10 208 yX10_stairRate ∈ zt := zt_mem 976 (by decide +kernel) rfl
theorem wd978 : Cond.instanceMethod yX10_stairRate ∈ zt := zt_mem 978 (by decide +kernel) rfl
theorem wd979 : Cond.code yX10_stairRate cX10_stairRate 4 (some .int) ∈ zt := zt_mem 979 (by decide +kernel) rfl
theorem wd980 : Cond.constantLong RX10 202 (100) ∈ zt := zt_mem 980 (by decide +kernel) rfl
theorem wd981 : Cond.constantLong RX10 211 (1000) ∈ zt := zt_mem 981 (by decide +kernel) rfl
theorem wd982 : Cond.constantLong RX10 213 (10000) ∈ zt := zt_mem 982 (by decide +kernel) rfl
theorem wd983 : Cond.constantLong RX10 215 (100000) ∈ zt := zt_mem 983 (by decide +kernel) rfl
theorem mo_J6_bitCount_0f7a4 : MO yJ6_bitCount_0f7a4 cJ6_bitCount_0f7a4 1 (some .int) 1 := ⟨wd456, wd44, ⟨by decide +kernel, by decide +kernel⟩, by decide +kernel⟩
theorem mo_X0_chance : MO yX0_chance cX0_chance 10 (some .int) 4 := ⟨wd589, wd46, ⟨by decide +kernel, by decide +kernel⟩, by decide +kernel⟩
theorem mo_X0_commonDivisor : MO yX0_commonDivisor cX0_commonDivisor 4 (some .int) 2 := ⟨wd596, wd46, ⟨by decide +kernel, by decide +kernel⟩, by decide +kernel⟩
theorem mo_X0_fewestBefore : MO yX0_fewestBefore cX0_fewestBefore 7 (some .int) 3 := ⟨wd577, wd46, ⟨by decide +kernel, by decide +kernel⟩, by decide +kernel⟩
theorem mo_X0_othersThan : MO yX0_othersThan cX0_othersThan 2 (some .int) 2 := ⟨wd580, wd46, ⟨by decide +kernel, by decide +kernel⟩, by decide +kernel⟩
theorem mo_X0_power : MO yX0_power cX0_power 4 (some .int) 2 := ⟨wd592, wd46, ⟨by decide +kernel, by decide +kernel⟩, by decide +kernel⟩
theorem mo_X10_asItIs : MO yX10_asItIs cX10_asItIs 1 none 0 := ⟨wd820, wd42, ⟨by decide +kernel, by decide +kernel⟩, by decide +kernel⟩
theorem mo_X10_bits : MO yX10_bits cX10_bits 3 (some .int) 1 := ⟨wd890, wd42, ⟨by decide +kernel, by decide +kernel⟩, by decide +kernel⟩
theorem mo_X10_copy : MO yX10_copy cX10_copy 5 none 4 := ⟨wd808, wd42, ⟨by decide +kernel, by decide +kernel⟩, by decide +kernel⟩
theorem mo_X10_cutOff : MO yX10_cutOff cX10_cutOff 3 (some .int) 0 := ⟨wd875, wd42, ⟨by decide +kernel, by decide +kernel⟩, by decide +kernel⟩
theorem mo_X10_goesBy : MO yX10_goesBy cX10_goesBy 6 (some .int) 2 := ⟨wd843, wd42, ⟨by decide +kernel, by decide +kernel⟩, by decide +kernel⟩
theorem mo_X10_grantsIn : MO yX10_grantsIn cX10_grantsIn 5 none 4 := ⟨wd805, wd42, ⟨by decide +kernel, by decide +kernel⟩, by decide +kernel⟩
theorem mo_X10_hallRate : MO yX10_hallRate cX10_hallRate 2 (some .int) 1 := ⟨wd974, wd42, ⟨by decide +kernel, by decide +kernel⟩, by decide +kernel⟩
theorem mo_X10_has : MO yX10_has cX10_has 2 (some .boolean) 2 := ⟨wd835, wd42, ⟨by decide +kernel, by decide +kernel⟩, by decide +kernel⟩
theorem mo_X10_in : MO yX10_in cX10_in 3 (some .boolean) 3 := ⟨wd759, wd42, ⟨by decide +kernel, by decide +kernel⟩, by decide +kernel⟩
theorem mo_X10_isAlive : MO yX10_isAlive cX10_isAlive 2 (some .boolean) 1 := ⟨wd832, wd42, ⟨by decide +kernel, by decide +kernel⟩, by decide +kernel⟩
theorem mo_X10_isCutOff : MO yX10_isCutOff cX10_isCutOff 2 (some .boolean) 1 := ⟨wd847, wd42, ⟨by decide +kernel, by decide +kernel⟩, by decide +kernel⟩
theorem mo_X10_isCutOffBy : MO yX10_isCutOffBy cX10_isCutOffBy 3 (some .boolean) 2 := ⟨wd851, wd42, ⟨by decide +kernel, by decide +kernel⟩, by decide +kernel⟩
theorem mo_X10_isFigure : MO yX10_isFigure cX10_isFigure 1 (some .boolean) 1 := ⟨wd778, wd42, ⟨by decide +kernel, by decide +kernel⟩, by decide +kernel⟩
theorem mo_X10_isPerson : MO yX10_isPerson cX10_isPerson 2 (some .boolean) 1 := ⟨wd816, wd42, ⟨by decide +kernel, by decide +kernel⟩, by decide +kernel⟩
theorem mo_X10_isRoom : MO yX10_isRoom cX10_isRoom 2 (some .boolean) 1 := ⟨wd859, wd42, ⟨by decide +kernel, by decide +kernel⟩, by decide +kernel⟩
theorem mo_X10_letterAt : MO yX10_letterAt cX10_letterAt 2 (some .int) 1 := ⟨wd775, wd42, ⟨by decide +kernel, by decide +kernel⟩, by decide +kernel⟩
theorem mo_X10_mayBe : MO yX10_mayBe cX10_mayBe 6 (some .boolean) 2 := ⟨wd828, wd42, ⟨by decide +kernel, by decide +kernel⟩, by decide +kernel⟩
theorem mo_X10_mayIn : MO yX10_mayIn cX10_mayIn 4 (some .int) 1 := ⟨wd824, wd42, ⟨by decide +kernel, by decide +kernel⟩, by decide +kernel⟩
theorem mo_X10_next : MO yX10_next cX10_next 3 none 0 := ⟨wd771, wd42, ⟨by decide +kernel, by decide +kernel⟩, by decide +kernel⟩
theorem mo_X10_ownerOf : MO yX10_ownerOf cX10_ownerOf 3 (some .int) 1 := ⟨wd839, wd42, ⟨by decide +kernel, by decide +kernel⟩, by decide +kernel⟩
theorem mo_X10_readDoor : MO yX10_readDoor cX10_readDoor 3 none 0 := ⟨wd798, wd42, ⟨by decide +kernel, by decide +kernel⟩, by decide +kernel⟩
theorem mo_X10_readItem : MO yX10_readItem cX10_readItem 3 none 0 := ⟨wd782, wd42, ⟨by decide +kernel, by decide +kernel⟩, by decide +kernel⟩
theorem mo_X10_readPerson : MO yX10_readPerson cX10_readPerson 3 none 0 := ⟨wd786, wd42, ⟨by decide +kernel, by decide +kernel⟩, by decide +kernel⟩
theorem mo_X10_readPlace : MO yX10_readPlace cX10_readPlace 5 none 1 := ⟨wd802, wd42, ⟨by decide +kernel, by decide +kernel⟩, by decide +kernel⟩
theorem mo_X10_readRoom : MO yX10_readRoom cX10_readRoom 1 none 0 := ⟨wd794, wd42, ⟨by decide +kernel, by decide +kernel⟩, by decide +kernel⟩
theorem mo_X10_refused : MO yX10_refused cX10_refused 3 (some .int) 2 := ⟨wd921, wd42, ⟨by decide +kernel, by decide +kernel⟩, by decide +kernel⟩
theorem mo_X10_remembers : MO yX10_remembers cX10_remembers 2 none 0 := ⟨wd883, wd42, ⟨by decide +kernel, by decide +kernel⟩, by decide +kernel⟩
theorem mo_X10_roomRate : MO yX10_roomRate cX10_roomRate 2 (some .int) 1 := ⟨wd970, wd42, ⟨by decide +kernel, by decide +kernel⟩, by decide +kernel⟩
theorem mo_X10_stairRate : MO yX10_stairRate cX10_stairRate 4 (some .int) 1 := ⟨wd979, wd42, ⟨by decide +kernel, by decide +kernel⟩, by decide +kernel⟩
theorem mo_X10_swap : MO yX10_swap cX10_swap 4 none 3 := ⟨wd901, wd42, ⟨by decide +kernel, by decide +kernel⟩, by decide +kernel⟩
theorem mo_X10_takes : MO yX10_takes cX10_takes 6 (some .int) 3 := ⟨wd790, wd42, ⟨by decide +kernel, by decide +kernel⟩, by decide +kernel⟩
theorem mo_X10_whoMay : MO yX10_whoMay cX10_whoMay 4 (some .int) 1 := ⟨wd863, wd42, ⟨by decide +kernel, by decide +kernel⟩, by decide +kernel⟩
theorem mo_X1_add : MO yX1_add cX1_add 4 none 3 := ⟨wd442, wd37, ⟨by decide +kernel, by decide +kernel⟩, by decide +kernel⟩
theorem mo_X1_loseOldest : MO yX1_loseOldest cX1_loseOldest 1 none 0 := ⟨wd446, wd37, ⟨by decide +kernel, by decide +kernel⟩, by decide +kernel⟩
theorem mo_X1_takeBack : MO yX1_takeBack cX1_takeBack 4 none 1 := ⟨wd485, wd37, ⟨by decide +kernel, by decide +kernel⟩, by decide +kernel⟩
theorem mo_X2_addDoor : MO yX2_addDoor cX2_addDoor 3 none 2 := ⟨wd356, wd40, ⟨by decide +kernel, by decide +kernel⟩, by decide +kernel⟩
theorem mo_X2_addPerson : MO yX2_addPerson cX2_addPerson 3 none 2 := ⟨wd348, wd40, ⟨by decide +kernel, by decide +kernel⟩, by decide +kernel⟩
theorem mo_X2_addRoom : MO yX2_addRoom cX2_addRoom 2 none 1 := ⟨wd352, wd40, ⟨by decide +kernel, by decide +kernel⟩, by decide +kernel⟩
theorem mo_X2_behindDoorsOf : MO yX2_behindDoorsOf cX2_behindDoorsOf 4 (some .int) 1 := ⟨wd398, wd40, ⟨by decide +kernel, by decide +kernel⟩, by decide +kernel⟩
theorem mo_X2_canBeHeir : MO yX2_canBeHeir cX2_canBeHeir 1 (some .boolean) 1 := ⟨wd332, wd40, ⟨by decide +kernel, by decide +kernel⟩, by decide +kernel⟩
theorem mo_X2_chain : MO yX2_chain cX2_chain 4 (some .int) 1 := ⟨wd417, wd40, ⟨by decide +kernel, by decide +kernel⟩, by decide +kernel⟩
theorem mo_X2_cutOff : MO yX2_cutOff cX2_cutOff 4 (some .int) 1 := ⟨wd433, wd40, ⟨by decide +kernel, by decide +kernel⟩, by decide +kernel⟩
theorem mo_X2_empty : MO yX2_empty cX2_empty 1 none 0 := ⟨wd299, wd40, ⟨by decide +kernel, by decide +kernel⟩, by decide +kernel⟩
theorem mo_X2_isCutOff : MO yX2_isCutOff cX2_isCutOff 5 (some .boolean) 4 := ⟨wd402, wd40, ⟨by decide +kernel, by decide +kernel⟩, by decide +kernel⟩
theorem mo_X2_isPerson : MO yX2_isPerson cX2_isPerson 2 (some .boolean) 1 := ⟨wd336, wd40, ⟨by decide +kernel, by decide +kernel⟩, by decide +kernel⟩
theorem mo_X2_isRoom : MO yX2_isRoom cX2_isRoom 2 (some .boolean) 1 := ⟨wd340, wd40, ⟨by decide +kernel, by decide +kernel⟩, by decide +kernel⟩
theorem mo_X2_lacks : MO yX2_lacks cX2_lacks 3 (some .boolean) 2 := ⟨wd406, wd40, ⟨by decide +kernel, by decide +kernel⟩, by decide +kernel⟩
theorem mo_X2_lives : MO yX2_lives cX2_lives 2 (some .boolean) 1 := ⟨wd369, wd40, ⟨by decide +kernel, by decide +kernel⟩, by decide +kernel⟩
theorem mo_X2_may : MO yX2_may cX2_may 6 (some .int) 4 := ⟨wd378, wd40, ⟨by decide +kernel, by decide +kernel⟩, by decide +kernel⟩
theorem mo_X2_mayNow : MO yX2_mayNow cX2_mayNow 2 (some .int) 1 := ⟨wd374, wd40, ⟨by decide +kernel, by decide +kernel⟩, by decide +kernel⟩
theorem mo_X2_owned : MO yX2_owned cX2_owned 5 (some .int) 2 := ⟨wd382, wd40, ⟨by decide +kernel, by decide +kernel⟩, by decide +kernel⟩
theorem mo_X2_owner : MO yX2_owner cX2_owner 5 (some .int) 2 := ⟨wd386, wd40, ⟨by decide +kernel, by decide +kernel⟩, by decide +kernel⟩
theorem mo_X2_reach : MO yX2_reach cX2_reach 5 (some .int) 2 := ⟨wd394, wd40, ⟨by decide +kernel, by decide +kernel⟩, by decide +kernel⟩
theorem mo_X2_whoMay : MO yX2_whoMay cX2_whoMay 4 (some .int) 1 := ⟨wd421, wd40, ⟨by decide +kernel, by decide +kernel⟩, by decide +kernel⟩
theorem mo_X3_bestExchange : MO yX3_bestExchange cX3_bestExchange 6 (some .int) 1 := ⟨wd523, wd45, ⟨by decide +kernel, by decide +kernel⟩, by decide +kernel⟩
theorem mo_X3_doorsBetween : MO yX3_doorsBetween cX3_doorsBetween 6 (some .int) 3 := ⟨wd539, wd45, ⟨by decide +kernel, by decide +kernel⟩, by decide +kernel⟩
theorem mo_X3_fewestRights : MO yX3_fewestRights cX3_fewestRights 6 (some .int) 2 := ⟨wd505, wd45, ⟨by decide +kernel, by decide +kernel⟩, by decide +kernel⟩
theorem mo_X3_firstDayCutOff : MO yX3_firstDayCutOff cX3_firstDayCutOff 3 (some .int) 2 := ⟨wd493, wd45, ⟨by decide +kernel, by decide +kernel⟩, by decide +kernel⟩
theorem mo_X3_openers : MO yX3_openers cX3_openers 7 (some .int) 2 := ⟨wd515, wd45, ⟨by decide +kernel, by decide +kernel⟩, by decide +kernel⟩
theorem mo_X3_roomsHeldByRight : MO yX3_roomsHeldByRight cX3_roomsHeldByRight 4 (some .int) 1 := ⟨wd532, wd45, ⟨by decide +kernel, by decide +kernel⟩, by decide +kernel⟩
theorem mo_X4_addRight : MO yX4_addRight cX4_addRight 4 none 3 := ⟨wd360, wd41, ⟨by decide +kernel, by decide +kernel⟩, by decide +kernel⟩
theorem mo_X4_copy : MO yX4_copy cX4_copy 2 none 1 := ⟨wd647, wd41, ⟨by decide +kernel, by decide +kernel⟩, by decide +kernel⟩
theorem mo_X4_rightsIn : MO yX4_rightsIn cX4_rightsIn 4 (some .int) 1 := ⟨wd622, wd41, ⟨by decide +kernel, by decide +kernel⟩, by decide +kernel⟩
theorem mo_X4_roomsByRight : MO yX4_roomsByRight cX4_roomsByRight 5 (some .int) 2 := ⟨wd390, wd41, ⟨by decide +kernel, by decide +kernel⟩, by decide +kernel⟩
theorem mo_X4_swap : MO yX4_swap cX4_swap 4 none 2 := ⟨wd472, wd41, ⟨by decide +kernel, by decide +kernel⟩, by decide +kernel⟩
theorem mo_X5_asAttic : MO yX5_asAttic cX5_asAttic 3 (some .int) 2 := ⟨wd626, wd39, ⟨by decide +kernel, by decide +kernel⟩, by decide +kernel⟩
theorem mo_X5_asBath : MO yX5_asBath cX5_asBath 3 (some .int) 2 := ⟨wd638, wd39, ⟨by decide +kernel, by decide +kernel⟩, by decide +kernel⟩
theorem mo_X5_asCellar : MO yX5_asCellar cX5_asCellar 3 (some .int) 2 := ⟨wd632, wd39, ⟨by decide +kernel, by decide +kernel⟩, by decide +kernel⟩
theorem mo_X5_asHall : MO yX5_asHall cX5_asHall 3 (some .int) 2 := ⟨wd610, wd39, ⟨by decide +kernel, by decide +kernel⟩, by decide +kernel⟩
theorem mo_X5_asRoom : MO yX5_asRoom cX5_asRoom 3 (some .int) 2 := ⟨wd605, wd39, ⟨by decide +kernel, by decide +kernel⟩, by decide +kernel⟩
theorem mo_X5_asStair : MO yX5_asStair cX5_asStair 3 (some .int) 2 := ⟨wd617, wd39, ⟨by decide +kernel, by decide +kernel⟩, by decide +kernel⟩
theorem mo_X6_fits : MO yX6_fits cX6_fits 5 (some .boolean) 4 := ⟨wd329, wd35, ⟨by decide +kernel, by decide +kernel⟩, by decide +kernel⟩
theorem mo_X6_hasPlaceFor : MO yX6_hasPlaceFor cX6_hasPlaceFor 2 (some .boolean) 2 := ⟨wd322, wd35, ⟨by decide +kernel, by decide +kernel⟩, by decide +kernel⟩
theorem mo_X6_howManyNumbers : MO yX6_howManyNumbers cX6_howManyNumbers 1 (some .int) 1 := ⟨wd325, wd35, ⟨by decide +kernel, by decide +kernel⟩, by decide +kernel⟩
theorem mo_X6_readInto : MO yX6_readInto cX6_readInto 3 (some .int) 1 := ⟨wd295, wd35, ⟨by decide +kernel, by decide +kernel⟩, by decide +kernel⟩
theorem mo_X6_readItem : MO yX6_readItem cX6_readItem 5 (some .boolean) 1 := ⟨wd319, wd35, ⟨by decide +kernel, by decide +kernel⟩, by decide +kernel⟩
theorem mo_X6_tell : MO yX6_tell cX6_tell 5 none 2 := ⟨wd344, wd35, ⟨by decide +kernel, by decide +kernel⟩, by decide +kernel⟩
theorem mo_X7_add : MO yX7_add cX7_add 4 (some .boolean) 3 := ⟨wd548, wd38, ⟨by decide +kernel, by decide +kernel⟩, by decide +kernel⟩
theorem mo_X7_heirsThatFit : MO yX7_heirsThatFit cX7_heirsThatFit 6 (some .int) 2 := ⟨wd560, wd38, ⟨by decide +kernel, by decide +kernel⟩, by decide +kernel⟩
theorem mo_X7_isSo : MO yX7_isSo cX7_isSo 3 (some .boolean) 1 := ⟨wd564, wd38, ⟨by decide +kernel, by decide +kernel⟩, by decide +kernel⟩
theorem mo_X8_add : MO yX8_add cX8_add 2 (some .boolean) 1 := ⟨wd283, wd36, ⟨by decide +kernel, by decide +kernel⟩, by decide +kernel⟩
theorem mo_X8_isDigitAt : MO yX8_isDigitAt cX8_isDigitAt 2 (some .boolean) 1 := ⟨wd311, wd36, ⟨by decide +kernel, by decide +kernel⟩, by decide +kernel⟩
theorem mo_X8_next : MO yX8_next cX8_next 1 none 0 := ⟨wd307, wd36, ⟨by decide +kernel, by decide +kernel⟩, by decide +kernel⟩
theorem mo_X8_rewind : MO yX8_rewind cX8_rewind 1 none 0 := ⟨wd303, wd36, ⟨by decide +kernel, by decide +kernel⟩, by decide +kernel⟩
theorem mo_X8_takeNumber : MO yX8_takeNumber cX8_takeNumber 2 none 0 := ⟨wd315, wd36, ⟨by decide +kernel, by decide +kernel⟩, by decide +kernel⟩
theorem mo_X9_unlessAlive : MO yX9_unlessAlive cX9_unlessAlive 2 (some .int) 1 := ⟨wd502, wd34, ⟨by decide +kernel, by decide +kernel⟩, by decide +kernel⟩
theorem uw_0 : ∀ w ∈ u_ws RX1 TX1 4, w ∈ zt := List.forall_mem_cons.mpr ⟨wd110, List.forall_mem_cons.mpr ⟨wd112, List.forall_mem_cons.mpr ⟨wd114, List.forall_mem_cons.mpr ⟨wd116, fun _ h => absurd h List.not_mem_nil⟩⟩⟩⟩
theorem cl_0 : classes[0]? = some (RX1, TX1, 4) := rfl
theorem cf_0 : CF 0 RX1 TX1 4 tyX1 := ⟨rfl, uw_0, tyX1_ok, nmX1, rfl, by decide⟩
theorem uw_1 : ∀ w ∈ u_ws RX2 TX2 6, w ∈ zt := List.forall_mem_cons.mpr ⟨wd237, List.forall_mem_cons.mpr ⟨wd239, List.forall_mem_cons.mpr ⟨wd241, List.forall_mem_cons.mpr ⟨wd243, List.forall_mem_cons.mpr ⟨wd245, List.forall_mem_cons.mpr ⟨wd247, fun _ h => absurd h List.not_mem_nil⟩⟩⟩⟩⟩⟩
theorem cl_1 : classes[1]? = some (RX2, TX2, 6) := rfl
theorem cf_1 : CF 1 RX2 TX2 6 tyX2 := ⟨rfl, uw_1, tyX2_ok, nmX2, rfl, by decide⟩
theorem uw_2 : ∀ w ∈ u_ws RX4 TX4 8, w ∈ zt := List.forall_mem_cons.mpr ⟨wd196, List.forall_mem_cons.mpr ⟨wd198, List.forall_mem_cons.mpr ⟨wd200, List.forall_mem_cons.mpr ⟨wd202, List.forall_mem_cons.mpr ⟨wd204, List.forall_mem_cons.mpr ⟨wd206, List.forall_mem_cons.mpr ⟨wd208, List.forall_mem_cons.mpr ⟨wd210, fun _ h => absurd h List.not_mem_nil⟩⟩⟩⟩⟩⟩⟩⟩
theorem cl_2 : classes[2]? = some (RX4, TX4, 8) := rfl
theorem cf_2 : CF 2 RX4 TX4 8 tyX4 := ⟨rfl, uw_2, tyX4_ok, nmX4, rfl, by decide⟩
theorem uw_3 : ∀ w ∈ u_ws RX5 TX5 1, w ∈ zt := List.forall_mem_cons.mpr ⟨wd147, fun _ h => absurd h List.not_mem_nil⟩
theorem cl_3 : classes[3]? = some (RX5, TX5, 1) := rfl
theorem cf_3 : CF 3 RX5 TX5 1 tyX5 := ⟨rfl, uw_3, tyX5_ok, nmX5, rfl, by decide⟩
theorem uw_4 : ∀ w ∈ u_ws RX6 TX6 2, w ∈ zt := List.forall_mem_cons.mpr ⟨wd94, List.forall_mem_cons.mpr ⟨wd96, fun _ h => absurd h List.not_mem_nil⟩⟩
theorem cl_4 : classes[4]? = some (RX6, TX6, 2) := rfl
theorem cf_4 : CF 4 RX6 TX6 2 tyX6 := ⟨rfl, uw_4, tyX6_ok, nmX6, rfl, by decide⟩
theorem uw_5 : ∀ w ∈ u_ws RX7 TX7 4, w ∈ zt := List.forall_mem_cons.mpr ⟨wd130, List.forall_mem_cons.mpr ⟨wd132, List.forall_mem_cons.mpr ⟨wd134, List.forall_mem_cons.mpr ⟨wd136, fun _ h => absurd h List.not_mem_nil⟩⟩⟩⟩
theorem cl_5 : classes[5]? = some (RX7, TX7, 4) := rfl
theorem cf_5 : CF 5 RX7 TX7 4 tyX7 := ⟨rfl, uw_5, tyX7_ok, nmX7, rfl, by decide⟩
theorem uw_6 : ∀ w ∈ u_ws RX8 TX8 6, w ∈ zt := List.forall_mem_cons.mpr ⟨wd77, List.forall_mem_cons.mpr ⟨wd79, List.forall_mem_cons.mpr ⟨wd81, List.forall_mem_cons.mpr ⟨wd83, List.forall_mem_cons.mpr ⟨wd85, List.forall_mem_cons.mpr ⟨wd87, fun _ h => absurd h List.not_mem_nil⟩⟩⟩⟩⟩⟩
theorem cl_6 : classes[6]? = some (RX8, TX8, 6) := rfl
theorem cf_6 : CF 6 RX8 TX8 6 tyX8 := ⟨rfl, uw_6, tyX8_ok, nmX8, rfl, by decide⟩
theorem uw_7 : ∀ w ∈ u_ws RX9 TX9 8, w ∈ zt := List.forall_mem_cons.mpr ⟨wd259, List.forall_mem_cons.mpr ⟨wd261, List.forall_mem_cons.mpr ⟨wd263, List.forall_mem_cons.mpr ⟨wd265, List.forall_mem_cons.mpr ⟨wd267, List.forall_mem_cons.mpr ⟨wd269, List.forall_mem_cons.mpr ⟨wd271, List.forall_mem_cons.mpr ⟨wd273, fun _ h => absurd h List.not_mem_nil⟩⟩⟩⟩⟩⟩⟩⟩
theorem cl_7 : classes[7]? = some (RX9, TX9, 8) := rfl
theorem cf_7 : CF 7 RX9 TX9 8 tyX9 := ⟨rfl, uw_7, tyX9_ok, nmX9, rfl, by decide⟩
theorem uw_8 : ∀ w ∈ u_ws RX10 TX10 28, w ∈ zt := List.forall_mem_cons.mpr ⟨wd695, List.forall_mem_cons.mpr ⟨wd697, List.forall_mem_cons.mpr ⟨wd699, List.forall_mem_cons.mpr ⟨wd701, List.forall_mem_cons.mpr ⟨wd703, List.forall_mem_cons.mpr ⟨wd705, List.forall_mem_cons.mpr ⟨wd707, List.forall_mem_cons.mpr ⟨wd709, List.forall_mem_cons.mpr ⟨wd711, List.forall_mem_cons.mpr ⟨wd713, List.forall_mem_cons.mpr ⟨wd715, List.forall_mem_cons.mpr ⟨wd717, List.forall_mem_cons.mpr ⟨wd719, List.forall_mem_cons.mpr ⟨wd721, List.forall_mem_cons.mpr ⟨wd723, List.forall_mem_cons.mpr ⟨wd725, List.forall_mem_cons.mpr ⟨wd727, List.forall_mem_cons.mpr ⟨wd729, List.forall_mem_cons.mpr ⟨wd731, List.forall_mem_cons.mpr ⟨wd733, List.forall_mem_cons.mpr ⟨wd735, List.forall_mem_cons.mpr ⟨wd737, List.forall_mem_cons.mpr ⟨wd739, List.forall_mem_cons.mpr ⟨wd741, List.forall_mem_cons.mpr ⟨wd743, List.forall_mem_cons.mpr ⟨wd745, List.forall_mem_cons.mpr ⟨wd747, List.forall_mem_cons.mpr ⟨wd749, fun _ h => absurd h List.not_mem_nil⟩⟩⟩⟩⟩⟩⟩⟩⟩⟩⟩⟩⟩⟩⟩⟩⟩⟩⟩⟩⟩⟩⟩⟩⟩⟩⟩⟩
theorem cl_8 : classes[8]? = some (RX10, TX10, 28) := rfl
theorem cf_8 : CF 8 RX10 TX10 28 tyX10 := ⟨rfl, uw_8, tyX10_ok, nmX10, rfl, by decide⟩
theorem sole_3 : ∀ k, k ≠ 0 → ¬ ft 3 k = 1 := by
  intro k hk h
  match k, hk, h with
  | k + 1, _, h => simp [ft, zft] at h
theorem sole_8 : ∀ k, k ≠ 12 → ¬ ft 8 k = 1 := by
  intro k hk h
  by_cases hlt : k < 28
  · have : ∀ j, j < 28 → j ≠ 12 → ¬ ft 8 j = 1 := by decide
    exact this k hlt hk h
  · unfold ft zft at h
    simp only [List.getD_cons_succ, List.getD_cons_zero] at h
    rw [List.getD_eq_getElem?_getD, List.getElem?_eq_none (by simp; omega)] at h
    simp at h
theorem z_room0 {x : Fx} {E : Ev} {rm : Room} {cc : ByteArray} {nL : Nat} {own : String} {ret : Option FieldType} (_ : ZS x E rm cc nL own ret) (M : ZM x E) (h1 : rm.cells = 0) (h2 : rm.slots = 0) : xk x ≤ rm.cells ∧ xj x ≤ rm.slots := ⟨by rw [M.2.1]; exact Nat.zero_le _, by rw [M.2.2]; exact Nat.zero_le _⟩
end
section
-- yJ6_bitCount_0f7a4
theorem dJ6_bitCount_0f7a4_0 : decode cJ6_bitCount_0f7a4 0 = .ok (.iload_n 0, 1) := by decide +kernel
theorem dJ6_bitCount_0f7a4_1 : decode cJ6_bitCount_0f7a4 1 = .ok (.iload_n 0, 1) := by decide +kernel
theorem dJ6_bitCount_0f7a4_2 : decode cJ6_bitCount_0f7a4 2 = .ok (.iconst 1, 1) := by decide +kernel
theorem dJ6_bitCount_0f7a4_3 : decode cJ6_bitCount_0f7a4 3 = .ok (.iushr, 1) := by decide +kernel
theorem dJ6_bitCount_0f7a4_4 : decode cJ6_bitCount_0f7a4 4 = .ok (.ldc_w 265, 3) := by decide +kernel
theorem dJ6_bitCount_0f7a4_7 : decode cJ6_bitCount_0f7a4 7 = .ok (.iand, 1) := by decide +kernel
theorem dJ6_bitCount_0f7a4_8 : decode cJ6_bitCount_0f7a4 8 = .ok (.isub, 1) := by decide +kernel
theorem dJ6_bitCount_0f7a4_9 : decode cJ6_bitCount_0f7a4 9 = .ok (.istore_n 0, 1) := by decide +kernel
theorem dJ6_bitCount_0f7a4_10 : decode cJ6_bitCount_0f7a4 10 = .ok (.iload_n 0, 1) := by decide +kernel
theorem dJ6_bitCount_0f7a4_11 : decode cJ6_bitCount_0f7a4 11 = .ok (.ldc_w 266, 3) := by decide +kernel
theorem dJ6_bitCount_0f7a4_14 : decode cJ6_bitCount_0f7a4 14 = .ok (.iand, 1) := by decide +kernel
theorem dJ6_bitCount_0f7a4_15 : decode cJ6_bitCount_0f7a4 15 = .ok (.iload_n 0, 1) := by decide +kernel
theorem dJ6_bitCount_0f7a4_16 : decode cJ6_bitCount_0f7a4 16 = .ok (.iconst 2, 1) := by decide +kernel
theorem dJ6_bitCount_0f7a4_17 : decode cJ6_bitCount_0f7a4 17 = .ok (.iushr, 1) := by decide +kernel
theorem dJ6_bitCount_0f7a4_18 : decode cJ6_bitCount_0f7a4 18 = .ok (.ldc_w 266, 3) := by decide +kernel
theorem dJ6_bitCount_0f7a4_21 : decode cJ6_bitCount_0f7a4 21 = .ok (.iand, 1) := by decide +kernel
theorem dJ6_bitCount_0f7a4_22 : decode cJ6_bitCount_0f7a4 22 = .ok (.iadd, 1) := by decide +kernel
theorem dJ6_bitCount_0f7a4_23 : decode cJ6_bitCount_0f7a4 23 = .ok (.istore_n 0, 1) := by decide +kernel
theorem dJ6_bitCount_0f7a4_24 : decode cJ6_bitCount_0f7a4 24 = .ok (.iload_n 0, 1) := by decide +kernel
theorem dJ6_bitCount_0f7a4_25 : decode cJ6_bitCount_0f7a4 25 = .ok (.iload_n 0, 1) := by decide +kernel
theorem dJ6_bitCount_0f7a4_26 : decode cJ6_bitCount_0f7a4 26 = .ok (.iconst 4, 1) := by decide +kernel
theorem dJ6_bitCount_0f7a4_27 : decode cJ6_bitCount_0f7a4 27 = .ok (.iushr, 1) := by decide +kernel
theorem dJ6_bitCount_0f7a4_28 : decode cJ6_bitCount_0f7a4 28 = .ok (.iadd, 1) := by decide +kernel
theorem dJ6_bitCount_0f7a4_29 : decode cJ6_bitCount_0f7a4 29 = .ok (.ldc_w 267, 3) := by decide +kernel
theorem dJ6_bitCount_0f7a4_32 : decode cJ6_bitCount_0f7a4 32 = .ok (.iand, 1) := by decide +kernel
theorem dJ6_bitCount_0f7a4_33 : decode cJ6_bitCount_0f7a4 33 = .ok (.istore_n 0, 1) := by decide +kernel
theorem dJ6_bitCount_0f7a4_34 : decode cJ6_bitCount_0f7a4 34 = .ok (.iload_n 0, 1) := by decide +kernel
theorem dJ6_bitCount_0f7a4_35 : decode cJ6_bitCount_0f7a4 35 = .ok (.iload_n 0, 1) := by decide +kernel
theorem dJ6_bitCount_0f7a4_36 : decode cJ6_bitCount_0f7a4 36 = .ok (.bipush 8, 2) := by decide +kernel
theorem dJ6_bitCount_0f7a4_38 : decode cJ6_bitCount_0f7a4 38 = .ok (.iushr, 1) := by decide +kernel
theorem dJ6_bitCount_0f7a4_39 : decode cJ6_bitCount_0f7a4 39 = .ok (.iadd, 1) := by decide +kernel
theorem dJ6_bitCount_0f7a4_40 : decode cJ6_bitCount_0f7a4 40 = .ok (.istore_n 0, 1) := by decide +kernel
theorem dJ6_bitCount_0f7a4_41 : decode cJ6_bitCount_0f7a4 41 = .ok (.iload_n 0, 1) := by decide +kernel
theorem dJ6_bitCount_0f7a4_42 : decode cJ6_bitCount_0f7a4 42 = .ok (.iload_n 0, 1) := by decide +kernel
theorem dJ6_bitCount_0f7a4_43 : decode cJ6_bitCount_0f7a4 43 = .ok (.bipush 16, 2) := by decide +kernel
theorem dJ6_bitCount_0f7a4_45 : decode cJ6_bitCount_0f7a4 45 = .ok (.iushr, 1) := by decide +kernel
theorem dJ6_bitCount_0f7a4_46 : decode cJ6_bitCount_0f7a4 46 = .ok (.iadd, 1) := by decide +kernel
theorem dJ6_bitCount_0f7a4_47 : decode cJ6_bitCount_0f7a4 47 = .ok (.istore_n 0, 1) := by decide +kernel
theorem dJ6_bitCount_0f7a4_48 : decode cJ6_bitCount_0f7a4 48 = .ok (.iload_n 0, 1) := by decide +kernel
theorem dJ6_bitCount_0f7a4_49 : decode cJ6_bitCount_0f7a4 49 = .ok (.bipush 63, 2) := by decide +kernel
theorem dJ6_bitCount_0f7a4_51 : decode cJ6_bitCount_0f7a4 51 = .ok (.iand, 1) := by decide +kernel
theorem dJ6_bitCount_0f7a4_52 : decode cJ6_bitCount_0f7a4 52 = .ok (.ireturn, 1) := by decide +kernel
def r_J6_bitCount_0f7a4 : Room := { frames := 0, cells := 0, slots := 0, locals := 0 }
def f_J6_bitCount_0f7a4 (P : PH) (x0 : Int32) : Option Int32 :=
  ((some (x0 - ((x0.toUInt32 >>> ((1 : Int32).toUInt32 &&& Int32.toUInt32 31)).toInt32 &&& (1431655765 : Int32)))).bind fun u1 => ((some ((u1 &&& (858993459 : Int32)) + ((u1.toUInt32 >>> ((2 : Int32).toUInt32 &&& Int32.toUInt32 31)).toInt32 &&& (858993459 : Int32)))).bind fun u2 => ((some ((u2 + (u2.toUInt32 >>> ((4 : Int32).toUInt32 &&& Int32.toUInt32 31)).toInt32) &&& (252645135 : Int32))).bind fun u3 => ((some (u3 + (u3.toUInt32 >>> ((8 : Int32).toUInt32 &&& Int32.toUInt32 31)).toInt32)).bind fun u4 => ((some (u4 + (u4.toUInt32 >>> ((16 : Int32).toUInt32 &&& Int32.toUInt32 31)).toInt32)).bind fun u5 => some (u5 &&& (63 : Int32)))))))
theorem w_J6_bitCount_0f7a4 {x : Fx} {E : Ev} (S : ZS x E r_J6_bitCount_0f7a4 cJ6_bitCount_0f7a4 1 RJ6 (some .int)) (M : ZM x E) (P : PH) (x0 : Int32)  (r : Int32) (hf : f_J6_bitCount_0f7a4 P x0 = some r) : Wz x E 1 (QI E x r P) P 0 [(0, .int x0)] [] := by
  unfold f_J6_bitCount_0f7a4 at hf
  refine z_iload_n S 0 dJ6_bitCount_0f7a4_0 rfl rfl ?_
  refine z_iload_n S 0 dJ6_bitCount_0f7a4_1 rfl rfl ?_
  refine z_iconst (v := 1) S dJ6_bitCount_0f7a4_2 (by decide) ?_
  refine z_iushr S dJ6_bitCount_0f7a4_3 ?_
  refine z_ldcw (v := (1431655765)) S wd457 dJ6_bitCount_0f7a4_4 ?_
  refine z_iand S dJ6_bitCount_0f7a4_7 ?_
  refine z_isub S dJ6_bitCount_0f7a4_8 ?_
  refine z_nm hf (fun u1 hf => ?_)
  refine z_istore_n (lv' := [(0, .int u1)]) S dJ6_bitCount_0f7a4_9 rfl (by decide) rfl ?_
  refine z_iload_n S 0 dJ6_bitCount_0f7a4_10 rfl rfl ?_
  refine z_ldcw (v := (858993459)) S wd458 dJ6_bitCount_0f7a4_11 ?_
  refine z_iand S dJ6_bitCount_0f7a4_14 ?_
  refine z_iload_n S 0 dJ6_bitCount_0f7a4_15 rfl rfl ?_
  refine z_iconst (v := 2) S dJ6_bitCount_0f7a4_16 (by decide) ?_
  refine z_iushr S dJ6_bitCount_0f7a4_17 ?_
  refine z_ldcw (v := (858993459)) S wd458 dJ6_bitCount_0f7a4_18 ?_
  refine z_iand S dJ6_bitCount_0f7a4_21 ?_
  refine z_iadd S dJ6_bitCount_0f7a4_22 ?_
  refine z_nm hf (fun u2 hf => ?_)
  refine z_istore_n (lv' := [(0, .int u2)]) S dJ6_bitCount_0f7a4_23 rfl (by decide) rfl ?_
  refine z_iload_n S 0 dJ6_bitCount_0f7a4_24 rfl rfl ?_
  refine z_iload_n S 0 dJ6_bitCount_0f7a4_25 rfl rfl ?_
  refine z_iconst (v := 4) S dJ6_bitCount_0f7a4_26 (by decide) ?_
  refine z_iushr S dJ6_bitCount_0f7a4_27 ?_
  refine z_iadd S dJ6_bitCount_0f7a4_28 ?_
  refine z_ldcw (v := (252645135)) S wd459 dJ6_bitCount_0f7a4_29 ?_
  refine z_iand S dJ6_bitCount_0f7a4_32 ?_
  refine z_nm hf (fun u3 hf => ?_)
  refine z_istore_n (lv' := [(0, .int u3)]) S dJ6_bitCount_0f7a4_33 rfl (by decide) rfl ?_
  refine z_iload_n S 0 dJ6_bitCount_0f7a4_34 rfl rfl ?_
  refine z_iload_n S 0 dJ6_bitCount_0f7a4_35 rfl rfl ?_
  refine z_bipush (v := 8) S dJ6_bitCount_0f7a4_36 (by decide) ?_
  refine z_iushr S dJ6_bitCount_0f7a4_38 ?_
  refine z_iadd S dJ6_bitCount_0f7a4_39 ?_
  refine z_nm hf (fun u4 hf => ?_)
  refine z_istore_n (lv' := [(0, .int u4)]) S dJ6_bitCount_0f7a4_40 rfl (by decide) rfl ?_
  refine z_iload_n S 0 dJ6_bitCount_0f7a4_41 rfl rfl ?_
  refine z_iload_n S 0 dJ6_bitCount_0f7a4_42 rfl rfl ?_
  refine z_bipush (v := 16) S dJ6_bitCount_0f7a4_43 (by decide) ?_
  refine z_iushr S dJ6_bitCount_0f7a4_45 ?_
  refine z_iadd S dJ6_bitCount_0f7a4_46 ?_
  refine z_nm hf (fun u5 hf => ?_)
  refine z_istore_n (lv' := [(0, .int u5)]) S dJ6_bitCount_0f7a4_47 rfl (by decide) rfl ?_
  refine z_iload_n S 0 dJ6_bitCount_0f7a4_48 rfl rfl ?_
  refine z_bipush (v := 63) S dJ6_bitCount_0f7a4_49 (by decide) ?_
  refine z_iand S dJ6_bitCount_0f7a4_51 ?_
  exact z_iretP (v := (u5 &&& (63 : Int32))) S M rfl dJ6_bitCount_0f7a4_52 hf
theorem m_J6_bitCount_0f7a4 (l : Launch) (E : Ev) (P : PH) (x0 : Int32)  (r : Int32) (hf : f_J6_bitCount_0f7a4 P x0 = some r) : CtI l E yJ6_bitCount_0f7a4 cJ6_bitCount_0f7a4 1 (some .int) r_J6_bitCount_0f7a4 [.int x0] P r P :=
  z_body (own := RJ6) (by decide +kernel) rfl (Nat.le_of_ble_eq_true rfl) rfl (fun x _ S M => w_J6_bitCount_0f7a4 S M P x0  r hf)
-- yX4_roomsByRight
theorem dX4_roomsByRight_0 : decode cX4_roomsByRight 0 = .ok (.iconst 0, 1) := by decide +kernel
theorem dX4_roomsByRight_1 : decode cX4_roomsByRight 1 = .ok (.istore_n 3, 1) := by decide +kernel
theorem dX4_roomsByRight_2 : decode cX4_roomsByRight 2 = .ok (.iconst 0, 1) := by decide +kernel
theorem dX4_roomsByRight_3 : decode cX4_roomsByRight 3 = .ok (.istore 4, 2) := by decide +kernel
theorem dX4_roomsByRight_5 : decode cX4_roomsByRight 5 = .ok (.iload 4, 2) := by decide +kernel
theorem dX4_roomsByRight_7 : decode cX4_roomsByRight 7 = .ok (.aload_n 0, 1) := by decide +kernel
theorem dX4_roomsByRight_8 : decode cX4_roomsByRight 8 = .ok (.getfield 34, 3) := by decide +kernel
theorem dX4_roomsByRight_11 : decode cX4_roomsByRight 11 = .ok (.if_icmp .ge 43, 3) := by decide +kernel
theorem dX4_roomsByRight_14 : decode cX4_roomsByRight 14 = .ok (.aload_n 0, 1) := by decide +kernel
theorem dX4_roomsByRight_15 : decode cX4_roomsByRight 15 = .ok (.getfield 18, 3) := by decide +kernel
theorem dX4_roomsByRight_18 : decode cX4_roomsByRight 18 = .ok (.iload 4, 2) := by decide +kernel
theorem dX4_roomsByRight_20 : decode cX4_roomsByRight 20 = .ok (.iaload, 1) := by decide +kernel
theorem dX4_roomsByRight_21 : decode cX4_roomsByRight 21 = .ok (.iload_n 1, 1) := by decide +kernel
theorem dX4_roomsByRight_22 : decode cX4_roomsByRight 22 = .ok (.if_icmp .ne 26, 3) := by decide +kernel
theorem dX4_roomsByRight_25 : decode cX4_roomsByRight 25 = .ok (.aload_n 0, 1) := by decide +kernel
theorem dX4_roomsByRight_26 : decode cX4_roomsByRight 26 = .ok (.getfield 24, 3) := by decide +kernel
theorem dX4_roomsByRight_29 : decode cX4_roomsByRight 29 = .ok (.iload 4, 2) := by decide +kernel
theorem dX4_roomsByRight_31 : decode cX4_roomsByRight 31 = .ok (.iaload, 1) := by decide +kernel
theorem dX4_roomsByRight_32 : decode cX4_roomsByRight 32 = .ok (.iload_n 2, 1) := by decide +kernel
theorem dX4_roomsByRight_33 : decode cX4_roomsByRight 33 = .ok (.if_icmp .lt 15, 3) := by decide +kernel
theorem dX4_roomsByRight_36 : decode cX4_roomsByRight 36 = .ok (.iload_n 3, 1) := by decide +kernel
theorem dX4_roomsByRight_37 : decode cX4_roomsByRight 37 = .ok (.iconst 1, 1) := by decide +kernel
theorem dX4_roomsByRight_38 : decode cX4_roomsByRight 38 = .ok (.aload_n 0, 1) := by decide +kernel
theorem dX4_roomsByRight_39 : decode cX4_roomsByRight 39 = .ok (.getfield 21, 3) := by decide +kernel
theorem dX4_roomsByRight_42 : decode cX4_roomsByRight 42 = .ok (.iload 4, 2) := by decide +kernel
theorem dX4_roomsByRight_44 : decode cX4_roomsByRight 44 = .ok (.iaload, 1) := by decide +kernel
theorem dX4_roomsByRight_45 : decode cX4_roomsByRight 45 = .ok (.ishl, 1) := by decide +kernel
theorem dX4_roomsByRight_46 : decode cX4_roomsByRight 46 = .ok (.ior, 1) := by decide +kernel
theorem dX4_roomsByRight_47 : decode cX4_roomsByRight 47 = .ok (.istore_n 3, 1) := by decide +kernel
theorem dX4_roomsByRight_48 : decode cX4_roomsByRight 48 = .ok (.iinc 4 1, 3) := by decide +kernel
theorem dX4_roomsByRight_51 : decode cX4_roomsByRight 51 = .ok (.goto (-46), 3) := by decide +kernel
theorem dX4_roomsByRight_54 : decode cX4_roomsByRight 54 = .ok (.iload_n 3, 1) := by decide +kernel
theorem dX4_roomsByRight_55 : decode cX4_roomsByRight 55 = .ok (.ireturn, 1) := by decide +kernel
def r_X4_roomsByRight : Room := { frames := 0, cells := 0, slots := 0, locals := 0 }
def f_X4_roomsByRight_L5 (K : Int32 → Option Int32) (P : PH) (x0 : Nat) (x1 : Int32) (x2 : Int32) : Nat → Int32 → Int32 → Option Int32
  | 0, _, _ => none
  | n + 1, x3, x4 =>
    (if (P.1 x0 2) ≤ x4 then K x3 else (if (x4 < 0 ∨ 10 ≤ x4.toNatClampNeg) then none else (if (P.1 (P.2.2 x0 5) x4.toNatClampNeg) = x1 then (if (x4 < 0 ∨ 10 ≤ x4.toNatClampNeg) then none else (if (P.1 (P.2.2 x0 7) x4.toNatClampNeg) < x2 then f_X4_roomsByRight_L5 K P x0 x1 x2 n x3 (x4 + (1 : Int32)) else (if (x4 < 0 ∨ 10 ≤ x4.toNatClampNeg) then none else ((some (x3 ||| ((1 : Int32) <<< ((P.1 (P.2.2 x0 6) x4.toNatClampNeg) &&& 31)))).bind fun u4 => f_X4_roomsByRight_L5 K P x0 x1 x2 n u4 (x4 + (1 : Int32)))))) else f_X4_roomsByRight_L5 K P x0 x1 x2 n x3 (x4 + (1 : Int32)))))
theorem w_X4_roomsByRight_L5 {x : Fx} {E : Ev} (S : ZS x E r_X4_roomsByRight cX4_roomsByRight 5 RX4 (some .int)) (M : ZM x E) {K : Int32 → Option Int32} (P : PH) (x0 : Nat) (x1 : Int32) (x2 : Int32) (h_x0 : ok x0 2 0) (r : Int32) (hK : ∀ (y3 : Int32), K y3 = some r → Wz x E 5 (QI E x r P) P 54 [(3, .int y3)] []) : ∀ (n : Nat) (x3 : Int32) (x4 : Int32), f_X4_roomsByRight_L5 K P x0 x1 x2 n x3 x4 = some r → Wz x E 5 (QI E x r P) P 5 [(0, .ref (ad E x0)), (1, .int x1), (2, .int x2), (3, .int x3), (4, .int x4)] [] := by
  intro n
  induction n with
  | zero => intro x3 x4 hf; cases hf
  | succ n ih =>
    intro x3 x4 hf
    unfold f_X4_roomsByRight_L5 at hf
    refine z_iload S 4 dX4_roomsByRight_5 rfl ?_
    refine z_aload_n S 0 dX4_roomsByRight_7 rfl rfl ?_
    refine z_getI S cf_2 h_x0 2 (by decide) rfl wd177 dX4_roomsByRight_8 ?_
    refine z_icmp_ge (tgt := 54) S dX4_roomsByRight_11 (by decide) hf (fun hf => ?_) (fun hf => ?_)
    · refine z_sub [3] rfl ?_
      exact hK x3 hf
    · refine z_aload_n S 0 dX4_roomsByRight_14 rfl rfl ?_
      refine z_getR (K' := 9) (n' := 10) S cf_2 h_x0 5 (by decide) rfl rfl rfl wd190 dX4_roomsByRight_15 (fun h1 => ?_)
      refine z_iload S 4 dX4_roomsByRight_18 rfl ?_
      refine z_iald S h1 dX4_roomsByRight_20 hf (fun hf => ?_)
      refine z_iload_n S 1 dX4_roomsByRight_21 rfl rfl ?_
      refine z_icmp_ne (tgt := 48) S dX4_roomsByRight_22 (by decide) hf (fun hf => ?_) (fun hf => ?_)
      · refine z_aload_n S 0 dX4_roomsByRight_25 rfl rfl ?_
        refine z_getR (K' := 9) (n' := 10) S cf_2 h_x0 7 (by decide) rfl rfl rfl wd194 dX4_roomsByRight_26 (fun h2 => ?_)
        refine z_iload S 4 dX4_roomsByRight_29 rfl ?_
        refine z_iald S h2 dX4_roomsByRight_31 hf (fun hf => ?_)
        refine z_iload_n S 2 dX4_roomsByRight_32 rfl rfl ?_
        refine z_icmp_lt (tgt := 48) S dX4_roomsByRight_33 (by decide) hf (fun hf => ?_) (fun hf => ?_)
        · refine z_iinc (v := (x4 + (1 : Int32))) (lv' := [(4, .int (x4 + (1 : Int32))), (0, .ref (ad E x0)), (1, .int x1), (2, .int x2), (3, .int x3)]) S 4 dX4_roomsByRight_48 rfl (by rfl) (by decide) rfl ?_
          refine z_goto (tgt := 5) S dX4_roomsByRight_51 (by decide) ?_
          refine z_sub [1, 2, 3, 4, 0] rfl ?_
          exact ih x3 (x4 + (1 : Int32)) hf
        · refine z_iload_n S 3 dX4_roomsByRight_36 rfl rfl ?_
          refine z_iconst (v := 1) S dX4_roomsByRight_37 (by decide) ?_
          refine z_aload_n S 0 dX4_roomsByRight_38 rfl rfl ?_
          refine z_getR (K' := 9) (n' := 10) S cf_2 h_x0 6 (by decide) rfl rfl rfl wd192 dX4_roomsByRight_39 (fun h3 => ?_)
          refine z_iload S 4 dX4_roomsByRight_42 rfl ?_
          refine z_iald S h3 dX4_roomsByRight_44 hf (fun hf => ?_)
          refine z_ishl S dX4_roomsByRight_45 ?_
          refine z_ior S dX4_roomsByRight_46 ?_
          refine z_nm hf (fun u4 hf => ?_)
          refine z_istore_n (lv' := [(3, .int u4), (0, .ref (ad E x0)), (1, .int x1), (2, .int x2), (4, .int x4)]) S dX4_roomsByRight_47 rfl (by decide) rfl ?_
          refine z_iinc (v := (x4 + (1 : Int32))) (lv' := [(4, .int (x4 + (1 : Int32))), (3, .int u4), (0, .ref (ad E x0)), (1, .int x1), (2, .int x2)]) S 4 dX4_roomsByRight_48 rfl (by rfl) (by decide) rfl ?_
          refine z_goto (tgt := 5) S dX4_roomsByRight_51 (by decide) ?_
          refine z_sub [2, 3, 4, 1, 0] rfl ?_
          exact ih u4 (x4 + (1 : Int32)) hf
      · refine z_iinc (v := (x4 + (1 : Int32))) (lv' := [(4, .int (x4 + (1 : Int32))), (0, .ref (ad E x0)), (1, .int x1), (2, .int x2), (3, .int x3)]) S 4 dX4_roomsByRight_48 rfl (by rfl) (by decide) rfl ?_
        refine z_goto (tgt := 5) S dX4_roomsByRight_51 (by decide) ?_
        refine z_sub [1, 2, 3, 4, 0] rfl ?_
        exact ih x3 (x4 + (1 : Int32)) hf
def f_X4_roomsByRight (P : PH) (x0 : Nat) (x1 : Int32) (x2 : Int32) : Option Int32 :=
  f_X4_roomsByRight_L5 (fun v5 => some v5) P x0 x1 x2 1000 (0 : Int32) (0 : Int32)
theorem w_X4_roomsByRight {x : Fx} {E : Ev} (S : ZS x E r_X4_roomsByRight cX4_roomsByRight 5 RX4 (some .int)) (M : ZM x E) (P : PH) (x0 : Nat) (x1 : Int32) (x2 : Int32) (h_x0 : ok x0 2 0) (r : Int32) (hf : f_X4_roomsByRight P x0 x1 x2 = some r) : Wz x E 5 (QI E x r P) P 0 [(0, .ref (ad E x0)), (1, .int x1), (2, .int x2)] [] := by
  unfold f_X4_roomsByRight at hf
  refine z_iconst (v := 0) S dX4_roomsByRight_0 (by decide) ?_
  refine z_istore_n (lv' := [(3, .int (0 : Int32)), (0, .ref (ad E x0)), (1, .int x1), (2, .int x2)]) S dX4_roomsByRight_1 rfl (by decide) rfl ?_
  refine z_iconst (v := 0) S dX4_roomsByRight_2 (by decide) ?_
  refine z_istore (lv' := [(4, .int (0 : Int32)), (3, .int (0 : Int32)), (0, .ref (ad E x0)), (1, .int x1), (2, .int x2)]) S dX4_roomsByRight_3 (by decide) rfl ?_
  refine z_sub [2, 3, 4, 1, 0] rfl ?_
  refine w_X4_roomsByRight_L5 S M _ x0 x1 x2 h_x0 r (fun v5 hf => ?_) 1000 (0 : Int32) (0 : Int32) hf
  refine z_iload_n S 0 dX4_roomsByRight_54 rfl rfl ?_
  exact z_iretP (v := v5) S M rfl dX4_roomsByRight_55 hf
theorem m_X4_roomsByRight (l : Launch) (E : Ev) (P : PH) (x0 : Nat) (x1 : Int32) (x2 : Int32) (h_x0 : ok x0 2 0) (r : Int32) (hf : f_X4_roomsByRight P x0 x1 x2 = some r) : CtI l E yX4_roomsByRight cX4_roomsByRight 5 (some .int) r_X4_roomsByRight [.ref (ad E x0), .int x1, .int x2] P r P :=
  z_body (own := RX4) (by decide +kernel) rfl (Nat.le_of_ble_eq_true rfl) rfl (fun x _ S M => w_X4_roomsByRight S M P x0 x1 x2 h_x0 r hf)
-- yX1_loseOldest
theorem dX1_loseOldest_0 : decode cX1_loseOldest 0 = .ok (.aload_n 0, 1) := by decide +kernel
theorem dX1_loseOldest_1 : decode cX1_loseOldest 1 = .ok (.bipush 9, 2) := by decide +kernel
theorem dX1_loseOldest_3 : decode cX1_loseOldest 3 = .ok (.putfield 21, 3) := by decide +kernel
theorem dX1_loseOldest_6 : decode cX1_loseOldest 6 = .ok (.aload_n 0, 1) := by decide +kernel
theorem dX1_loseOldest_7 : decode cX1_loseOldest 7 = .ok (.getfield 9, 3) := by decide +kernel
theorem dX1_loseOldest_10 : decode cX1_loseOldest 10 = .ok (.iconst 1, 1) := by decide +kernel
theorem dX1_loseOldest_11 : decode cX1_loseOldest 11 = .ok (.aload_n 0, 1) := by decide +kernel
theorem dX1_loseOldest_12 : decode cX1_loseOldest 12 = .ok (.getfield 9, 3) := by decide +kernel
theorem dX1_loseOldest_15 : decode cX1_loseOldest 15 = .ok (.iconst 0, 1) := by decide +kernel
theorem dX1_loseOldest_16 : decode cX1_loseOldest 16 = .ok (.aload_n 0, 1) := by decide +kernel
theorem dX1_loseOldest_17 : decode cX1_loseOldest 17 = .ok (.getfield 21, 3) := by decide +kernel
theorem dX1_loseOldest_20 : decode cX1_loseOldest 20 = .ok (.invokestatic 28, 3) := by decide +kernel
theorem dX1_loseOldest_23 : decode cX1_loseOldest 23 = .ok (.aload_n 0, 1) := by decide +kernel
theorem dX1_loseOldest_24 : decode cX1_loseOldest 24 = .ok (.getfield 15, 3) := by decide +kernel
theorem dX1_loseOldest_27 : decode cX1_loseOldest 27 = .ok (.iconst 1, 1) := by decide +kernel
theorem dX1_loseOldest_28 : decode cX1_loseOldest 28 = .ok (.aload_n 0, 1) := by decide +kernel
theorem dX1_loseOldest_29 : decode cX1_loseOldest 29 = .ok (.getfield 15, 3) := by decide +kernel
theorem dX1_loseOldest_32 : decode cX1_loseOldest 32 = .ok (.iconst 0, 1) := by decide +kernel
theorem dX1_loseOldest_33 : decode cX1_loseOldest 33 = .ok (.aload_n 0, 1) := by decide +kernel
theorem dX1_loseOldest_34 : decode cX1_loseOldest 34 = .ok (.getfield 21, 3) := by decide +kernel
theorem dX1_loseOldest_37 : decode cX1_loseOldest 37 = .ok (.invokestatic 28, 3) := by decide +kernel
theorem dX1_loseOldest_40 : decode cX1_loseOldest 40 = .ok (.aload_n 0, 1) := by decide +kernel
theorem dX1_loseOldest_41 : decode cX1_loseOldest 41 = .ok (.getfield 18, 3) := by decide +kernel
theorem dX1_loseOldest_44 : decode cX1_loseOldest 44 = .ok (.iconst 1, 1) := by decide +kernel
theorem dX1_loseOldest_45 : decode cX1_loseOldest 45 = .ok (.aload_n 0, 1) := by decide +kernel
theorem dX1_loseOldest_46 : decode cX1_loseOldest 46 = .ok (.getfield 18, 3) := by decide +kernel
theorem dX1_loseOldest_49 : decode cX1_loseOldest 49 = .ok (.iconst 0, 1) := by decide +kernel
theorem dX1_loseOldest_50 : decode cX1_loseOldest 50 = .ok (.aload_n 0, 1) := by decide +kernel
theorem dX1_loseOldest_51 : decode cX1_loseOldest 51 = .ok (.getfield 21, 3) := by decide +kernel
theorem dX1_loseOldest_54 : decode cX1_loseOldest 54 = .ok (.invokestatic 28, 3) := by decide +kernel
theorem dX1_loseOldest_57 : decode cX1_loseOldest 57 = .ok (.return_, 1) := by decide +kernel
def r_X1_loseOldest : Room := { frames := 1, cells := 0, slots := 0, locals := 26 }
def f_X1_loseOldest (P : PH) (x0 : Nat) : Option PH :=
  (if ((1 : Int32) < 0 ∨ (0 : Int32) < 0 ∨ ((sI P x0 0 (9 : Int32)).1 x0 0) < 0 ∨ 10 < (1 : Int32).toNatClampNeg + ((sI P x0 0 (9 : Int32)).1 x0 0).toNatClampNeg ∨ 10 < (0 : Int32).toNatClampNeg + ((sI P x0 0 (9 : Int32)).1 x0 0).toNatClampNeg) then none else ((some (sA (sI P x0 0 (9 : Int32)) ((sI P x0 0 (9 : Int32)).2.2 x0 1) (va_cpy ((sI P x0 0 (9 : Int32)).1 ((sI P x0 0 (9 : Int32)).2.2 x0 1)) ((sI P x0 0 (9 : Int32)).1 ((sI P x0 0 (9 : Int32)).2.2 x0 1)) (1 : Int32).toNatClampNeg (0 : Int32).toNatClampNeg ((sI P x0 0 (9 : Int32)).1 x0 0).toNatClampNeg))).bind fun P3 => (if ((1 : Int32) < 0 ∨ (0 : Int32) < 0 ∨ (P3.1 x0 0) < 0 ∨ 10 < (1 : Int32).toNatClampNeg + (P3.1 x0 0).toNatClampNeg ∨ 10 < (0 : Int32).toNatClampNeg + (P3.1 x0 0).toNatClampNeg) then none else ((some (sA P3 (P3.2.2 x0 2) (va_cpy (P3.1 (P3.2.2 x0 2)) (P3.1 (P3.2.2 x0 2)) (1 : Int32).toNatClampNeg (0 : Int32).toNatClampNeg (P3.1 x0 0).toNatClampNeg))).bind fun P6 => (if ((1 : Int32) < 0 ∨ (0 : Int32) < 0 ∨ (P6.1 x0 0) < 0 ∨ 10 < (1 : Int32).toNatClampNeg + (P6.1 x0 0).toNatClampNeg ∨ 10 < (0 : Int32).toNatClampNeg + (P6.1 x0 0).toNatClampNeg) then none else ((some (sA P6 (P6.2.2 x0 3) (va_cpy (P6.1 (P6.2.2 x0 3)) (P6.1 (P6.2.2 x0 3)) (1 : Int32).toNatClampNeg (0 : Int32).toNatClampNeg (P6.1 x0 0).toNatClampNeg))).bind fun P9 => some P9))))))
theorem w_X1_loseOldest {x : Fx} {E : Ev} (S : ZS x E r_X1_loseOldest cX1_loseOldest 1 RX1 none) (M : ZM x E) (P : PH) (x0 : Nat) (h_x0 : ok x0 0 0) (r : PH) (hf : f_X1_loseOldest P x0 = some r) : Wz x E 1 (QV E x r) P 0 [(0, .ref (ad E x0))] [] := by
  unfold f_X1_loseOldest at hf
  refine z_aload_n S 0 dX1_loseOldest_0 rfl rfl ?_
  refine z_bipush (v := 9) S dX1_loseOldest_1 (by decide) ?_
  refine z_putI S cf_0 h_x0 0 (by decide) rfl rfl rfl rfl wd105 dX1_loseOldest_3 ?_
  refine z_aload_n S 0 dX1_loseOldest_6 rfl rfl ?_
  refine z_getR (K' := 9) (n' := 10) S cf_0 h_x0 1 (by decide) rfl rfl rfl wd107 dX1_loseOldest_7 (fun h1 => ?_)
  refine z_iconst (v := 1) S dX1_loseOldest_10 (by decide) ?_
  refine z_aload_n S 0 dX1_loseOldest_11 rfl rfl ?_
  refine z_getR (K' := 9) (n' := 10) S cf_0 h_x0 1 (by decide) rfl rfl rfl wd107 dX1_loseOldest_12 (fun h2 => ?_)
  refine z_iconst (v := 0) S dX1_loseOldest_15 (by decide) ?_
  refine z_aload_n S 0 dX1_loseOldest_16 rfl rfl ?_
  refine z_getI S cf_0 h_x0 0 (by decide) rfl wd105 dX1_loseOldest_17 ?_
  refine z_copy S h1 h2 wd447 wd449 wd448 wd43 (by decide) (by decide) dX1_loseOldest_20 hf (fun hf => ?_)
  refine z_nmP hf (fun P3 hf => ?_)
  refine z_aload_n S 0 dX1_loseOldest_23 rfl rfl ?_
  refine z_getR (K' := 9) (n' := 10) S cf_0 h_x0 2 (by decide) rfl rfl rfl wd108 dX1_loseOldest_24 (fun h4 => ?_)
  refine z_iconst (v := 1) S dX1_loseOldest_27 (by decide) ?_
  refine z_aload_n S 0 dX1_loseOldest_28 rfl rfl ?_
  refine z_getR (K' := 9) (n' := 10) S cf_0 h_x0 2 (by decide) rfl rfl rfl wd108 dX1_loseOldest_29 (fun h5 => ?_)
  refine z_iconst (v := 0) S dX1_loseOldest_32 (by decide) ?_
  refine z_aload_n S 0 dX1_loseOldest_33 rfl rfl ?_
  refine z_getI S cf_0 h_x0 0 (by decide) rfl wd105 dX1_loseOldest_34 ?_
  refine z_copy S h4 h5 wd447 wd449 wd448 wd43 (by decide) (by decide) dX1_loseOldest_37 hf (fun hf => ?_)
  refine z_nmP hf (fun P6 hf => ?_)
  refine z_aload_n S 0 dX1_loseOldest_40 rfl rfl ?_
  refine z_getR (K' := 9) (n' := 10) S cf_0 h_x0 3 (by decide) rfl rfl rfl wd109 dX1_loseOldest_41 (fun h7 => ?_)
  refine z_iconst (v := 1) S dX1_loseOldest_44 (by decide) ?_
  refine z_aload_n S 0 dX1_loseOldest_45 rfl rfl ?_
  refine z_getR (K' := 9) (n' := 10) S cf_0 h_x0 3 (by decide) rfl rfl rfl wd109 dX1_loseOldest_46 (fun h8 => ?_)
  refine z_iconst (v := 0) S dX1_loseOldest_49 (by decide) ?_
  refine z_aload_n S 0 dX1_loseOldest_50 rfl rfl ?_
  refine z_getI S cf_0 h_x0 0 (by decide) rfl wd105 dX1_loseOldest_51 ?_
  refine z_copy S h7 h8 wd447 wd449 wd448 wd43 (by decide) (by decide) dX1_loseOldest_54 hf (fun hf => ?_)
  refine z_nmP hf (fun P9 hf => ?_)
  exact z_vretI S M rfl dX1_loseOldest_57 hf
theorem m_X1_loseOldest (l : Launch) (E : Ev) (P : PH) (x0 : Nat) (h_x0 : ok x0 0 0) (r : PH) (hf : f_X1_loseOldest P x0 = some r) : CtV l E yX1_loseOldest cX1_loseOldest 1 none r_X1_loseOldest [.ref (ad E x0)] P r :=
  z_body (own := RX1) (by decide +kernel) rfl (Nat.le_of_ble_eq_true rfl) rfl (fun x _ S M => w_X1_loseOldest S M P x0 h_x0 r hf)
-- yX1_add
theorem dX1_add_0 : decode cX1_add 0 = .ok (.aload_n 0, 1) := by decide +kernel
theorem dX1_add_1 : decode cX1_add 1 = .ok (.getfield 21, 3) := by decide +kernel
theorem dX1_add_4 : decode cX1_add 4 = .ok (.bipush 10, 2) := by decide +kernel
theorem dX1_add_6 : decode cX1_add 6 = .ok (.if_icmp .lt 7, 3) := by decide +kernel
theorem dX1_add_9 : decode cX1_add 9 = .ok (.aload_n 0, 1) := by decide +kernel
theorem dX1_add_10 : decode cX1_add 10 = .ok (.invokevirtual 25, 3) := by decide +kernel
theorem dX1_add_13 : decode cX1_add 13 = .ok (.aload_n 0, 1) := by decide +kernel
theorem dX1_add_14 : decode cX1_add 14 = .ok (.getfield 9, 3) := by decide +kernel
theorem dX1_add_17 : decode cX1_add 17 = .ok (.aload_n 0, 1) := by decide +kernel
theorem dX1_add_18 : decode cX1_add 18 = .ok (.getfield 21, 3) := by decide +kernel
theorem dX1_add_21 : decode cX1_add 21 = .ok (.iload_n 1, 1) := by decide +kernel
theorem dX1_add_22 : decode cX1_add 22 = .ok (.iastore, 1) := by decide +kernel
theorem dX1_add_23 : decode cX1_add 23 = .ok (.aload_n 0, 1) := by decide +kernel
theorem dX1_add_24 : decode cX1_add 24 = .ok (.getfield 15, 3) := by decide +kernel
theorem dX1_add_27 : decode cX1_add 27 = .ok (.aload_n 0, 1) := by decide +kernel
theorem dX1_add_28 : decode cX1_add 28 = .ok (.getfield 21, 3) := by decide +kernel
theorem dX1_add_31 : decode cX1_add 31 = .ok (.iload_n 2, 1) := by decide +kernel
theorem dX1_add_32 : decode cX1_add 32 = .ok (.iastore, 1) := by decide +kernel
theorem dX1_add_33 : decode cX1_add 33 = .ok (.aload_n 0, 1) := by decide +kernel
theorem dX1_add_34 : decode cX1_add 34 = .ok (.getfield 18, 3) := by decide +kernel
theorem dX1_add_37 : decode cX1_add 37 = .ok (.aload_n 0, 1) := by decide +kernel
theorem dX1_add_38 : decode cX1_add 38 = .ok (.getfield 21, 3) := by decide +kernel
theorem dX1_add_41 : decode cX1_add 41 = .ok (.iload_n 3, 1) := by decide +kernel
theorem dX1_add_42 : decode cX1_add 42 = .ok (.iastore, 1) := by decide +kernel
theorem dX1_add_43 : decode cX1_add 43 = .ok (.aload_n 0, 1) := by decide +kernel
theorem dX1_add_44 : decode cX1_add 44 = .ok (.dup, 1) := by decide +kernel
theorem dX1_add_45 : decode cX1_add 45 = .ok (.getfield 21, 3) := by decide +kernel
theorem dX1_add_48 : decode cX1_add 48 = .ok (.iconst 1, 1) := by decide +kernel
theorem dX1_add_49 : decode cX1_add 49 = .ok (.iadd, 1) := by decide +kernel
theorem dX1_add_50 : decode cX1_add 50 = .ok (.putfield 21, 3) := by decide +kernel
theorem dX1_add_53 : decode cX1_add 53 = .ok (.return_, 1) := by decide +kernel
def r_X1_add : Room := { frames := 2, cells := 0, slots := 0, locals := 46 }
def f_X1_add_J13 (P : PH) (x0 : Nat) (x1 : Int32) (x2 : Int32) (x3 : Int32) : Option PH :=
  (if ((P.1 x0 0) < 0 ∨ 10 ≤ (P.1 x0 0).toNatClampNeg) then none else ((some (sI P (P.2.2 x0 1) (P.1 x0 0).toNatClampNeg x1)).bind fun P2 => (if ((P2.1 x0 0) < 0 ∨ 10 ≤ (P2.1 x0 0).toNatClampNeg) then none else ((some (sI P2 (P2.2.2 x0 2) (P2.1 x0 0).toNatClampNeg x2)).bind fun P4 => (if ((P4.1 x0 0) < 0 ∨ 10 ≤ (P4.1 x0 0).toNatClampNeg) then none else ((some (sI P4 (P4.2.2 x0 3) (P4.1 x0 0).toNatClampNeg x3)).bind fun P6 => some (sI P6 x0 0 ((P6.1 x0 0) + (1 : Int32)))))))))
theorem w_X1_add_J13 {x : Fx} {E : Ev} (S : ZS x E r_X1_add cX1_add 4 RX1 none) (M : ZM x E) (P : PH) (x0 : Nat) (x1 : Int32) (x2 : Int32) (x3 : Int32) (h_x0 : ok x0 0 0) (r : PH) (hf : f_X1_add_J13 P x0 x1 x2 x3 = some r) : Wz x E 4 (QV E x r) P 13 [(0, .ref (ad E x0)), (1, .int x1), (2, .int x2), (3, .int x3)] [] := by
  unfold f_X1_add_J13 at hf
  refine z_aload_n S 0 dX1_add_13 rfl rfl ?_
  refine z_getR (K' := 9) (n' := 10) S cf_0 h_x0 1 (by decide) rfl rfl rfl wd107 dX1_add_14 (fun h1 => ?_)
  refine z_aload_n S 0 dX1_add_17 rfl rfl ?_
  refine z_getI S cf_0 h_x0 0 (by decide) rfl wd105 dX1_add_18 ?_
  refine z_iload_n S 1 dX1_add_21 rfl rfl ?_
  refine z_iast S h1 dX1_add_22 hf (fun hf => ?_)
  refine z_nmP hf (fun P2 hf => ?_)
  refine z_aload_n S 0 dX1_add_23 rfl rfl ?_
  refine z_getR (K' := 9) (n' := 10) S cf_0 h_x0 2 (by decide) rfl rfl rfl wd108 dX1_add_24 (fun h3 => ?_)
  refine z_aload_n S 0 dX1_add_27 rfl rfl ?_
  refine z_getI S cf_0 h_x0 0 (by decide) rfl wd105 dX1_add_28 ?_
  refine z_iload_n S 2 dX1_add_31 rfl rfl ?_
  refine z_iast S h3 dX1_add_32 hf (fun hf => ?_)
  refine z_nmP hf (fun P4 hf => ?_)
  refine z_aload_n S 0 dX1_add_33 rfl rfl ?_
  refine z_getR (K' := 9) (n' := 10) S cf_0 h_x0 3 (by decide) rfl rfl rfl wd109 dX1_add_34 (fun h5 => ?_)
  refine z_aload_n S 0 dX1_add_37 rfl rfl ?_
  refine z_getI S cf_0 h_x0 0 (by decide) rfl wd105 dX1_add_38 ?_
  refine z_iload_n S 3 dX1_add_41 rfl rfl ?_
  refine z_iast S h5 dX1_add_42 hf (fun hf => ?_)
  refine z_nmP hf (fun P6 hf => ?_)
  refine z_aload_n S 0 dX1_add_43 rfl rfl ?_
  refine z_dup S dX1_add_44 rfl ?_
  refine z_getI S cf_0 h_x0 0 (by decide) rfl wd105 dX1_add_45 ?_
  refine z_iconst (v := 1) S dX1_add_48 (by decide) ?_
  refine z_iadd S dX1_add_49 ?_
  refine z_putI S cf_0 h_x0 0 (by decide) rfl rfl rfl rfl wd105 dX1_add_50 ?_
  exact z_vretI S M rfl dX1_add_53 hf
def f_X1_add (P : PH) (x0 : Nat) (x1 : Int32) (x2 : Int32) (x3 : Int32) : Option PH :=
  (if (P.1 x0 0) < (10 : Int32) then f_X1_add_J13 P x0 x1 x2 x3 else ((f_X1_loseOldest P x0).bind fun q7 => f_X1_add_J13 q7 x0 x1 x2 x3))
theorem w_X1_add {x : Fx} {E : Ev} (S : ZS x E r_X1_add cX1_add 4 RX1 none) (M : ZM x E) (P : PH) (x0 : Nat) (x1 : Int32) (x2 : Int32) (x3 : Int32) (h_x0 : ok x0 0 0) (r : PH) (hf : f_X1_add P x0 x1 x2 x3 = some r) : Wz x E 4 (QV E x r) P 0 [(0, .ref (ad E x0)), (1, .int x1), (2, .int x2), (3, .int x3)] [] := by
  unfold f_X1_add at hf
  refine z_aload_n S 0 dX1_add_0 rfl rfl ?_
  refine z_getI S cf_0 h_x0 0 (by decide) rfl wd105 dX1_add_1 ?_
  refine z_bipush (v := 10) S dX1_add_4 (by decide) ?_
  refine z_icmp_lt (tgt := 13) S dX1_add_6 (by decide) hf (fun hf => ?_) (fun hf => ?_)
  · exact w_X1_add_J13 S M P x0 x1 x2 x3 h_x0 r hf
  · refine z_aload_n S 0 dX1_add_9 rfl rfl ?_
    refine z_callVV (rc := r_X1_loseOldest) [] S mo_X1_loseOldest wd445 wd5 wd443 h_x0 (by decide) cl_0 rfl rfl (by decide) (z_room0 S M (by rfl) (by rfl)) rfl (by decide) rfl dX1_add_10  (fun q => q) (fun q hq => m_X1_loseOldest (xl x) E _ _ h_x0 q hq) hf (fun q7 hf => ?_)
    exact w_X1_add_J13 S M q7 x0 x1 x2 x3 h_x0 r hf
theorem m_X1_add (l : Launch) (E : Ev) (P : PH) (x0 : Nat) (x1 : Int32) (x2 : Int32) (x3 : Int32) (h_x0 : ok x0 0 0) (r : PH) (hf : f_X1_add P x0 x1 x2 x3 = some r) : CtV l E yX1_add cX1_add 4 none r_X1_add [.ref (ad E x0), .int x1, .int x2, .int x3] P r :=
  z_body (own := RX1) (by decide +kernel) rfl (Nat.le_of_ble_eq_true rfl) rfl (fun x _ S M => w_X1_add S M P x0 x1 x2 x3 h_x0 r hf)
-- yX4_swap
theorem dX4_swap_0 : decode cX4_swap 0 = .ok (.aload_n 0, 1) := by decide +kernel
theorem dX4_swap_1 : decode cX4_swap 1 = .ok (.getfield 15, 3) := by decide +kernel
theorem dX4_swap_4 : decode cX4_swap 4 = .ok (.iload_n 1, 1) := by decide +kernel
theorem dX4_swap_5 : decode cX4_swap 5 = .ok (.iaload, 1) := by decide +kernel
theorem dX4_swap_6 : decode cX4_swap 6 = .ok (.istore_n 3, 1) := by decide +kernel
theorem dX4_swap_7 : decode cX4_swap 7 = .ok (.aload_n 0, 1) := by decide +kernel
theorem dX4_swap_8 : decode cX4_swap 8 = .ok (.getfield 15, 3) := by decide +kernel
theorem dX4_swap_11 : decode cX4_swap 11 = .ok (.iload_n 1, 1) := by decide +kernel
theorem dX4_swap_12 : decode cX4_swap 12 = .ok (.aload_n 0, 1) := by decide +kernel
theorem dX4_swap_13 : decode cX4_swap 13 = .ok (.getfield 15, 3) := by decide +kernel
theorem dX4_swap_16 : decode cX4_swap 16 = .ok (.iload_n 2, 1) := by decide +kernel
theorem dX4_swap_17 : decode cX4_swap 17 = .ok (.iaload, 1) := by decide +kernel
theorem dX4_swap_18 : decode cX4_swap 18 = .ok (.iastore, 1) := by decide +kernel
theorem dX4_swap_19 : decode cX4_swap 19 = .ok (.aload_n 0, 1) := by decide +kernel
theorem dX4_swap_20 : decode cX4_swap 20 = .ok (.getfield 15, 3) := by decide +kernel
theorem dX4_swap_23 : decode cX4_swap 23 = .ok (.iload_n 2, 1) := by decide +kernel
theorem dX4_swap_24 : decode cX4_swap 24 = .ok (.iload_n 3, 1) := by decide +kernel
theorem dX4_swap_25 : decode cX4_swap 25 = .ok (.iastore, 1) := by decide +kernel
theorem dX4_swap_26 : decode cX4_swap 26 = .ok (.return_, 1) := by decide +kernel
def r_X4_swap : Room := { frames := 0, cells := 0, slots := 0, locals := 0 }
def f_X4_swap (P : PH) (x0 : Nat) (x1 : Int32) (x2 : Int32) : Option PH :=
  (if (x1 < 0 ∨ 7 ≤ x1.toNatClampNeg) then none else (if (x2 < 0 ∨ 7 ≤ x2.toNatClampNeg) then none else (if (x1 < 0 ∨ 7 ≤ x1.toNatClampNeg) then none else ((some (sI P (P.2.2 x0 4) x1.toNatClampNeg (P.1 (P.2.2 x0 4) x2.toNatClampNeg))).bind fun P4 => (if (x2 < 0 ∨ 7 ≤ x2.toNatClampNeg) then none else ((some (sI P4 (P4.2.2 x0 4) x2.toNatClampNeg (P.1 (P.2.2 x0 4) x1.toNatClampNeg))).bind fun P6 => some P6))))))
theorem w_X4_swap {x : Fx} {E : Ev} (S : ZS x E r_X4_swap cX4_swap 4 RX4 none) (M : ZM x E) (P : PH) (x0 : Nat) (x1 : Int32) (x2 : Int32) (h_x0 : ok x0 2 0) (r : PH) (hf : f_X4_swap P x0 x1 x2 = some r) : Wz x E 4 (QV E x r) P 0 [(0, .ref (ad E x0)), (1, .int x1), (2, .int x2)] [] := by
  unfold f_X4_swap at hf
  refine z_aload_n S 0 dX4_swap_0 rfl rfl ?_
  refine z_getR (K' := 9) (n' := 7) S cf_2 h_x0 4 (by decide) rfl rfl rfl wd187 dX4_swap_1 (fun h1 => ?_)
  refine z_iload_n S 1 dX4_swap_4 rfl rfl ?_
  refine z_iald S h1 dX4_swap_5 hf (fun hf => ?_)
  refine z_istore_n (lv' := [(3, .int (P.1 (P.2.2 x0 4) x1.toNatClampNeg)), (0, .ref (ad E x0)), (1, .int x1), (2, .int x2)]) S dX4_swap_6 rfl (by decide) rfl ?_
  refine z_aload_n S 1 dX4_swap_7 rfl rfl ?_
  refine z_getR (K' := 9) (n' := 7) S cf_2 h_x0 4 (by decide) rfl rfl rfl wd187 dX4_swap_8 (fun h2 => ?_)
  refine z_iload_n S 2 dX4_swap_11 rfl rfl ?_
  refine z_aload_n S 1 dX4_swap_12 rfl rfl ?_
  refine z_getR (K' := 9) (n' := 7) S cf_2 h_x0 4 (by decide) rfl rfl rfl wd187 dX4_swap_13 (fun h3 => ?_)
  refine z_iload_n S 3 dX4_swap_16 rfl rfl ?_
  refine z_iald S h3 dX4_swap_17 hf (fun hf => ?_)
  refine z_iast S h2 dX4_swap_18 hf (fun hf => ?_)
  refine z_nmP hf (fun P4 hf => ?_)
  refine z_aload_n S 1 dX4_swap_19 rfl rfl ?_
  refine z_getR (K' := 9) (n' := 7) S cf_2 h_x0 4 (by decide) rfl rfl rfl wd187 dX4_swap_20 (fun h5 => ?_)
  refine z_iload_n S 3 dX4_swap_23 rfl rfl ?_
  refine z_iload_n S 0 dX4_swap_24 rfl rfl ?_
  refine z_iast S h5 dX4_swap_25 hf (fun hf => ?_)
  refine z_nmP hf (fun P6 hf => ?_)
  exact z_vretI S M rfl dX4_swap_26 hf
theorem m_X4_swap (l : Launch) (E : Ev) (P : PH) (x0 : Nat) (x1 : Int32) (x2 : Int32) (h_x0 : ok x0 2 0) (r : PH) (hf : f_X4_swap P x0 x1 x2 = some r) : CtV l E yX4_swap cX4_swap 4 none r_X4_swap [.ref (ad E x0), .int x1, .int x2] P r :=
  z_body (own := RX4) (by decide +kernel) rfl (Nat.le_of_ble_eq_true rfl) rfl (fun x _ S M => w_X4_swap S M P x0 x1 x2 h_x0 r hf)
-- yX1_takeBack
theorem dX1_takeBack_0 : decode cX1_takeBack 0 = .ok (.aload_n 0, 1) := by decide +kernel
theorem dX1_takeBack_1 : decode cX1_takeBack 1 = .ok (.getfield 21, 3) := by decide +kernel
theorem dX1_takeBack_4 : decode cX1_takeBack 4 = .ok (.ifCond .gt 4, 3) := by decide +kernel
theorem dX1_takeBack_7 : decode cX1_takeBack 7 = .ok (.return_, 1) := by decide +kernel
theorem dX1_takeBack_8 : decode cX1_takeBack 8 = .ok (.aload_n 0, 1) := by decide +kernel
theorem dX1_takeBack_9 : decode cX1_takeBack 9 = .ok (.dup, 1) := by decide +kernel
theorem dX1_takeBack_10 : decode cX1_takeBack 10 = .ok (.getfield 21, 3) := by decide +kernel
theorem dX1_takeBack_13 : decode cX1_takeBack 13 = .ok (.iconst 1, 1) := by decide +kernel
theorem dX1_takeBack_14 : decode cX1_takeBack 14 = .ok (.isub, 1) := by decide +kernel
theorem dX1_takeBack_15 : decode cX1_takeBack 15 = .ok (.putfield 21, 3) := by decide +kernel
theorem dX1_takeBack_18 : decode cX1_takeBack 18 = .ok (.aload_n 0, 1) := by decide +kernel
theorem dX1_takeBack_19 : decode cX1_takeBack 19 = .ok (.getfield 15, 3) := by decide +kernel
theorem dX1_takeBack_22 : decode cX1_takeBack 22 = .ok (.aload_n 0, 1) := by decide +kernel
theorem dX1_takeBack_23 : decode cX1_takeBack 23 = .ok (.getfield 21, 3) := by decide +kernel
theorem dX1_takeBack_26 : decode cX1_takeBack 26 = .ok (.iaload, 1) := by decide +kernel
theorem dX1_takeBack_27 : decode cX1_takeBack 27 = .ok (.istore_n 2, 1) := by decide +kernel
theorem dX1_takeBack_28 : decode cX1_takeBack 28 = .ok (.aload_n 0, 1) := by decide +kernel
theorem dX1_takeBack_29 : decode cX1_takeBack 29 = .ok (.getfield 18, 3) := by decide +kernel
theorem dX1_takeBack_32 : decode cX1_takeBack 32 = .ok (.aload_n 0, 1) := by decide +kernel
theorem dX1_takeBack_33 : decode cX1_takeBack 33 = .ok (.getfield 21, 3) := by decide +kernel
theorem dX1_takeBack_36 : decode cX1_takeBack 36 = .ok (.iaload, 1) := by decide +kernel
theorem dX1_takeBack_37 : decode cX1_takeBack 37 = .ok (.istore_n 3, 1) := by decide +kernel
theorem dX1_takeBack_38 : decode cX1_takeBack 38 = .ok (.aload_n 0, 1) := by decide +kernel
theorem dX1_takeBack_39 : decode cX1_takeBack 39 = .ok (.getfield 9, 3) := by decide +kernel
theorem dX1_takeBack_42 : decode cX1_takeBack 42 = .ok (.aload_n 0, 1) := by decide +kernel
theorem dX1_takeBack_43 : decode cX1_takeBack 43 = .ok (.getfield 21, 3) := by decide +kernel
theorem dX1_takeBack_46 : decode cX1_takeBack 46 = .ok (.iaload, 1) := by decide +kernel
theorem dX1_takeBack_47 : decode cX1_takeBack 47 = .ok (.tableswitch 93 0 4 #[33, 46, 61, 74, 83], 33) := by decide +kernel
theorem dX1_takeBack_80 : decode cX1_takeBack 80 = .ok (.aload_n 1, 1) := by decide +kernel
theorem dX1_takeBack_81 : decode cX1_takeBack 81 = .ok (.dup, 1) := by decide +kernel
theorem dX1_takeBack_82 : decode cX1_takeBack 82 = .ok (.getfield 34, 3) := by decide +kernel
theorem dX1_takeBack_85 : decode cX1_takeBack 85 = .ok (.iconst 1, 1) := by decide +kernel
theorem dX1_takeBack_86 : decode cX1_takeBack 86 = .ok (.isub, 1) := by decide +kernel
theorem dX1_takeBack_87 : decode cX1_takeBack 87 = .ok (.putfield 34, 3) := by decide +kernel
theorem dX1_takeBack_90 : decode cX1_takeBack 90 = .ok (.goto 50, 3) := by decide +kernel
theorem dX1_takeBack_93 : decode cX1_takeBack 93 = .ok (.aload_n 1, 1) := by decide +kernel
theorem dX1_takeBack_94 : decode cX1_takeBack 94 = .ok (.dup, 1) := by decide +kernel
theorem dX1_takeBack_95 : decode cX1_takeBack 95 = .ok (.getfield 39, 3) := by decide +kernel
theorem dX1_takeBack_98 : decode cX1_takeBack 98 = .ok (.iconst 1, 1) := by decide +kernel
theorem dX1_takeBack_99 : decode cX1_takeBack 99 = .ok (.iload_n 2, 1) := by decide +kernel
theorem dX1_takeBack_100 : decode cX1_takeBack 100 = .ok (.ishl, 1) := by decide +kernel
theorem dX1_takeBack_101 : decode cX1_takeBack 101 = .ok (.ior, 1) := by decide +kernel
theorem dX1_takeBack_102 : decode cX1_takeBack 102 = .ok (.putfield 39, 3) := by decide +kernel
theorem dX1_takeBack_105 : decode cX1_takeBack 105 = .ok (.goto 35, 3) := by decide +kernel
theorem dX1_takeBack_108 : decode cX1_takeBack 108 = .ok (.aload_n 1, 1) := by decide +kernel
theorem dX1_takeBack_109 : decode cX1_takeBack 109 = .ok (.dup, 1) := by decide +kernel
theorem dX1_takeBack_110 : decode cX1_takeBack 110 = .ok (.getfield 42, 3) := by decide +kernel
theorem dX1_takeBack_113 : decode cX1_takeBack 113 = .ok (.iconst 1, 1) := by decide +kernel
theorem dX1_takeBack_114 : decode cX1_takeBack 114 = .ok (.isub, 1) := by decide +kernel
theorem dX1_takeBack_115 : decode cX1_takeBack 115 = .ok (.putfield 42, 3) := by decide +kernel
theorem dX1_takeBack_118 : decode cX1_takeBack 118 = .ok (.goto 22, 3) := by decide +kernel
theorem dX1_takeBack_121 : decode cX1_takeBack 121 = .ok (.aload_n 1, 1) := by decide +kernel
theorem dX1_takeBack_122 : decode cX1_takeBack 122 = .ok (.iload_n 2, 1) := by decide +kernel
theorem dX1_takeBack_123 : decode cX1_takeBack 123 = .ok (.iload_n 3, 1) := by decide +kernel
theorem dX1_takeBack_124 : decode cX1_takeBack 124 = .ok (.invokevirtual 45, 3) := by decide +kernel
theorem dX1_takeBack_127 : decode cX1_takeBack 127 = .ok (.goto 13, 3) := by decide +kernel
theorem dX1_takeBack_130 : decode cX1_takeBack 130 = .ok (.aload_n 1, 1) := by decide +kernel
theorem dX1_takeBack_131 : decode cX1_takeBack 131 = .ok (.getfield 49, 3) := by decide +kernel
theorem dX1_takeBack_134 : decode cX1_takeBack 134 = .ok (.iload_n 2, 1) := by decide +kernel
theorem dX1_takeBack_135 : decode cX1_takeBack 135 = .ok (.iload_n 3, 1) := by decide +kernel
theorem dX1_takeBack_136 : decode cX1_takeBack 136 = .ok (.iastore, 1) := by decide +kernel
theorem dX1_takeBack_137 : decode cX1_takeBack 137 = .ok (.goto 3, 3) := by decide +kernel
theorem dX1_takeBack_140 : decode cX1_takeBack 140 = .ok (.return_, 1) := by decide +kernel
def r_X1_takeBack : Room := { frames := 1, cells := 0, slots := 0, locals := 23 }
def f_X1_takeBack (P : PH) (x0 : Nat) (x1 : Nat) : Option PH :=
  (if 0 < (P.1 x0 0) then (if (((sI P x0 0 ((P.1 x0 0) - (1 : Int32))).1 x0 0) < 0 ∨ 10 ≤ ((sI P x0 0 ((P.1 x0 0) - (1 : Int32))).1 x0 0).toNatClampNeg) then none else ((some ((sI P x0 0 ((P.1 x0 0) - (1 : Int32))).1 ((sI P x0 0 ((P.1 x0 0) - (1 : Int32))).2.2 x0 2) ((sI P x0 0 ((P.1 x0 0) - (1 : Int32))).1 x0 0).toNatClampNeg)).bind fun u2 => (if (((sI P x0 0 ((P.1 x0 0) - (1 : Int32))).1 x0 0) < 0 ∨ 10 ≤ ((sI P x0 0 ((P.1 x0 0) - (1 : Int32))).1 x0 0).toNatClampNeg) then none else ((some ((sI P x0 0 ((P.1 x0 0) - (1 : Int32))).1 ((sI P x0 0 ((P.1 x0 0) - (1 : Int32))).2.2 x0 3) ((sI P x0 0 ((P.1 x0 0) - (1 : Int32))).1 x0 0).toNatClampNeg)).bind fun u4 => (if (((sI P x0 0 ((P.1 x0 0) - (1 : Int32))).1 x0 0) < 0 ∨ 10 ≤ ((sI P x0 0 ((P.1 x0 0) - (1 : Int32))).1 x0 0).toNatClampNeg) then none else (if ((sI P x0 0 ((P.1 x0 0) - (1 : Int32))).1 ((sI P x0 0 ((P.1 x0 0) - (1 : Int32))).2.2 x0 1) ((sI P x0 0 ((P.1 x0 0) - (1 : Int32))).1 x0 0).toNatClampNeg) = (0 : Int32) then ((some (sI (sI P x0 0 ((P.1 x0 0) - (1 : Int32))) x1 0 (((sI P x0 0 ((P.1 x0 0) - (1 : Int32))).1 x1 0) - (1 : Int32)))).bind fun P7 => some P7) else (if ((sI P x0 0 ((P.1 x0 0) - (1 : Int32))).1 ((sI P x0 0 ((P.1 x0 0) - (1 : Int32))).2.2 x0 1) ((sI P x0 0 ((P.1 x0 0) - (1 : Int32))).1 x0 0).toNatClampNeg) = (1 : Int32) then ((some (sI (sI P x0 0 ((P.1 x0 0) - (1 : Int32))) x1 1 (((sI P x0 0 ((P.1 x0 0) - (1 : Int32))).1 x1 1) ||| ((1 : Int32) <<< (u2 &&& 31))))).bind fun P9 => some P9) else (if ((sI P x0 0 ((P.1 x0 0) - (1 : Int32))).1 ((sI P x0 0 ((P.1 x0 0) - (1 : Int32))).2.2 x0 1) ((sI P x0 0 ((P.1 x0 0) - (1 : Int32))).1 x0 0).toNatClampNeg) = (2 : Int32) then ((some (sI (sI P x0 0 ((P.1 x0 0) - (1 : Int32))) x1 2 (((sI P x0 0 ((P.1 x0 0) - (1 : Int32))).1 x1 2) - (1 : Int32)))).bind fun P11 => some P11) else (if ((sI P x0 0 ((P.1 x0 0) - (1 : Int32))).1 ((sI P x0 0 ((P.1 x0 0) - (1 : Int32))).2.2 x0 1) ((sI P x0 0 ((P.1 x0 0) - (1 : Int32))).1 x0 0).toNatClampNeg) = (3 : Int32) then ((f_X4_swap (sI P x0 0 ((P.1 x0 0) - (1 : Int32))) x1 u2 u4).bind fun q13 => some q13) else (if ((sI P x0 0 ((P.1 x0 0) - (1 : Int32))).1 ((sI P x0 0 ((P.1 x0 0) - (1 : Int32))).2.2 x0 1) ((sI P x0 0 ((P.1 x0 0) - (1 : Int32))).1 x0 0).toNatClampNeg) = (4 : Int32) then (if (u2 < 0 ∨ 6 ≤ u2.toNatClampNeg) then none else ((some (sI (sI P x0 0 ((P.1 x0 0) - (1 : Int32))) ((sI P x0 0 ((P.1 x0 0) - (1 : Int32))).2.2 x1 3) u2.toNatClampNeg u4)).bind fun P16 => some P16)) else some (sI P x0 0 ((P.1 x0 0) - (1 : Int32))))))))))))) else some P)
theorem w_X1_takeBack {x : Fx} {E : Ev} (S : ZS x E r_X1_takeBack cX1_takeBack 4 RX1 none) (M : ZM x E) (P : PH) (x0 : Nat) (x1 : Nat) (h_x0 : ok x0 0 0) (h_x1 : ok x1 2 0) (r : PH) (hf : f_X1_takeBack P x0 x1 = some r) : Wz x E 4 (QV E x r) P 0 [(0, .ref (ad E x0)), (1, .ref (ad E x1))] [] := by
  unfold f_X1_takeBack at hf
  refine z_aload_n S 0 dX1_takeBack_0 rfl rfl ?_
  refine z_getI S cf_0 h_x0 0 (by decide) rfl wd105 dX1_takeBack_1 ?_
  refine z_if_gt (tgt := 8) S dX1_takeBack_4 (by decide) hf (fun hf => ?_) (fun hf => ?_)
  · refine z_aload_n S 0 dX1_takeBack_8 rfl rfl ?_
    refine z_dup S dX1_takeBack_9 rfl ?_
    refine z_getI S cf_0 h_x0 0 (by decide) rfl wd105 dX1_takeBack_10 ?_
    refine z_iconst (v := 1) S dX1_takeBack_13 (by decide) ?_
    refine z_isub S dX1_takeBack_14 ?_
    refine z_putI S cf_0 h_x0 0 (by decide) rfl rfl rfl rfl wd105 dX1_takeBack_15 ?_
    refine z_aload_n S 0 dX1_takeBack_18 rfl rfl ?_
    refine z_getR (K' := 9) (n' := 10) S cf_0 h_x0 2 (by decide) rfl rfl rfl wd108 dX1_takeBack_19 (fun h1 => ?_)
    refine z_aload_n S 0 dX1_takeBack_22 rfl rfl ?_
    refine z_getI S cf_0 h_x0 0 (by decide) rfl wd105 dX1_takeBack_23 ?_
    refine z_iald S h1 dX1_takeBack_26 hf (fun hf => ?_)
    refine z_nm hf (fun u2 hf => ?_)
    refine z_istore_n (lv' := [(2, .int u2), (0, .ref (ad E x0)), (1, .ref (ad E x1))]) S dX1_takeBack_27 rfl (by decide) rfl ?_
    refine z_aload_n S 1 dX1_takeBack_28 rfl rfl ?_
    refine z_getR (K' := 9) (n' := 10) S cf_0 h_x0 3 (by decide) rfl rfl rfl wd109 dX1_takeBack_29 (fun h3 => ?_)
    refine z_aload_n S 1 dX1_takeBack_32 rfl rfl ?_
    refine z_getI S cf_0 h_x0 0 (by decide) rfl wd105 dX1_takeBack_33 ?_
    refine z_iald S h3 dX1_takeBack_36 hf (fun hf => ?_)
    refine z_nm hf (fun u4 hf => ?_)
    refine z_istore_n (lv' := [(3, .int u4), (2, .int u2), (0, .ref (ad E x0)), (1, .ref (ad E x1))]) S dX1_takeBack_37 rfl (by decide) rfl ?_
    refine z_aload_n S 2 dX1_takeBack_38 rfl rfl ?_
    refine z_getR (K' := 9) (n' := 10) S cf_0 h_x0 1 (by decide) rfl rfl rfl wd107 dX1_takeBack_39 (fun h5 => ?_)
    refine z_aload_n S 2 dX1_takeBack_42 rfl rfl ?_
    refine z_getI S cf_0 h_x0 0 (by decide) rfl wd105 dX1_takeBack_43 ?_
    refine z_iald S h5 dX1_takeBack_46 hf (fun hf => ?_)
    refine z_tif hf (fun h6 hf => ?_) (fun h6 hf => ?_)
    · refine z_tabIn (tgt := 80) S 0 dX1_takeBack_47 (by rw [h6]; rfl) (by decide) rfl (by decide) ?_
      refine z_aload_n S 3 dX1_takeBack_80 rfl rfl ?_
      refine z_dup S dX1_takeBack_81 rfl ?_
      refine z_getI S cf_2 h_x1 0 (by decide) rfl wd168 dX1_takeBack_82 ?_
      refine z_iconst (v := 1) S dX1_takeBack_85 (by decide) ?_
      refine z_isub S dX1_takeBack_86 ?_
      refine z_putI S cf_2 h_x1 0 (by decide) rfl rfl rfl rfl wd168 dX1_takeBack_87 ?_
      refine z_nmP hf (fun P7 hf => ?_)
      refine z_goto (tgt := 140) S dX1_takeBack_90 (by decide) ?_
      exact z_vretI S M rfl dX1_takeBack_140 hf
    refine z_tif hf (fun h8 hf => ?_) (fun h8 hf => ?_)
    · refine z_tabIn (tgt := 93) S 1 dX1_takeBack_47 (by rw [h8]; rfl) (by decide) rfl (by decide) ?_
      refine z_aload_n S 3 dX1_takeBack_93 rfl rfl ?_
      refine z_dup S dX1_takeBack_94 rfl ?_
      refine z_getI S cf_2 h_x1 1 (by decide) rfl wd175 dX1_takeBack_95 ?_
      refine z_iconst (v := 1) S dX1_takeBack_98 (by decide) ?_
      refine z_iload_n S 1 dX1_takeBack_99 rfl rfl ?_
      refine z_ishl S dX1_takeBack_100 ?_
      refine z_ior S dX1_takeBack_101 ?_
      refine z_putI S cf_2 h_x1 1 (by decide) rfl rfl rfl rfl wd175 dX1_takeBack_102 ?_
      refine z_nmP hf (fun P9 hf => ?_)
      refine z_goto (tgt := 140) S dX1_takeBack_105 (by decide) ?_
      exact z_vretI S M rfl dX1_takeBack_140 hf
    refine z_tif hf (fun h10 hf => ?_) (fun h10 hf => ?_)
    · refine z_tabIn (tgt := 108) S 2 dX1_takeBack_47 (by rw [h10]; rfl) (by decide) rfl (by decide) ?_
      refine z_aload_n S 3 dX1_takeBack_108 rfl rfl ?_
      refine z_dup S dX1_takeBack_109 rfl ?_
      refine z_getI S cf_2 h_x1 2 (by decide) rfl wd180 dX1_takeBack_110 ?_
      refine z_iconst (v := 1) S dX1_takeBack_113 (by decide) ?_
      refine z_isub S dX1_takeBack_114 ?_
      refine z_putI S cf_2 h_x1 2 (by decide) rfl rfl rfl rfl wd180 dX1_takeBack_115 ?_
      refine z_nmP hf (fun P11 hf => ?_)
      refine z_goto (tgt := 140) S dX1_takeBack_118 (by decide) ?_
      exact z_vretI S M rfl dX1_takeBack_140 hf
    refine z_tif hf (fun h12 hf => ?_) (fun h12 hf => ?_)
    · refine z_tabIn (tgt := 121) S 3 dX1_takeBack_47 (by rw [h12]; rfl) (by decide) rfl (by decide) ?_
      refine z_aload_n S 3 dX1_takeBack_121 rfl rfl ?_
      refine z_iload_n S 1 dX1_takeBack_122 rfl rfl ?_
      refine z_iload_n S 0 dX1_takeBack_123 rfl rfl ?_
      refine z_callVV (rc := r_X4_swap) [.int u2, .int u4] S mo_X4_swap wd470 wd471 wd486 h_x1 (by decide) cl_2 rfl rfl (by decide) (z_room0 S M (by rfl) (by rfl)) rfl (by decide) rfl dX1_takeBack_124  (fun q => q) (fun q hq => m_X4_swap (xl x) E _ _ _ _ h_x1 q hq) hf (fun q13 hf => ?_)
      refine z_goto (tgt := 140) S dX1_takeBack_127 (by decide) ?_
      exact z_vretI S M rfl dX1_takeBack_140 hf
    refine z_tif hf (fun h14 hf => ?_) (fun h14 hf => ?_)
    · refine z_tabIn (tgt := 130) S 4 dX1_takeBack_47 (by rw [h14]; rfl) (by decide) rfl (by decide) ?_
      refine z_aload_n S 3 dX1_takeBack_130 rfl rfl ?_
      refine z_getR (K' := 9) (n' := 6) S cf_2 h_x1 3 (by decide) rfl rfl rfl wd185 dX1_takeBack_131 (fun h15 => ?_)
      refine z_iload_n S 1 dX1_takeBack_134 rfl rfl ?_
      refine z_iload_n S 0 dX1_takeBack_135 rfl rfl ?_
      refine z_iast S h15 dX1_takeBack_136 hf (fun hf => ?_)
      refine z_nmP hf (fun P16 hf => ?_)
      refine z_goto (tgt := 140) S dX1_takeBack_137 (by decide) ?_
      exact z_vretI S M rfl dX1_takeBack_140 hf
    refine z_tabOut (tgt := 140) S dX1_takeBack_47 (by have e0 := lv_neT h6 (a := 0) rfl; have e1 := lv_neT h8 (a := 1) rfl; have e2 := lv_neT h10 (a := 2) rfl; have e3 := lv_neT h12 (a := 3) rfl; have e4 := lv_neT h14 (a := 4) rfl; omega) (by decide) ?_
    exact z_vretI S M rfl dX1_takeBack_140 hf
  · exact z_vretI S M rfl dX1_takeBack_7 hf
theorem m_X1_takeBack (l : Launch) (E : Ev) (P : PH) (x0 : Nat) (x1 : Nat) (h_x0 : ok x0 0 0) (h_x1 : ok x1 2 0) (r : PH) (hf : f_X1_takeBack P x0 x1 = some r) : CtV l E yX1_takeBack cX1_takeBack 4 none r_X1_takeBack [.ref (ad E x0), .ref (ad E x1)] P r :=
  z_body (own := RX1) (by decide +kernel) rfl (Nat.le_of_ble_eq_true rfl) rfl (fun x _ S M => w_X1_takeBack S M P x0 x1 h_x0 h_x1 r hf)
-- yX4_copy
theorem dX4_copy_0 : decode cX4_copy 0 = .ok (.aload_n 0, 1) := by decide +kernel
theorem dX4_copy_1 : decode cX4_copy 1 = .ok (.aload_n 1, 1) := by decide +kernel
theorem dX4_copy_2 : decode cX4_copy 2 = .ok (.getfield 27, 3) := by decide +kernel
theorem dX4_copy_5 : decode cX4_copy 5 = .ok (.putfield 27, 3) := by decide +kernel
theorem dX4_copy_8 : decode cX4_copy 8 = .ok (.aload_n 0, 1) := by decide +kernel
theorem dX4_copy_9 : decode cX4_copy 9 = .ok (.aload_n 1, 1) := by decide +kernel
theorem dX4_copy_10 : decode cX4_copy 10 = .ok (.getfield 31, 3) := by decide +kernel
theorem dX4_copy_13 : decode cX4_copy 13 = .ok (.putfield 31, 3) := by decide +kernel
theorem dX4_copy_16 : decode cX4_copy 16 = .ok (.aload_n 0, 1) := by decide +kernel
theorem dX4_copy_17 : decode cX4_copy 17 = .ok (.aload_n 1, 1) := by decide +kernel
theorem dX4_copy_18 : decode cX4_copy 18 = .ok (.getfield 34, 3) := by decide +kernel
theorem dX4_copy_21 : decode cX4_copy 21 = .ok (.putfield 34, 3) := by decide +kernel
theorem dX4_copy_24 : decode cX4_copy 24 = .ok (.aload_n 1, 1) := by decide +kernel
theorem dX4_copy_25 : decode cX4_copy 25 = .ok (.getfield 9, 3) := by decide +kernel
theorem dX4_copy_28 : decode cX4_copy 28 = .ok (.iconst 0, 1) := by decide +kernel
theorem dX4_copy_29 : decode cX4_copy 29 = .ok (.aload_n 0, 1) := by decide +kernel
theorem dX4_copy_30 : decode cX4_copy 30 = .ok (.getfield 9, 3) := by decide +kernel
theorem dX4_copy_33 : decode cX4_copy 33 = .ok (.iconst 0, 1) := by decide +kernel
theorem dX4_copy_34 : decode cX4_copy 34 = .ok (.bipush 6, 2) := by decide +kernel
theorem dX4_copy_36 : decode cX4_copy 36 = .ok (.invokestatic 37, 3) := by decide +kernel
theorem dX4_copy_39 : decode cX4_copy 39 = .ok (.aload_n 1, 1) := by decide +kernel
theorem dX4_copy_40 : decode cX4_copy 40 = .ok (.getfield 15, 3) := by decide +kernel
theorem dX4_copy_43 : decode cX4_copy 43 = .ok (.iconst 0, 1) := by decide +kernel
theorem dX4_copy_44 : decode cX4_copy 44 = .ok (.aload_n 0, 1) := by decide +kernel
theorem dX4_copy_45 : decode cX4_copy 45 = .ok (.getfield 15, 3) := by decide +kernel
theorem dX4_copy_48 : decode cX4_copy 48 = .ok (.iconst 0, 1) := by decide +kernel
theorem dX4_copy_49 : decode cX4_copy 49 = .ok (.bipush 7, 2) := by decide +kernel
theorem dX4_copy_51 : decode cX4_copy 51 = .ok (.invokestatic 37, 3) := by decide +kernel
theorem dX4_copy_54 : decode cX4_copy 54 = .ok (.aload_n 1, 1) := by decide +kernel
theorem dX4_copy_55 : decode cX4_copy 55 = .ok (.getfield 18, 3) := by decide +kernel
theorem dX4_copy_58 : decode cX4_copy 58 = .ok (.iconst 0, 1) := by decide +kernel
theorem dX4_copy_59 : decode cX4_copy 59 = .ok (.aload_n 0, 1) := by decide +kernel
theorem dX4_copy_60 : decode cX4_copy 60 = .ok (.getfield 18, 3) := by decide +kernel
theorem dX4_copy_63 : decode cX4_copy 63 = .ok (.iconst 0, 1) := by decide +kernel
theorem dX4_copy_64 : decode cX4_copy 64 = .ok (.bipush 10, 2) := by decide +kernel
theorem dX4_copy_66 : decode cX4_copy 66 = .ok (.invokestatic 37, 3) := by decide +kernel
theorem dX4_copy_69 : decode cX4_copy 69 = .ok (.aload_n 1, 1) := by decide +kernel
theorem dX4_copy_70 : decode cX4_copy 70 = .ok (.getfield 21, 3) := by decide +kernel
theorem dX4_copy_73 : decode cX4_copy 73 = .ok (.iconst 0, 1) := by decide +kernel
theorem dX4_copy_74 : decode cX4_copy 74 = .ok (.aload_n 0, 1) := by decide +kernel
theorem dX4_copy_75 : decode cX4_copy 75 = .ok (.getfield 21, 3) := by decide +kernel
theorem dX4_copy_78 : decode cX4_copy 78 = .ok (.iconst 0, 1) := by decide +kernel
theorem dX4_copy_79 : decode cX4_copy 79 = .ok (.bipush 10, 2) := by decide +kernel
theorem dX4_copy_81 : decode cX4_copy 81 = .ok (.invokestatic 37, 3) := by decide +kernel
theorem dX4_copy_84 : decode cX4_copy 84 = .ok (.aload_n 1, 1) := by decide +kernel
theorem dX4_copy_85 : decode cX4_copy 85 = .ok (.getfield 24, 3) := by decide +kernel
theorem dX4_copy_88 : decode cX4_copy 88 = .ok (.iconst 0, 1) := by decide +kernel
theorem dX4_copy_89 : decode cX4_copy 89 = .ok (.aload_n 0, 1) := by decide +kernel
theorem dX4_copy_90 : decode cX4_copy 90 = .ok (.getfield 24, 3) := by decide +kernel
theorem dX4_copy_93 : decode cX4_copy 93 = .ok (.iconst 0, 1) := by decide +kernel
theorem dX4_copy_94 : decode cX4_copy 94 = .ok (.bipush 10, 2) := by decide +kernel
theorem dX4_copy_96 : decode cX4_copy 96 = .ok (.invokestatic 37, 3) := by decide +kernel
theorem dX4_copy_99 : decode cX4_copy 99 = .ok (.return_, 1) := by decide +kernel
def r_X4_copy : Room := { frames := 1, cells := 0, slots := 0, locals := 26 }
def f_X4_copy (P : PH) (x0 : Nat) (x1 : Nat) : Option PH :=
  ((some (sI (sI P x0 0 (P.1 x1 0)) x0 1 ((sI P x0 0 (P.1 x1 0)).1 x1 1))).bind fun P1 => (if ((0 : Int32) < 0 ∨ (0 : Int32) < 0 ∨ (6 : Int32) < 0 ∨ 6 < (0 : Int32).toNatClampNeg + (6 : Int32).toNatClampNeg ∨ 6 < (0 : Int32).toNatClampNeg + (6 : Int32).toNatClampNeg) then none else ((some (sA (sI P1 x0 2 (P1.1 x1 2)) ((sI P1 x0 2 (P1.1 x1 2)).2.2 x0 3) (va_cpy ((sI P1 x0 2 (P1.1 x1 2)).1 ((sI P1 x0 2 (P1.1 x1 2)).2.2 x1 3)) ((sI P1 x0 2 (P1.1 x1 2)).1 ((sI P1 x0 2 (P1.1 x1 2)).2.2 x0 3)) (0 : Int32).toNatClampNeg (0 : Int32).toNatClampNeg (6 : Int32).toNatClampNeg))).bind fun P4 => (if ((0 : Int32) < 0 ∨ (0 : Int32) < 0 ∨ (7 : Int32) < 0 ∨ 7 < (0 : Int32).toNatClampNeg + (7 : Int32).toNatClampNeg ∨ 7 < (0 : Int32).toNatClampNeg + (7 : Int32).toNatClampNeg) then none else ((some (sA P4 (P4.2.2 x0 4) (va_cpy (P4.1 (P4.2.2 x1 4)) (P4.1 (P4.2.2 x0 4)) (0 : Int32).toNatClampNeg (0 : Int32).toNatClampNeg (7 : Int32).toNatClampNeg))).bind fun P7 => (if ((0 : Int32) < 0 ∨ (0 : Int32) < 0 ∨ (10 : Int32) < 0 ∨ 10 < (0 : Int32).toNatClampNeg + (10 : Int32).toNatClampNeg ∨ 10 < (0 : Int32).toNatClampNeg + (10 : Int32).toNatClampNeg) then none else ((some (sA P7 (P7.2.2 x0 5) (va_cpy (P7.1 (P7.2.2 x1 5)) (P7.1 (P7.2.2 x0 5)) (0 : Int32).toNatClampNeg (0 : Int32).toNatClampNeg (10 : Int32).toNatClampNeg))).bind fun P10 => (if ((0 : Int32) < 0 ∨ (0 : Int32) < 0 ∨ (10 : Int32) < 0 ∨ 10 < (0 : Int32).toNatClampNeg + (10 : Int32).toNatClampNeg ∨ 10 < (0 : Int32).toNatClampNeg + (10 : Int32).toNatClampNeg) then none else ((some (sA P10 (P10.2.2 x0 6) (va_cpy (P10.1 (P10.2.2 x1 6)) (P10.1 (P10.2.2 x0 6)) (0 : Int32).toNatClampNeg (0 : Int32).toNatClampNeg (10 : Int32).toNatClampNeg))).bind fun P13 => (if ((0 : Int32) < 0 ∨ (0 : Int32) < 0 ∨ (10 : Int32) < 0 ∨ 10 < (0 : Int32).toNatClampNeg + (10 : Int32).toNatClampNeg ∨ 10 < (0 : Int32).toNatClampNeg + (10 : Int32).toNatClampNeg) then none else ((some (sA P13 (P13.2.2 x0 7) (va_cpy (P13.1 (P13.2.2 x1 7)) (P13.1 (P13.2.2 x0 7)) (0 : Int32).toNatClampNeg (0 : Int32).toNatClampNeg (10 : Int32).toNatClampNeg))).bind fun P16 => some P16)))))))))))
theorem w_X4_copy {x : Fx} {E : Ev} (S : ZS x E r_X4_copy cX4_copy 2 RX4 none) (M : ZM x E) (P : PH) (x0 : Nat) (x1 : Nat) (h_x0 : ok x0 2 0) (h_x1 : ok x1 2 0) (r : PH) (hf : f_X4_copy P x0 x1 = some r) : Wz x E 2 (QV E x r) P 0 [(0, .ref (ad E x0)), (1, .ref (ad E x1))] [] := by
  unfold f_X4_copy at hf
  refine z_aload_n S 0 dX4_copy_0 rfl rfl ?_
  refine z_aload_n S 1 dX4_copy_1 rfl rfl ?_
  refine z_getI S cf_2 h_x1 0 (by decide) rfl wd164 dX4_copy_2 ?_
  refine z_putI S cf_2 h_x0 0 (by decide) rfl rfl rfl rfl wd164 dX4_copy_5 ?_
  refine z_aload_n S 0 dX4_copy_8 rfl rfl ?_
  refine z_aload_n S 1 dX4_copy_9 rfl rfl ?_
  refine z_getI S cf_2 h_x1 1 (by decide) rfl wd171 dX4_copy_10 ?_
  refine z_putI S cf_2 h_x0 1 (by decide) rfl rfl rfl rfl wd171 dX4_copy_13 ?_
  refine z_nmP hf (fun P1 hf => ?_)
  refine z_aload_n S 0 dX4_copy_16 rfl rfl ?_
  refine z_aload_n S 1 dX4_copy_17 rfl rfl ?_
  refine z_getI S cf_2 h_x1 2 (by decide) rfl wd177 dX4_copy_18 ?_
  refine z_putI S cf_2 h_x0 2 (by decide) rfl rfl rfl rfl wd177 dX4_copy_21 ?_
  refine z_aload_n S 1 dX4_copy_24 rfl rfl ?_
  refine z_getR (K' := 9) (n' := 6) S cf_2 h_x1 3 (by decide) rfl rfl rfl wd182 dX4_copy_25 (fun h2 => ?_)
  refine z_iconst (v := 0) S dX4_copy_28 (by decide) ?_
  refine z_aload_n S 0 dX4_copy_29 rfl rfl ?_
  refine z_getR (K' := 9) (n' := 6) S cf_2 h_x0 3 (by decide) rfl rfl rfl wd182 dX4_copy_30 (fun h3 => ?_)
  refine z_iconst (v := 0) S dX4_copy_33 (by decide) ?_
  refine z_bipush (v := 6) S dX4_copy_34 (by decide) ?_
  refine z_copy S h2 h3 wd648 wd449 wd448 wd43 (by decide) (by decide) dX4_copy_36 hf (fun hf => ?_)
  refine z_nmP hf (fun P4 hf => ?_)
  refine z_aload_n S 1 dX4_copy_39 rfl rfl ?_
  refine z_getR (K' := 9) (n' := 7) S cf_2 h_x1 4 (by decide) rfl rfl rfl wd187 dX4_copy_40 (fun h5 => ?_)
  refine z_iconst (v := 0) S dX4_copy_43 (by decide) ?_
  refine z_aload_n S 0 dX4_copy_44 rfl rfl ?_
  refine z_getR (K' := 9) (n' := 7) S cf_2 h_x0 4 (by decide) rfl rfl rfl wd187 dX4_copy_45 (fun h6 => ?_)
  refine z_iconst (v := 0) S dX4_copy_48 (by decide) ?_
  refine z_bipush (v := 7) S dX4_copy_49 (by decide) ?_
  refine z_copy S h5 h6 wd648 wd449 wd448 wd43 (by decide) (by decide) dX4_copy_51 hf (fun hf => ?_)
  refine z_nmP hf (fun P7 hf => ?_)
  refine z_aload_n S 1 dX4_copy_54 rfl rfl ?_
  refine z_getR (K' := 9) (n' := 10) S cf_2 h_x1 5 (by decide) rfl rfl rfl wd190 dX4_copy_55 (fun h8 => ?_)
  refine z_iconst (v := 0) S dX4_copy_58 (by decide) ?_
  refine z_aload_n S 0 dX4_copy_59 rfl rfl ?_
  refine z_getR (K' := 9) (n' := 10) S cf_2 h_x0 5 (by decide) rfl rfl rfl wd190 dX4_copy_60 (fun h9 => ?_)
  refine z_iconst (v := 0) S dX4_copy_63 (by decide) ?_
  refine z_bipush (v := 10) S dX4_copy_64 (by decide) ?_
  refine z_copy S h8 h9 wd648 wd449 wd448 wd43 (by decide) (by decide) dX4_copy_66 hf (fun hf => ?_)
  refine z_nmP hf (fun P10 hf => ?_)
  refine z_aload_n S 1 dX4_copy_69 rfl rfl ?_
  refine z_getR (K' := 9) (n' := 10) S cf_2 h_x1 6 (by decide) rfl rfl rfl wd192 dX4_copy_70 (fun h11 => ?_)
  refine z_iconst (v := 0) S dX4_copy_73 (by decide) ?_
  refine z_aload_n S 0 dX4_copy_74 rfl rfl ?_
  refine z_getR (K' := 9) (n' := 10) S cf_2 h_x0 6 (by decide) rfl rfl rfl wd192 dX4_copy_75 (fun h12 => ?_)
  refine z_iconst (v := 0) S dX4_copy_78 (by decide) ?_
  refine z_bipush (v := 10) S dX4_copy_79 (by decide) ?_
  refine z_copy S h11 h12 wd648 wd449 wd448 wd43 (by decide) (by decide) dX4_copy_81 hf (fun hf => ?_)
  refine z_nmP hf (fun P13 hf => ?_)
  refine z_aload_n S 1 dX4_copy_84 rfl rfl ?_
  refine z_getR (K' := 9) (n' := 10) S cf_2 h_x1 7 (by decide) rfl rfl rfl wd194 dX4_copy_85 (fun h14 => ?_)
  refine z_iconst (v := 0) S dX4_copy_88 (by decide) ?_
  refine z_aload_n S 0 dX4_copy_89 rfl rfl ?_
  refine z_getR (K' := 9) (n' := 10) S cf_2 h_x0 7 (by decide) rfl rfl rfl wd194 dX4_copy_90 (fun h15 => ?_)
  refine z_iconst (v := 0) S dX4_copy_93 (by decide) ?_
  refine z_bipush (v := 10) S dX4_copy_94 (by decide) ?_
  refine z_copy S h14 h15 wd648 wd449 wd448 wd43 (by decide) (by decide) dX4_copy_96 hf (fun hf => ?_)
  refine z_nmP hf (fun P16 hf => ?_)
  exact z_vretI S M rfl dX4_copy_99 hf
theorem m_X4_copy (l : Launch) (E : Ev) (P : PH) (x0 : Nat) (x1 : Nat) (h_x0 : ok x0 2 0) (h_x1 : ok x1 2 0) (r : PH) (hf : f_X4_copy P x0 x1 = some r) : CtV l E yX4_copy cX4_copy 2 none r_X4_copy [.ref (ad E x0), .ref (ad E x1)] P r :=
  z_body (own := RX4) (by decide +kernel) rfl (Nat.le_of_ble_eq_true rfl) rfl (fun x _ S M => w_X4_copy S M P x0 x1 h_x0 h_x1 r hf)
-- yX4_addRight
theorem dX4_addRight_0 : decode cX4_addRight 0 = .ok (.aload_n 0, 1) := by decide +kernel
theorem dX4_addRight_1 : decode cX4_addRight 1 = .ok (.getfield 34, 3) := by decide +kernel
theorem dX4_addRight_4 : decode cX4_addRight 4 = .ok (.bipush 10, 2) := by decide +kernel
theorem dX4_addRight_6 : decode cX4_addRight 6 = .ok (.if_icmp .ge 43, 3) := by decide +kernel
theorem dX4_addRight_9 : decode cX4_addRight 9 = .ok (.aload_n 0, 1) := by decide +kernel
theorem dX4_addRight_10 : decode cX4_addRight 10 = .ok (.getfield 18, 3) := by decide +kernel
theorem dX4_addRight_13 : decode cX4_addRight 13 = .ok (.aload_n 0, 1) := by decide +kernel
theorem dX4_addRight_14 : decode cX4_addRight 14 = .ok (.getfield 34, 3) := by decide +kernel
theorem dX4_addRight_17 : decode cX4_addRight 17 = .ok (.iload_n 1, 1) := by decide +kernel
theorem dX4_addRight_18 : decode cX4_addRight 18 = .ok (.iastore, 1) := by decide +kernel
theorem dX4_addRight_19 : decode cX4_addRight 19 = .ok (.aload_n 0, 1) := by decide +kernel
theorem dX4_addRight_20 : decode cX4_addRight 20 = .ok (.getfield 21, 3) := by decide +kernel
theorem dX4_addRight_23 : decode cX4_addRight 23 = .ok (.aload_n 0, 1) := by decide +kernel
theorem dX4_addRight_24 : decode cX4_addRight 24 = .ok (.getfield 34, 3) := by decide +kernel
theorem dX4_addRight_27 : decode cX4_addRight 27 = .ok (.iload_n 2, 1) := by decide +kernel
theorem dX4_addRight_28 : decode cX4_addRight 28 = .ok (.iastore, 1) := by decide +kernel
theorem dX4_addRight_29 : decode cX4_addRight 29 = .ok (.aload_n 0, 1) := by decide +kernel
theorem dX4_addRight_30 : decode cX4_addRight 30 = .ok (.getfield 24, 3) := by decide +kernel
theorem dX4_addRight_33 : decode cX4_addRight 33 = .ok (.aload_n 0, 1) := by decide +kernel
theorem dX4_addRight_34 : decode cX4_addRight 34 = .ok (.getfield 34, 3) := by decide +kernel
theorem dX4_addRight_37 : decode cX4_addRight 37 = .ok (.iload_n 3, 1) := by decide +kernel
theorem dX4_addRight_38 : decode cX4_addRight 38 = .ok (.iastore, 1) := by decide +kernel
theorem dX4_addRight_39 : decode cX4_addRight 39 = .ok (.aload_n 0, 1) := by decide +kernel
theorem dX4_addRight_40 : decode cX4_addRight 40 = .ok (.dup, 1) := by decide +kernel
theorem dX4_addRight_41 : decode cX4_addRight 41 = .ok (.getfield 34, 3) := by decide +kernel
theorem dX4_addRight_44 : decode cX4_addRight 44 = .ok (.iconst 1, 1) := by decide +kernel
theorem dX4_addRight_45 : decode cX4_addRight 45 = .ok (.iadd, 1) := by decide +kernel
theorem dX4_addRight_46 : decode cX4_addRight 46 = .ok (.putfield 34, 3) := by decide +kernel
theorem dX4_addRight_49 : decode cX4_addRight 49 = .ok (.return_, 1) := by decide +kernel
def r_X4_addRight : Room := { frames := 0, cells := 0, slots := 0, locals := 0 }
def f_X4_addRight (P : PH) (x0 : Nat) (x1 : Int32) (x2 : Int32) (x3 : Int32) : Option PH :=
  (if (10 : Int32) ≤ (P.1 x0 2) then some P else (if ((P.1 x0 2) < 0 ∨ 10 ≤ (P.1 x0 2).toNatClampNeg) then none else ((some (sI P (P.2.2 x0 5) (P.1 x0 2).toNatClampNeg x1)).bind fun P2 => (if ((P2.1 x0 2) < 0 ∨ 10 ≤ (P2.1 x0 2).toNatClampNeg) then none else ((some (sI P2 (P2.2.2 x0 6) (P2.1 x0 2).toNatClampNeg x2)).bind fun P4 => (if ((P4.1 x0 2) < 0 ∨ 10 ≤ (P4.1 x0 2).toNatClampNeg) then none else ((some (sI P4 (P4.2.2 x0 7) (P4.1 x0 2).toNatClampNeg x3)).bind fun P6 => some (sI P6 x0 2 ((P6.1 x0 2) + (1 : Int32))))))))))
theorem w_X4_addRight {x : Fx} {E : Ev} (S : ZS x E r_X4_addRight cX4_addRight 4 RX4 none) (M : ZM x E) (P : PH) (x0 : Nat) (x1 : Int32) (x2 : Int32) (x3 : Int32) (h_x0 : ok x0 2 0) (r : PH) (hf : f_X4_addRight P x0 x1 x2 x3 = some r) : Wz x E 4 (QV E x r) P 0 [(0, .ref (ad E x0)), (1, .int x1), (2, .int x2), (3, .int x3)] [] := by
  unfold f_X4_addRight at hf
  refine z_aload_n S 0 dX4_addRight_0 rfl rfl ?_
  refine z_getI S cf_2 h_x0 2 (by decide) rfl wd177 dX4_addRight_1 ?_
  refine z_bipush (v := 10) S dX4_addRight_4 (by decide) ?_
  refine z_icmp_ge (tgt := 49) S dX4_addRight_6 (by decide) hf (fun hf => ?_) (fun hf => ?_)
  · exact z_vretI S M rfl dX4_addRight_49 hf
  · refine z_aload_n S 0 dX4_addRight_9 rfl rfl ?_
    refine z_getR (K' := 9) (n' := 10) S cf_2 h_x0 5 (by decide) rfl rfl rfl wd190 dX4_addRight_10 (fun h1 => ?_)
    refine z_aload_n S 0 dX4_addRight_13 rfl rfl ?_
    refine z_getI S cf_2 h_x0 2 (by decide) rfl wd177 dX4_addRight_14 ?_
    refine z_iload_n S 1 dX4_addRight_17 rfl rfl ?_
    refine z_iast S h1 dX4_addRight_18 hf (fun hf => ?_)
    refine z_nmP hf (fun P2 hf => ?_)
    refine z_aload_n S 0 dX4_addRight_19 rfl rfl ?_
    refine z_getR (K' := 9) (n' := 10) S cf_2 h_x0 6 (by decide) rfl rfl rfl wd192 dX4_addRight_20 (fun h3 => ?_)
    refine z_aload_n S 0 dX4_addRight_23 rfl rfl ?_
    refine z_getI S cf_2 h_x0 2 (by decide) rfl wd177 dX4_addRight_24 ?_
    refine z_iload_n S 2 dX4_addRight_27 rfl rfl ?_
    refine z_iast S h3 dX4_addRight_28 hf (fun hf => ?_)
    refine z_nmP hf (fun P4 hf => ?_)
    refine z_aload_n S 0 dX4_addRight_29 rfl rfl ?_
    refine z_getR (K' := 9) (n' := 10) S cf_2 h_x0 7 (by decide) rfl rfl rfl wd194 dX4_addRight_30 (fun h5 => ?_)
    refine z_aload_n S 0 dX4_addRight_33 rfl rfl ?_
    refine z_getI S cf_2 h_x0 2 (by decide) rfl wd177 dX4_addRight_34 ?_
    refine z_iload_n S 3 dX4_addRight_37 rfl rfl ?_
    refine z_iast S h5 dX4_addRight_38 hf (fun hf => ?_)
    refine z_nmP hf (fun P6 hf => ?_)
    refine z_aload_n S 0 dX4_addRight_39 rfl rfl ?_
    refine z_dup S dX4_addRight_40 rfl ?_
    refine z_getI S cf_2 h_x0 2 (by decide) rfl wd177 dX4_addRight_41 ?_
    refine z_iconst (v := 1) S dX4_addRight_44 (by decide) ?_
    refine z_iadd S dX4_addRight_45 ?_
    refine z_putI S cf_2 h_x0 2 (by decide) rfl rfl rfl rfl wd177 dX4_addRight_46 ?_
    exact z_vretI S M rfl dX4_addRight_49 hf
theorem m_X4_addRight (l : Launch) (E : Ev) (P : PH) (x0 : Nat) (x1 : Int32) (x2 : Int32) (x3 : Int32) (h_x0 : ok x0 2 0) (r : PH) (hf : f_X4_addRight P x0 x1 x2 x3 = some r) : CtV l E yX4_addRight cX4_addRight 4 none r_X4_addRight [.ref (ad E x0), .int x1, .int x2, .int x3] P r :=
  z_body (own := RX4) (by decide +kernel) rfl (Nat.le_of_ble_eq_true rfl) rfl (fun x _ S M => w_X4_addRight S M P x0 x1 x2 x3 h_x0 r hf)
-- yX4_rightsIn
theorem dX4_rightsIn_0 : decode cX4_rightsIn 0 = .ok (.iconst 0, 1) := by decide +kernel
theorem dX4_rightsIn_1 : decode cX4_rightsIn 1 = .ok (.istore_n 2, 1) := by decide +kernel
theorem dX4_rightsIn_2 : decode cX4_rightsIn 2 = .ok (.iconst 0, 1) := by decide +kernel
theorem dX4_rightsIn_3 : decode cX4_rightsIn 3 = .ok (.istore_n 3, 1) := by decide +kernel
theorem dX4_rightsIn_4 : decode cX4_rightsIn 4 = .ok (.iload_n 3, 1) := by decide +kernel
theorem dX4_rightsIn_5 : decode cX4_rightsIn 5 = .ok (.aload_n 0, 1) := by decide +kernel
theorem dX4_rightsIn_6 : decode cX4_rightsIn 6 = .ok (.getfield 34, 3) := by decide +kernel
theorem dX4_rightsIn_9 : decode cX4_rightsIn 9 = .ok (.if_icmp .ge 22, 3) := by decide +kernel
theorem dX4_rightsIn_12 : decode cX4_rightsIn 12 = .ok (.aload_n 0, 1) := by decide +kernel
theorem dX4_rightsIn_13 : decode cX4_rightsIn 13 = .ok (.getfield 21, 3) := by decide +kernel
theorem dX4_rightsIn_16 : decode cX4_rightsIn 16 = .ok (.iload_n 3, 1) := by decide +kernel
theorem dX4_rightsIn_17 : decode cX4_rightsIn 17 = .ok (.iaload, 1) := by decide +kernel
theorem dX4_rightsIn_18 : decode cX4_rightsIn 18 = .ok (.iload_n 1, 1) := by decide +kernel
theorem dX4_rightsIn_19 : decode cX4_rightsIn 19 = .ok (.if_icmp .ne 6, 3) := by decide +kernel
theorem dX4_rightsIn_22 : decode cX4_rightsIn 22 = .ok (.iinc 2 1, 3) := by decide +kernel
theorem dX4_rightsIn_25 : decode cX4_rightsIn 25 = .ok (.iinc 3 1, 3) := by decide +kernel
theorem dX4_rightsIn_28 : decode cX4_rightsIn 28 = .ok (.goto (-24), 3) := by decide +kernel
theorem dX4_rightsIn_31 : decode cX4_rightsIn 31 = .ok (.iload_n 2, 1) := by decide +kernel
theorem dX4_rightsIn_32 : decode cX4_rightsIn 32 = .ok (.ireturn, 1) := by decide +kernel
def r_X4_rightsIn : Room := { frames := 0, cells := 0, slots := 0, locals := 0 }
def f_X4_rightsIn_L4 (K : Int32 → Option Int32) (P : PH) (x0 : Nat) (x1 : Int32) : Nat → Int32 → Int32 → Option Int32
  | 0, _, _ => none
  | n + 1, x2, x3 =>
    (if (P.1 x0 2) ≤ x3 then K x2 else (if (x3 < 0 ∨ 10 ≤ x3.toNatClampNeg) then none else (if (P.1 (P.2.2 x0 6) x3.toNatClampNeg) = x1 then f_X4_rightsIn_L4 K P x0 x1 n (x2 + (1 : Int32)) (x3 + (1 : Int32)) else f_X4_rightsIn_L4 K P x0 x1 n x2 (x3 + (1 : Int32)))))
theorem w_X4_rightsIn_L4 {x : Fx} {E : Ev} (S : ZS x E r_X4_rightsIn cX4_rightsIn 4 RX4 (some .int)) (M : ZM x E) {K : Int32 → Option Int32} (P : PH) (x0 : Nat) (x1 : Int32) (h_x0 : ok x0 2 0) (r : Int32) (hK : ∀ (y2 : Int32), K y2 = some r → Wz x E 4 (QI E x r P) P 31 [(2, .int y2)] []) : ∀ (n : Nat) (x2 : Int32) (x3 : Int32), f_X4_rightsIn_L4 K P x0 x1 n x2 x3 = some r → Wz x E 4 (QI E x r P) P 4 [(0, .ref (ad E x0)), (1, .int x1), (2, .int x2), (3, .int x3)] [] := by
  intro n
  induction n with
  | zero => intro x2 x3 hf; cases hf
  | succ n ih =>
    intro x2 x3 hf
    unfold f_X4_rightsIn_L4 at hf
    refine z_iload_n S 3 dX4_rightsIn_4 rfl rfl ?_
    refine z_aload_n S 0 dX4_rightsIn_5 rfl rfl ?_
    refine z_getI S cf_2 h_x0 2 (by decide) rfl wd177 dX4_rightsIn_6 ?_
    refine z_icmp_ge (tgt := 31) S dX4_rightsIn_9 (by decide) hf (fun hf => ?_) (fun hf => ?_)
    · refine z_sub [2] rfl ?_
      exact hK x2 hf
    · refine z_aload_n S 0 dX4_rightsIn_12 rfl rfl ?_
      refine z_getR (K' := 9) (n' := 10) S cf_2 h_x0 6 (by decide) rfl rfl rfl wd192 dX4_rightsIn_13 (fun h1 => ?_)
      refine z_iload_n S 3 dX4_rightsIn_16 rfl rfl ?_
      refine z_iald S h1 dX4_rightsIn_17 hf (fun hf => ?_)
      refine z_iload_n S 1 dX4_rightsIn_18 rfl rfl ?_
      refine z_icmp_ne (tgt := 25) S dX4_rightsIn_19 (by decide) hf (fun hf => ?_) (fun hf => ?_)
      · refine z_iinc (v := (x2 + (1 : Int32))) (lv' := [(2, .int (x2 + (1 : Int32))), (0, .ref (ad E x0)), (1, .int x1), (3, .int x3)]) S 2 dX4_rightsIn_22 rfl (by rfl) (by decide) rfl ?_
        refine z_iinc (v := (x3 + (1 : Int32))) (lv' := [(3, .int (x3 + (1 : Int32))), (2, .int (x2 + (1 : Int32))), (0, .ref (ad E x0)), (1, .int x1)]) S 3 dX4_rightsIn_25 rfl (by rfl) (by decide) rfl ?_
        refine z_goto (tgt := 4) S dX4_rightsIn_28 (by decide) ?_
        refine z_sub [2, 3, 1, 0] rfl ?_
        exact ih (x2 + (1 : Int32)) (x3 + (1 : Int32)) hf
      · refine z_iinc (v := (x3 + (1 : Int32))) (lv' := [(3, .int (x3 + (1 : Int32))), (0, .ref (ad E x0)), (1, .int x1), (2, .int x2)]) S 3 dX4_rightsIn_25 rfl (by rfl) (by decide) rfl ?_
        refine z_goto (tgt := 4) S dX4_rightsIn_28 (by decide) ?_
        refine z_sub [1, 2, 3, 0] rfl ?_
        exact ih x2 (x3 + (1 : Int32)) hf
def f_X4_rightsIn (P : PH) (x0 : Nat) (x1 : Int32) : Option Int32 :=
  f_X4_rightsIn_L4 (fun v2 => some v2) P x0 x1 1000 (0 : Int32) (0 : Int32)
theorem w_X4_rightsIn {x : Fx} {E : Ev} (S : ZS x E r_X4_rightsIn cX4_rightsIn 4 RX4 (some .int)) (M : ZM x E) (P : PH) (x0 : Nat) (x1 : Int32) (h_x0 : ok x0 2 0) (r : Int32) (hf : f_X4_rightsIn P x0 x1 = some r) : Wz x E 4 (QI E x r P) P 0 [(0, .ref (ad E x0)), (1, .int x1)] [] := by
  unfold f_X4_rightsIn at hf
  refine z_iconst (v := 0) S dX4_rightsIn_0 (by decide) ?_
  refine z_istore_n (lv' := [(2, .int (0 : Int32)), (0, .ref (ad E x0)), (1, .int x1)]) S dX4_rightsIn_1 rfl (by decide) rfl ?_
  refine z_iconst (v := 0) S dX4_rightsIn_2 (by decide) ?_
  refine z_istore_n (lv' := [(3, .int (0 : Int32)), (2, .int (0 : Int32)), (0, .ref (ad E x0)), (1, .int x1)]) S dX4_rightsIn_3 rfl (by decide) rfl ?_
  refine z_sub [2, 3, 1, 0] rfl ?_
  refine w_X4_rightsIn_L4 S M _ x0 x1 h_x0 r (fun v2 hf => ?_) 1000 (0 : Int32) (0 : Int32) hf
  refine z_iload_n S 0 dX4_rightsIn_31 rfl rfl ?_
  exact z_iretP (v := v2) S M rfl dX4_rightsIn_32 hf
theorem m_X4_rightsIn (l : Launch) (E : Ev) (P : PH) (x0 : Nat) (x1 : Int32) (h_x0 : ok x0 2 0) (r : Int32) (hf : f_X4_rightsIn P x0 x1 = some r) : CtI l E yX4_rightsIn cX4_rightsIn 4 (some .int) r_X4_rightsIn [.ref (ad E x0), .int x1] P r P :=
  z_body (own := RX4) (by decide +kernel) rfl (Nat.le_of_ble_eq_true rfl) rfl (fun x _ S M => w_X4_rightsIn S M P x0 x1 h_x0 r hf)
-- yX8_rewind
theorem dX8_rewind_0 : decode cX8_rewind 0 = .ok (.aload_n 0, 1) := by decide +kernel
theorem dX8_rewind_1 : decode cX8_rewind 1 = .ok (.iconst 0, 1) := by decide +kernel
theorem dX8_rewind_2 : decode cX8_rewind 2 = .ok (.putfield 19, 3) := by decide +kernel
theorem dX8_rewind_5 : decode cX8_rewind 5 = .ok (.return_, 1) := by decide +kernel
def r_X8_rewind : Room := { frames := 0, cells := 0, slots := 0, locals := 0 }
def f_X8_rewind (P : PH) (x0 : Nat) : Option PH :=
  some (sI P x0 5 (0 : Int32))
theorem w_X8_rewind {x : Fx} {E : Ev} (S : ZS x E r_X8_rewind cX8_rewind 1 RX8 none) (M : ZM x E) (P : PH) (x0 : Nat) (h_x0 : ok x0 6 0) (r : PH) (hf : f_X8_rewind P x0 = some r) : Wz x E 1 (QV E x r) P 0 [(0, .ref (ad E x0))] [] := by
  unfold f_X8_rewind at hf
  refine z_aload_n S 0 dX8_rewind_0 rfl rfl ?_
  refine z_iconst (v := 0) S dX8_rewind_1 (by decide) ?_
  refine z_putI S cf_6 h_x0 5 (by decide) rfl rfl rfl rfl wd76 dX8_rewind_2 ?_
  exact z_vretI S M rfl dX8_rewind_5 hf
theorem m_X8_rewind (l : Launch) (E : Ev) (P : PH) (x0 : Nat) (h_x0 : ok x0 6 0) (r : PH) (hf : f_X8_rewind P x0 = some r) : CtV l E yX8_rewind cX8_rewind 1 none r_X8_rewind [.ref (ad E x0)] P r :=
  z_body (own := RX8) (by decide +kernel) rfl (Nat.le_of_ble_eq_true rfl) rfl (fun x _ S M => w_X8_rewind S M P x0 h_x0 r hf)
-- yX8_isDigitAt
theorem dX8_isDigitAt_0 : decode cX8_isDigitAt 0 = .ok (.aload_n 0, 1) := by decide +kernel
theorem dX8_isDigitAt_1 : decode cX8_isDigitAt 1 = .ok (.getfield 9, 3) := by decide +kernel
theorem dX8_isDigitAt_4 : decode cX8_isDigitAt 4 = .ok (.iload_n 1, 1) := by decide +kernel
theorem dX8_isDigitAt_5 : decode cX8_isDigitAt 5 = .ok (.iaload, 1) := by decide +kernel
theorem dX8_isDigitAt_6 : decode cX8_isDigitAt 6 = .ok (.bipush 48, 2) := by decide +kernel
theorem dX8_isDigitAt_8 : decode cX8_isDigitAt 8 = .ok (.if_icmp .lt 18, 3) := by decide +kernel
theorem dX8_isDigitAt_11 : decode cX8_isDigitAt 11 = .ok (.aload_n 0, 1) := by decide +kernel
theorem dX8_isDigitAt_12 : decode cX8_isDigitAt 12 = .ok (.getfield 9, 3) := by decide +kernel
theorem dX8_isDigitAt_15 : decode cX8_isDigitAt 15 = .ok (.iload_n 1, 1) := by decide +kernel
theorem dX8_isDigitAt_16 : decode cX8_isDigitAt 16 = .ok (.iaload, 1) := by decide +kernel
theorem dX8_isDigitAt_17 : decode cX8_isDigitAt 17 = .ok (.bipush 57, 2) := by decide +kernel
theorem dX8_isDigitAt_19 : decode cX8_isDigitAt 19 = .ok (.if_icmp .gt 7, 3) := by decide +kernel
theorem dX8_isDigitAt_22 : decode cX8_isDigitAt 22 = .ok (.iconst 1, 1) := by decide +kernel
theorem dX8_isDigitAt_23 : decode cX8_isDigitAt 23 = .ok (.goto 4, 3) := by decide +kernel
theorem dX8_isDigitAt_26 : decode cX8_isDigitAt 26 = .ok (.iconst 0, 1) := by decide +kernel
theorem dX8_isDigitAt_27 : decode cX8_isDigitAt 27 = .ok (.ireturn, 1) := by decide +kernel
def r_X8_isDigitAt : Room := { frames := 0, cells := 0, slots := 0, locals := 0 }
def f_X8_isDigitAt (P : PH) (x0 : Nat) (x1 : Int32) : Option Bool :=
  (if (x1 < 0 ∨ 200 ≤ x1.toNatClampNeg) then none else (if (P.1 (P.2.2 x0 0) x1.toNatClampNeg) < (48 : Int32) then some false else (if (x1 < 0 ∨ 200 ≤ x1.toNatClampNeg) then none else (if (57 : Int32) < (P.1 (P.2.2 x0 0) x1.toNatClampNeg) then some false else some true))))
theorem w_X8_isDigitAt {x : Fx} {E : Ev} (S : ZS x E r_X8_isDigitAt cX8_isDigitAt 2 RX8 (some .boolean)) (M : ZM x E) (P : PH) (x0 : Nat) (x1 : Int32) (h_x0 : ok x0 6 0) (r : Bool) (hf : f_X8_isDigitAt P x0 x1 = some r) : Wz x E 2 (QI E x (b2i r) P) P 0 [(0, .ref (ad E x0)), (1, .int x1)] [] := by
  unfold f_X8_isDigitAt at hf
  refine z_aload_n S 0 dX8_isDigitAt_0 rfl rfl ?_
  refine z_getR (K' := 9) (n' := 200) S cf_6 h_x0 0 (by decide) rfl rfl rfl wd67 dX8_isDigitAt_1 (fun h1 => ?_)
  refine z_iload_n S 1 dX8_isDigitAt_4 rfl rfl ?_
  refine z_iald S h1 dX8_isDigitAt_5 hf (fun hf => ?_)
  refine z_bipush (v := 48) S dX8_isDigitAt_6 (by decide) ?_
  refine z_icmp_lt (tgt := 26) S dX8_isDigitAt_8 (by decide) hf (fun hf => ?_) (fun hf => ?_)
  · refine z_iconst (v := 0) S dX8_isDigitAt_26 (by decide) ?_
    exact z_zretP (v := false) S M rfl dX8_isDigitAt_27 hf
  · refine z_aload_n S 0 dX8_isDigitAt_11 rfl rfl ?_
    refine z_getR (K' := 9) (n' := 200) S cf_6 h_x0 0 (by decide) rfl rfl rfl wd67 dX8_isDigitAt_12 (fun h2 => ?_)
    refine z_iload_n S 1 dX8_isDigitAt_15 rfl rfl ?_
    refine z_iald S h2 dX8_isDigitAt_16 hf (fun hf => ?_)
    refine z_bipush (v := 57) S dX8_isDigitAt_17 (by decide) ?_
    refine z_icmp_gt (tgt := 26) S dX8_isDigitAt_19 (by decide) hf (fun hf => ?_) (fun hf => ?_)
    · refine z_iconst (v := 0) S dX8_isDigitAt_26 (by decide) ?_
      exact z_zretP (v := false) S M rfl dX8_isDigitAt_27 hf
    · refine z_iconst (v := 1) S dX8_isDigitAt_22 (by decide) ?_
      refine z_goto (tgt := 27) S dX8_isDigitAt_23 (by decide) ?_
      exact z_zretP (v := true) S M rfl dX8_isDigitAt_27 hf
theorem m_X8_isDigitAt (l : Launch) (E : Ev) (P : PH) (x0 : Nat) (x1 : Int32) (h_x0 : ok x0 6 0) (r : Bool) (hf : f_X8_isDigitAt P x0 x1 = some r) : CtI l E yX8_isDigitAt cX8_isDigitAt 2 (some .boolean) r_X8_isDigitAt [.ref (ad E x0), .int x1] P (b2i r) P :=
  z_body (own := RX8) (by decide +kernel) rfl (Nat.le_of_ble_eq_true rfl) rfl (fun x _ S M => w_X8_isDigitAt S M P x0 x1 h_x0 r hf)
-- yX8_takeNumber
theorem dX8_takeNumber_0 : decode cX8_takeNumber 0 = .ok (.aload_n 0, 1) := by decide +kernel
theorem dX8_takeNumber_1 : decode cX8_takeNumber 1 = .ok (.iconst 0, 1) := by decide +kernel
theorem dX8_takeNumber_2 : decode cX8_takeNumber 2 = .ok (.putfield 35, 3) := by decide +kernel
theorem dX8_takeNumber_5 : decode cX8_takeNumber 5 = .ok (.aload_n 0, 1) := by decide +kernel
theorem dX8_takeNumber_6 : decode cX8_takeNumber 6 = .ok (.getfield 19, 3) := by decide +kernel
theorem dX8_takeNumber_9 : decode cX8_takeNumber 9 = .ok (.aload_n 0, 1) := by decide +kernel
theorem dX8_takeNumber_10 : decode cX8_takeNumber 10 = .ok (.getfield 15, 3) := by decide +kernel
theorem dX8_takeNumber_13 : decode cX8_takeNumber 13 = .ok (.if_icmp .ge 60, 3) := by decide +kernel
theorem dX8_takeNumber_16 : decode cX8_takeNumber 16 = .ok (.aload_n 0, 1) := by decide +kernel
theorem dX8_takeNumber_17 : decode cX8_takeNumber 17 = .ok (.aload_n 0, 1) := by decide +kernel
theorem dX8_takeNumber_18 : decode cX8_takeNumber 18 = .ok (.getfield 19, 3) := by decide +kernel
theorem dX8_takeNumber_21 : decode cX8_takeNumber 21 = .ok (.invokevirtual 28, 3) := by decide +kernel
theorem dX8_takeNumber_24 : decode cX8_takeNumber 24 = .ok (.ifCond .eq 49, 3) := by decide +kernel
theorem dX8_takeNumber_27 : decode cX8_takeNumber 27 = .ok (.aload_n 0, 1) := by decide +kernel
theorem dX8_takeNumber_28 : decode cX8_takeNumber 28 = .ok (.getfield 35, 3) := by decide +kernel
theorem dX8_takeNumber_31 : decode cX8_takeNumber 31 = .ok (.bipush 99, 2) := by decide +kernel
theorem dX8_takeNumber_33 : decode cX8_takeNumber 33 = .ok (.if_icmp .gt 27, 3) := by decide +kernel
theorem dX8_takeNumber_36 : decode cX8_takeNumber 36 = .ok (.aload_n 0, 1) := by decide +kernel
theorem dX8_takeNumber_37 : decode cX8_takeNumber 37 = .ok (.aload_n 0, 1) := by decide +kernel
theorem dX8_takeNumber_38 : decode cX8_takeNumber 38 = .ok (.getfield 35, 3) := by decide +kernel
theorem dX8_takeNumber_41 : decode cX8_takeNumber 41 = .ok (.bipush 10, 2) := by decide +kernel
theorem dX8_takeNumber_43 : decode cX8_takeNumber 43 = .ok (.imul, 1) := by decide +kernel
theorem dX8_takeNumber_44 : decode cX8_takeNumber 44 = .ok (.aload_n 0, 1) := by decide +kernel
theorem dX8_takeNumber_45 : decode cX8_takeNumber 45 = .ok (.getfield 9, 3) := by decide +kernel
theorem dX8_takeNumber_48 : decode cX8_takeNumber 48 = .ok (.aload_n 0, 1) := by decide +kernel
theorem dX8_takeNumber_49 : decode cX8_takeNumber 49 = .ok (.getfield 19, 3) := by decide +kernel
theorem dX8_takeNumber_52 : decode cX8_takeNumber 52 = .ok (.iaload, 1) := by decide +kernel
theorem dX8_takeNumber_53 : decode cX8_takeNumber 53 = .ok (.iadd, 1) := by decide +kernel
theorem dX8_takeNumber_54 : decode cX8_takeNumber 54 = .ok (.bipush 48, 2) := by decide +kernel
theorem dX8_takeNumber_56 : decode cX8_takeNumber 56 = .ok (.isub, 1) := by decide +kernel
theorem dX8_takeNumber_57 : decode cX8_takeNumber 57 = .ok (.putfield 35, 3) := by decide +kernel
theorem dX8_takeNumber_60 : decode cX8_takeNumber 60 = .ok (.aload_n 0, 1) := by decide +kernel
theorem dX8_takeNumber_61 : decode cX8_takeNumber 61 = .ok (.dup, 1) := by decide +kernel
theorem dX8_takeNumber_62 : decode cX8_takeNumber 62 = .ok (.getfield 19, 3) := by decide +kernel
theorem dX8_takeNumber_65 : decode cX8_takeNumber 65 = .ok (.iconst 1, 1) := by decide +kernel
theorem dX8_takeNumber_66 : decode cX8_takeNumber 66 = .ok (.iadd, 1) := by decide +kernel
theorem dX8_takeNumber_67 : decode cX8_takeNumber 67 = .ok (.putfield 19, 3) := by decide +kernel
theorem dX8_takeNumber_70 : decode cX8_takeNumber 70 = .ok (.goto (-65), 3) := by decide +kernel
theorem dX8_takeNumber_73 : decode cX8_takeNumber 73 = .ok (.aload_n 0, 1) := by decide +kernel
theorem dX8_takeNumber_74 : decode cX8_takeNumber 74 = .ok (.getfield 9, 3) := by decide +kernel
theorem dX8_takeNumber_77 : decode cX8_takeNumber 77 = .ok (.aload_n 0, 1) := by decide +kernel
theorem dX8_takeNumber_78 : decode cX8_takeNumber 78 = .ok (.getfield 22, 3) := by decide +kernel
theorem dX8_takeNumber_81 : decode cX8_takeNumber 81 = .ok (.iaload, 1) := by decide +kernel
theorem dX8_takeNumber_82 : decode cX8_takeNumber 82 = .ok (.bipush 48, 2) := by decide +kernel
theorem dX8_takeNumber_84 : decode cX8_takeNumber 84 = .ok (.if_icmp .ne 20, 3) := by decide +kernel
theorem dX8_takeNumber_87 : decode cX8_takeNumber 87 = .ok (.aload_n 0, 1) := by decide +kernel
theorem dX8_takeNumber_88 : decode cX8_takeNumber 88 = .ok (.getfield 19, 3) := by decide +kernel
theorem dX8_takeNumber_91 : decode cX8_takeNumber 91 = .ok (.aload_n 0, 1) := by decide +kernel
theorem dX8_takeNumber_92 : decode cX8_takeNumber 92 = .ok (.getfield 22, 3) := by decide +kernel
theorem dX8_takeNumber_95 : decode cX8_takeNumber 95 = .ok (.iconst 1, 1) := by decide +kernel
theorem dX8_takeNumber_96 : decode cX8_takeNumber 96 = .ok (.iadd, 1) := by decide +kernel
theorem dX8_takeNumber_97 : decode cX8_takeNumber 97 = .ok (.if_icmp .le 7, 3) := by decide +kernel
theorem dX8_takeNumber_100 : decode cX8_takeNumber 100 = .ok (.iconst 1, 1) := by decide +kernel
theorem dX8_takeNumber_101 : decode cX8_takeNumber 101 = .ok (.goto 4, 3) := by decide +kernel
theorem dX8_takeNumber_104 : decode cX8_takeNumber 104 = .ok (.iconst 0, 1) := by decide +kernel
theorem dX8_takeNumber_105 : decode cX8_takeNumber 105 = .ok (.istore_n 1, 1) := by decide +kernel
theorem dX8_takeNumber_106 : decode cX8_takeNumber 106 = .ok (.aload_n 0, 1) := by decide +kernel
theorem dX8_takeNumber_107 : decode cX8_takeNumber 107 = .ok (.iload_n 1, 1) := by decide +kernel
theorem dX8_takeNumber_108 : decode cX8_takeNumber 108 = .ok (.ifCond .ne 12, 3) := by decide +kernel
theorem dX8_takeNumber_111 : decode cX8_takeNumber 111 = .ok (.aload_n 0, 1) := by decide +kernel
theorem dX8_takeNumber_112 : decode cX8_takeNumber 112 = .ok (.getfield 35, 3) := by decide +kernel
theorem dX8_takeNumber_115 : decode cX8_takeNumber 115 = .ok (.bipush 99, 2) := by decide +kernel
theorem dX8_takeNumber_117 : decode cX8_takeNumber 117 = .ok (.if_icmp .le 7, 3) := by decide +kernel
theorem dX8_takeNumber_120 : decode cX8_takeNumber 120 = .ok (.iconst 3, 1) := by decide +kernel
theorem dX8_takeNumber_121 : decode cX8_takeNumber 121 = .ok (.goto 4, 3) := by decide +kernel
theorem dX8_takeNumber_124 : decode cX8_takeNumber 124 = .ok (.iconst 2, 1) := by decide +kernel
theorem dX8_takeNumber_125 : decode cX8_takeNumber 125 = .ok (.putfield 25, 3) := by decide +kernel
theorem dX8_takeNumber_128 : decode cX8_takeNumber 128 = .ok (.return_, 1) := by decide +kernel
def r_X8_takeNumber : Room := { frames := 1, cells := 0, slots := 0, locals := 21 }
def f_X8_takeNumber_J105 (P : PH) (x0 : Nat) (s0 : Bool) : Option PH :=
  (if (b2i s0) = 0 then (if (P.1 x0 4) ≤ (99 : Int32) then some (sI P x0 2 (2 : Int32)) else some (sI P x0 2 (3 : Int32))) else some (sI P x0 2 (3 : Int32)))
theorem w_X8_takeNumber_J105 {x : Fx} {E : Ev} (S : ZS x E r_X8_takeNumber cX8_takeNumber 2 RX8 none) (M : ZM x E) (P : PH) (x0 : Nat) (s0 : Bool) (h_x0 : ok x0 6 0) (r : PH) (hf : f_X8_takeNumber_J105 P x0 s0 = some r) : Wz x E 2 (QV E x r) P 105 [(0, .ref (ad E x0))] [.int (b2i s0)] := by
  unfold f_X8_takeNumber_J105 at hf
  refine z_istore_n (lv' := [(1, .int (b2i s0)), (0, .ref (ad E x0))]) S dX8_takeNumber_105 rfl (by decide) rfl ?_
  refine z_aload_n S 1 dX8_takeNumber_106 rfl rfl ?_
  refine z_iload_n S 0 dX8_takeNumber_107 rfl rfl ?_
  refine z_if_ne (tgt := 120) S dX8_takeNumber_108 (by decide) hf (fun hf => ?_) (fun hf => ?_)
  · refine z_aload_n S 1 dX8_takeNumber_111 rfl rfl ?_
    refine z_getI S cf_6 h_x0 4 (by decide) rfl wd75 dX8_takeNumber_112 ?_
    refine z_bipush (v := 99) S dX8_takeNumber_115 (by decide) ?_
    refine z_icmp_le (tgt := 124) S dX8_takeNumber_117 (by decide) hf (fun hf => ?_) (fun hf => ?_)
    · refine z_iconst (v := 2) S dX8_takeNumber_124 (by decide) ?_
      refine z_putI S cf_6 h_x0 2 (by decide) rfl rfl rfl rfl wd71 dX8_takeNumber_125 ?_
      exact z_vretI S M rfl dX8_takeNumber_128 hf
    · refine z_iconst (v := 3) S dX8_takeNumber_120 (by decide) ?_
      refine z_goto (tgt := 125) S dX8_takeNumber_121 (by decide) ?_
      refine z_putI S cf_6 h_x0 2 (by decide) rfl rfl rfl rfl wd71 dX8_takeNumber_125 ?_
      exact z_vretI S M rfl dX8_takeNumber_128 hf
  · refine z_iconst (v := 3) S dX8_takeNumber_120 (by decide) ?_
    refine z_goto (tgt := 125) S dX8_takeNumber_121 (by decide) ?_
    refine z_putI S cf_6 h_x0 2 (by decide) rfl rfl rfl rfl wd71 dX8_takeNumber_125 ?_
    exact z_vretI S M rfl dX8_takeNumber_128 hf
def f_X8_takeNumber_J104 (P : PH) (x0 : Nat) : Option PH :=
  f_X8_takeNumber_J105 P x0 false
theorem w_X8_takeNumber_J104 {x : Fx} {E : Ev} (S : ZS x E r_X8_takeNumber cX8_takeNumber 2 RX8 none) (M : ZM x E) (P : PH) (x0 : Nat) (h_x0 : ok x0 6 0) (r : PH) (hf : f_X8_takeNumber_J104 P x0 = some r) : Wz x E 2 (QV E x r) P 104 [(0, .ref (ad E x0))] [] := by
  unfold f_X8_takeNumber_J104 at hf
  refine z_iconst (v := 0) S dX8_takeNumber_104 (by decide) ?_
  exact w_X8_takeNumber_J105 S M P x0 false h_x0 r hf
def f_X8_takeNumber_J73 (P : PH) (x0 : Nat) : Option PH :=
  (if ((P.1 x0 3) < 0 ∨ 200 ≤ (P.1 x0 3).toNatClampNeg) then none else (if (P.1 (P.2.2 x0 0) (P.1 x0 3).toNatClampNeg) = (48 : Int32) then (if (P.1 x0 5) ≤ ((P.1 x0 3) + (1 : Int32)) then f_X8_takeNumber_J104 P x0 else f_X8_takeNumber_J105 P x0 true) else f_X8_takeNumber_J104 P x0))
theorem w_X8_takeNumber_J73 {x : Fx} {E : Ev} (S : ZS x E r_X8_takeNumber cX8_takeNumber 2 RX8 none) (M : ZM x E) (P : PH) (x0 : Nat) (h_x0 : ok x0 6 0) (r : PH) (hf : f_X8_takeNumber_J73 P x0 = some r) : Wz x E 2 (QV E x r) P 73 [(0, .ref (ad E x0))] [] := by
  unfold f_X8_takeNumber_J73 at hf
  refine z_aload_n S 0 dX8_takeNumber_73 rfl rfl ?_
  refine z_getR (K' := 9) (n' := 200) S cf_6 h_x0 0 (by decide) rfl rfl rfl wd67 dX8_takeNumber_74 (fun h1 => ?_)
  refine z_aload_n S 0 dX8_takeNumber_77 rfl rfl ?_
  refine z_getI S cf_6 h_x0 3 (by decide) rfl wd73 dX8_takeNumber_78 ?_
  refine z_iald S h1 dX8_takeNumber_81 hf (fun hf => ?_)
  refine z_bipush (v := 48) S dX8_takeNumber_82 (by decide) ?_
  refine z_icmp_ne (tgt := 104) S dX8_takeNumber_84 (by decide) hf (fun hf => ?_) (fun hf => ?_)
  · refine z_aload_n S 0 dX8_takeNumber_87 rfl rfl ?_
    refine z_getI S cf_6 h_x0 5 (by decide) rfl wd76 dX8_takeNumber_88 ?_
    refine z_aload_n S 0 dX8_takeNumber_91 rfl rfl ?_
    refine z_getI S cf_6 h_x0 3 (by decide) rfl wd73 dX8_takeNumber_92 ?_
    refine z_iconst (v := 1) S dX8_takeNumber_95 (by decide) ?_
    refine z_iadd S dX8_takeNumber_96 ?_
    refine z_icmp_le (tgt := 104) S dX8_takeNumber_97 (by decide) hf (fun hf => ?_) (fun hf => ?_)
    · exact w_X8_takeNumber_J104 S M P x0 h_x0 r hf
    · refine z_iconst (v := 1) S dX8_takeNumber_100 (by decide) ?_
      refine z_goto (tgt := 105) S dX8_takeNumber_101 (by decide) ?_
      exact w_X8_takeNumber_J105 S M P x0 true h_x0 r hf
  · exact w_X8_takeNumber_J104 S M P x0 h_x0 r hf
def f_X8_takeNumber_L5 (K : PH → Option PH) (x0 : Nat) : Nat → PH → Option PH
  | 0, _ => none
  | n + 1, P =>
    (if (P.1 x0 1) ≤ (P.1 x0 5) then K P else ((f_X8_isDigitAt P x0 (P.1 x0 5)).bind fun q2 => (if (b2i q2) = 0 then K P else (if (99 : Int32) < (P.1 x0 4) then f_X8_takeNumber_L5 K x0 n (sI P x0 5 ((P.1 x0 5) + (1 : Int32))) else (if ((P.1 x0 5) < 0 ∨ 200 ≤ (P.1 x0 5).toNatClampNeg) then none else ((some (sI P x0 4 ((((P.1 x0 4) * (10 : Int32)) + (P.1 (P.2.2 x0 0) (P.1 x0 5).toNatClampNeg)) - (48 : Int32)))).bind fun P4 => f_X8_takeNumber_L5 K x0 n (sI P4 x0 5 ((P4.1 x0 5) + (1 : Int32)))))))))
theorem w_X8_takeNumber_L5 {x : Fx} {E : Ev} (S : ZS x E r_X8_takeNumber cX8_takeNumber 2 RX8 none) (M : ZM x E) {K : PH → Option PH} (x0 : Nat) (h_x0 : ok x0 6 0) (r : PH) (hK : ∀ (P1 : PH) , K P1 = some r → Wz x E 2 (QV E x r) P1 73 [(0, .ref (ad E x0))] []) : ∀ (n : Nat) (P : PH), f_X8_takeNumber_L5 K x0 n P = some r → Wz x E 2 (QV E x r) P 5 [(0, .ref (ad E x0))] [] := by
  intro n
  induction n with
  | zero => intro P hf; cases hf
  | succ n ih =>
    intro P hf
    unfold f_X8_takeNumber_L5 at hf
    refine z_aload_n S 0 dX8_takeNumber_5 rfl rfl ?_
    refine z_getI S cf_6 h_x0 5 (by decide) rfl wd76 dX8_takeNumber_6 ?_
    refine z_aload_n S 0 dX8_takeNumber_9 rfl rfl ?_
    refine z_getI S cf_6 h_x0 1 (by decide) rfl wd68 dX8_takeNumber_10 ?_
    refine z_icmp_ge (tgt := 73) S dX8_takeNumber_13 (by decide) hf (fun hf => ?_) (fun hf => ?_)
    · exact hK P hf
    · refine z_aload_n S 0 dX8_takeNumber_16 rfl rfl ?_
      refine z_aload_n S 0 dX8_takeNumber_17 rfl rfl ?_
      refine z_getI S cf_6 h_x0 5 (by decide) rfl wd76 dX8_takeNumber_18 ?_
      refine z_callVI (rc := r_X8_isDigitAt) [.int (P.1 x0 5)] S mo_X8_isDigitAt wd310 wd0 wd308 h_x0 (by decide) cl_6 rfl rfl (by decide) (z_room0 S M (by rfl) (by rfl)) rfl (by decide) rfl dX8_takeNumber_21 (fun q => b2i q) (fun _ => P) (fun q hq => m_X8_isDigitAt (xl x) E _ _ _ h_x0 q hq) hf (fun q2 hf => ?_)
      refine z_if_eq (tgt := 73) S dX8_takeNumber_24 (by decide) hf (fun hf => ?_) (fun hf => ?_)
      · exact hK P hf
      · refine z_aload_n S 0 dX8_takeNumber_27 rfl rfl ?_
        refine z_getI S cf_6 h_x0 4 (by decide) rfl wd75 dX8_takeNumber_28 ?_
        refine z_bipush (v := 99) S dX8_takeNumber_31 (by decide) ?_
        refine z_icmp_gt (tgt := 60) S dX8_takeNumber_33 (by decide) hf (fun hf => ?_) (fun hf => ?_)
        · refine z_aload_n S 0 dX8_takeNumber_60 rfl rfl ?_
          refine z_dup S dX8_takeNumber_61 rfl ?_
          refine z_getI S cf_6 h_x0 5 (by decide) rfl wd76 dX8_takeNumber_62 ?_
          refine z_iconst (v := 1) S dX8_takeNumber_65 (by decide) ?_
          refine z_iadd S dX8_takeNumber_66 ?_
          refine z_putI S cf_6 h_x0 5 (by decide) rfl rfl rfl rfl wd76 dX8_takeNumber_67 ?_
          refine z_goto (tgt := 5) S dX8_takeNumber_70 (by decide) ?_
          exact ih (sI P x0 5 ((P.1 x0 5) + (1 : Int32))) hf
        · refine z_aload_n S 0 dX8_takeNumber_36 rfl rfl ?_
          refine z_aload_n S 0 dX8_takeNumber_37 rfl rfl ?_
          refine z_getI S cf_6 h_x0 4 (by decide) rfl wd75 dX8_takeNumber_38 ?_
          refine z_bipush (v := 10) S dX8_takeNumber_41 (by decide) ?_
          refine z_imul S dX8_takeNumber_43 ?_
          refine z_aload_n S 0 dX8_takeNumber_44 rfl rfl ?_
          refine z_getR (K' := 9) (n' := 200) S cf_6 h_x0 0 (by decide) rfl rfl rfl wd67 dX8_takeNumber_45 (fun h3 => ?_)
          refine z_aload_n S 0 dX8_takeNumber_48 rfl rfl ?_
          refine z_getI S cf_6 h_x0 5 (by decide) rfl wd76 dX8_takeNumber_49 ?_
          refine z_iald S h3 dX8_takeNumber_52 hf (fun hf => ?_)
          refine z_iadd S dX8_takeNumber_53 ?_
          refine z_bipush (v := 48) S dX8_takeNumber_54 (by decide) ?_
          refine z_isub S dX8_takeNumber_56 ?_
          refine z_putI S cf_6 h_x0 4 (by decide) rfl rfl rfl rfl wd75 dX8_takeNumber_57 ?_
          refine z_nmP hf (fun P4 hf => ?_)
          refine z_aload_n S 0 dX8_takeNumber_60 rfl rfl ?_
          refine z_dup S dX8_takeNumber_61 rfl ?_
          refine z_getI S cf_6 h_x0 5 (by decide) rfl wd76 dX8_takeNumber_62 ?_
          refine z_iconst (v := 1) S dX8_takeNumber_65 (by decide) ?_
          refine z_iadd S dX8_takeNumber_66 ?_
          refine z_putI S cf_6 h_x0 5 (by decide) rfl rfl rfl rfl wd76 dX8_takeNumber_67 ?_
          refine z_goto (tgt := 5) S dX8_takeNumber_70 (by decide) ?_
          exact ih (sI P4 x0 5 ((P4.1 x0 5) + (1 : Int32))) hf
def f_X8_takeNumber (P : PH) (x0 : Nat) : Option PH :=
  f_X8_takeNumber_L5 (fun P5 => f_X8_takeNumber_J73 P5 x0) x0 1000 (sI P x0 4 (0 : Int32))
theorem w_X8_takeNumber {x : Fx} {E : Ev} (S : ZS x E r_X8_takeNumber cX8_takeNumber 2 RX8 none) (M : ZM x E) (P : PH) (x0 : Nat) (h_x0 : ok x0 6 0) (r : PH) (hf : f_X8_takeNumber P x0 = some r) : Wz x E 2 (QV E x r) P 0 [(0, .ref (ad E x0))] [] := by
  unfold f_X8_takeNumber at hf
  refine z_aload_n S 0 dX8_takeNumber_0 rfl rfl ?_
  refine z_iconst (v := 0) S dX8_takeNumber_1 (by decide) ?_
  refine z_putI S cf_6 h_x0 4 (by decide) rfl rfl rfl rfl wd75 dX8_takeNumber_2 ?_
  refine w_X8_takeNumber_L5 S M x0 h_x0 r (fun P5 hf => ?_) 1000 (sI P x0 4 (0 : Int32)) hf
  exact w_X8_takeNumber_J73 S M P5 x0 h_x0 r hf
theorem m_X8_takeNumber (l : Launch) (E : Ev) (P : PH) (x0 : Nat) (h_x0 : ok x0 6 0) (r : PH) (hf : f_X8_takeNumber P x0 = some r) : CtV l E yX8_takeNumber cX8_takeNumber 2 none r_X8_takeNumber [.ref (ad E x0)] P r :=
  z_body (own := RX8) (by decide +kernel) rfl (Nat.le_of_ble_eq_true rfl) rfl (fun x _ S M => w_X8_takeNumber S M P x0 h_x0 r hf)
-- yX8_next
theorem dX8_next_0 : decode cX8_next 0 = .ok (.aload_n 0, 1) := by decide +kernel
theorem dX8_next_1 : decode cX8_next 1 = .ok (.getfield 19, 3) := by decide +kernel
theorem dX8_next_4 : decode cX8_next 4 = .ok (.aload_n 0, 1) := by decide +kernel
theorem dX8_next_5 : decode cX8_next 5 = .ok (.getfield 15, 3) := by decide +kernel
theorem dX8_next_8 : decode cX8_next 8 = .ok (.if_icmp .ge 30, 3) := by decide +kernel
theorem dX8_next_11 : decode cX8_next 11 = .ok (.aload_n 0, 1) := by decide +kernel
theorem dX8_next_12 : decode cX8_next 12 = .ok (.getfield 9, 3) := by decide +kernel
theorem dX8_next_15 : decode cX8_next 15 = .ok (.aload_n 0, 1) := by decide +kernel
theorem dX8_next_16 : decode cX8_next 16 = .ok (.getfield 19, 3) := by decide +kernel
theorem dX8_next_19 : decode cX8_next 19 = .ok (.iaload, 1) := by decide +kernel
theorem dX8_next_20 : decode cX8_next 20 = .ok (.bipush 32, 2) := by decide +kernel
theorem dX8_next_22 : decode cX8_next 22 = .ok (.if_icmp .ne 16, 3) := by decide +kernel
theorem dX8_next_25 : decode cX8_next 25 = .ok (.aload_n 0, 1) := by decide +kernel
theorem dX8_next_26 : decode cX8_next 26 = .ok (.dup, 1) := by decide +kernel
theorem dX8_next_27 : decode cX8_next 27 = .ok (.getfield 19, 3) := by decide +kernel
theorem dX8_next_30 : decode cX8_next 30 = .ok (.iconst 1, 1) := by decide +kernel
theorem dX8_next_31 : decode cX8_next 31 = .ok (.iadd, 1) := by decide +kernel
theorem dX8_next_32 : decode cX8_next 32 = .ok (.putfield 19, 3) := by decide +kernel
theorem dX8_next_35 : decode cX8_next 35 = .ok (.goto (-35), 3) := by decide +kernel
theorem dX8_next_38 : decode cX8_next 38 = .ok (.aload_n 0, 1) := by decide +kernel
theorem dX8_next_39 : decode cX8_next 39 = .ok (.aload_n 0, 1) := by decide +kernel
theorem dX8_next_40 : decode cX8_next 40 = .ok (.getfield 19, 3) := by decide +kernel
theorem dX8_next_43 : decode cX8_next 43 = .ok (.putfield 22, 3) := by decide +kernel
theorem dX8_next_46 : decode cX8_next 46 = .ok (.aload_n 0, 1) := by decide +kernel
theorem dX8_next_47 : decode cX8_next 47 = .ok (.getfield 19, 3) := by decide +kernel
theorem dX8_next_50 : decode cX8_next 50 = .ok (.aload_n 0, 1) := by decide +kernel
theorem dX8_next_51 : decode cX8_next 51 = .ok (.getfield 15, 3) := by decide +kernel
theorem dX8_next_54 : decode cX8_next 54 = .ok (.if_icmp .lt 11, 3) := by decide +kernel
theorem dX8_next_57 : decode cX8_next 57 = .ok (.aload_n 0, 1) := by decide +kernel
theorem dX8_next_58 : decode cX8_next 58 = .ok (.iconst 0, 1) := by decide +kernel
theorem dX8_next_59 : decode cX8_next 59 = .ok (.putfield 25, 3) := by decide +kernel
theorem dX8_next_62 : decode cX8_next 62 = .ok (.goto 49, 3) := by decide +kernel
theorem dX8_next_65 : decode cX8_next 65 = .ok (.aload_n 0, 1) := by decide +kernel
theorem dX8_next_66 : decode cX8_next 66 = .ok (.aload_n 0, 1) := by decide +kernel
theorem dX8_next_67 : decode cX8_next 67 = .ok (.getfield 19, 3) := by decide +kernel
theorem dX8_next_70 : decode cX8_next 70 = .ok (.invokevirtual 28, 3) := by decide +kernel
theorem dX8_next_73 : decode cX8_next 73 = .ok (.ifCond .eq 10, 3) := by decide +kernel
theorem dX8_next_76 : decode cX8_next 76 = .ok (.aload_n 0, 1) := by decide +kernel
theorem dX8_next_77 : decode cX8_next 77 = .ok (.invokevirtual 32, 3) := by decide +kernel
theorem dX8_next_80 : decode cX8_next 80 = .ok (.goto 31, 3) := by decide +kernel
theorem dX8_next_83 : decode cX8_next 83 = .ok (.aload_n 0, 1) := by decide +kernel
theorem dX8_next_84 : decode cX8_next 84 = .ok (.iconst 1, 1) := by decide +kernel
theorem dX8_next_85 : decode cX8_next 85 = .ok (.putfield 25, 3) := by decide +kernel
theorem dX8_next_88 : decode cX8_next 88 = .ok (.aload_n 0, 1) := by decide +kernel
theorem dX8_next_89 : decode cX8_next 89 = .ok (.aload_n 0, 1) := by decide +kernel
theorem dX8_next_90 : decode cX8_next 90 = .ok (.getfield 9, 3) := by decide +kernel
theorem dX8_next_93 : decode cX8_next 93 = .ok (.aload_n 0, 1) := by decide +kernel
theorem dX8_next_94 : decode cX8_next 94 = .ok (.getfield 19, 3) := by decide +kernel
theorem dX8_next_97 : decode cX8_next 97 = .ok (.iaload, 1) := by decide +kernel
theorem dX8_next_98 : decode cX8_next 98 = .ok (.putfield 35, 3) := by decide +kernel
theorem dX8_next_101 : decode cX8_next 101 = .ok (.aload_n 0, 1) := by decide +kernel
theorem dX8_next_102 : decode cX8_next 102 = .ok (.dup, 1) := by decide +kernel
theorem dX8_next_103 : decode cX8_next 103 = .ok (.getfield 19, 3) := by decide +kernel
theorem dX8_next_106 : decode cX8_next 106 = .ok (.iconst 1, 1) := by decide +kernel
theorem dX8_next_107 : decode cX8_next 107 = .ok (.iadd, 1) := by decide +kernel
theorem dX8_next_108 : decode cX8_next 108 = .ok (.putfield 19, 3) := by decide +kernel
theorem dX8_next_111 : decode cX8_next 111 = .ok (.return_, 1) := by decide +kernel
def r_X8_next : Room := { frames := 2, cells := 0, slots := 0, locals := 42 }
def f_X8_next_J38 (P : PH) (x0 : Nat) : Option PH :=
  (if ((sI P x0 3 (P.1 x0 5)).1 x0 5) < ((sI P x0 3 (P.1 x0 5)).1 x0 1) then ((f_X8_isDigitAt (sI P x0 3 (P.1 x0 5)) x0 ((sI P x0 3 (P.1 x0 5)).1 x0 5)).bind fun q1 => (if (b2i q1) = 0 then ((some (sI (sI P x0 3 (P.1 x0 5)) x0 2 (1 : Int32))).bind fun P2 => (if ((P2.1 x0 5) < 0 ∨ 200 ≤ (P2.1 x0 5).toNatClampNeg) then none else ((some (sI P2 x0 4 (P2.1 (P2.2.2 x0 0) (P2.1 x0 5).toNatClampNeg))).bind fun P4 => some (sI P4 x0 5 ((P4.1 x0 5) + (1 : Int32)))))) else ((f_X8_takeNumber (sI P x0 3 (P.1 x0 5)) x0).bind fun q5 => some q5))) else ((some (sI (sI P x0 3 (P.1 x0 5)) x0 2 (0 : Int32))).bind fun P6 => some P6))
theorem w_X8_next_J38 {x : Fx} {E : Ev} (S : ZS x E r_X8_next cX8_next 1 RX8 none) (M : ZM x E) (P : PH) (x0 : Nat) (h_x0 : ok x0 6 0) (r : PH) (hf : f_X8_next_J38 P x0 = some r) : Wz x E 1 (QV E x r) P 38 [(0, .ref (ad E x0))] [] := by
  unfold f_X8_next_J38 at hf
  refine z_aload_n S 0 dX8_next_38 rfl rfl ?_
  refine z_aload_n S 0 dX8_next_39 rfl rfl ?_
  refine z_getI S cf_6 h_x0 5 (by decide) rfl wd76 dX8_next_40 ?_
  refine z_putI S cf_6 h_x0 3 (by decide) rfl rfl rfl rfl wd73 dX8_next_43 ?_
  refine z_aload_n S 0 dX8_next_46 rfl rfl ?_
  refine z_getI S cf_6 h_x0 5 (by decide) rfl wd76 dX8_next_47 ?_
  refine z_aload_n S 0 dX8_next_50 rfl rfl ?_
  refine z_getI S cf_6 h_x0 1 (by decide) rfl wd68 dX8_next_51 ?_
  refine z_icmp_lt (tgt := 65) S dX8_next_54 (by decide) hf (fun hf => ?_) (fun hf => ?_)
  · refine z_aload_n S 0 dX8_next_65 rfl rfl ?_
    refine z_aload_n S 0 dX8_next_66 rfl rfl ?_
    refine z_getI S cf_6 h_x0 5 (by decide) rfl wd76 dX8_next_67 ?_
    refine z_callVI (rc := r_X8_isDigitAt) [.int ((sI P x0 3 (P.1 x0 5)).1 x0 5)] S mo_X8_isDigitAt wd310 wd0 wd308 h_x0 (by decide) cl_6 rfl rfl (by decide) (z_room0 S M (by rfl) (by rfl)) rfl (by decide) rfl dX8_next_70 (fun q => b2i q) (fun _ => (sI P x0 3 (P.1 x0 5))) (fun q hq => m_X8_isDigitAt (xl x) E _ _ _ h_x0 q hq) hf (fun q1 hf => ?_)
    refine z_if_eq (tgt := 83) S dX8_next_73 (by decide) hf (fun hf => ?_) (fun hf => ?_)
    · refine z_aload_n S 0 dX8_next_83 rfl rfl ?_
      refine z_iconst (v := 1) S dX8_next_84 (by decide) ?_
      refine z_putI S cf_6 h_x0 2 (by decide) rfl rfl rfl rfl wd71 dX8_next_85 ?_
      refine z_nmP hf (fun P2 hf => ?_)
      refine z_aload_n S 0 dX8_next_88 rfl rfl ?_
      refine z_aload_n S 0 dX8_next_89 rfl rfl ?_
      refine z_getR (K' := 9) (n' := 200) S cf_6 h_x0 0 (by decide) rfl rfl rfl wd67 dX8_next_90 (fun h3 => ?_)
      refine z_aload_n S 0 dX8_next_93 rfl rfl ?_
      refine z_getI S cf_6 h_x0 5 (by decide) rfl wd76 dX8_next_94 ?_
      refine z_iald S h3 dX8_next_97 hf (fun hf => ?_)
      refine z_putI S cf_6 h_x0 4 (by decide) rfl rfl rfl rfl wd75 dX8_next_98 ?_
      refine z_nmP hf (fun P4 hf => ?_)
      refine z_aload_n S 0 dX8_next_101 rfl rfl ?_
      refine z_dup S dX8_next_102 rfl ?_
      refine z_getI S cf_6 h_x0 5 (by decide) rfl wd76 dX8_next_103 ?_
      refine z_iconst (v := 1) S dX8_next_106 (by decide) ?_
      refine z_iadd S dX8_next_107 ?_
      refine z_putI S cf_6 h_x0 5 (by decide) rfl rfl rfl rfl wd76 dX8_next_108 ?_
      exact z_vretI S M rfl dX8_next_111 hf
    · refine z_aload_n S 0 dX8_next_76 rfl rfl ?_
      refine z_callVV (rc := r_X8_takeNumber) [] S mo_X8_takeNumber wd314 wd1 wd312 h_x0 (by decide) cl_6 rfl rfl (by decide) (z_room0 S M (by rfl) (by rfl)) rfl (by decide) rfl dX8_next_77  (fun q => q) (fun q hq => m_X8_takeNumber (xl x) E _ _ h_x0 q hq) hf (fun q5 hf => ?_)
      refine z_goto (tgt := 111) S dX8_next_80 (by decide) ?_
      exact z_vretI S M rfl dX8_next_111 hf
  · refine z_aload_n S 0 dX8_next_57 rfl rfl ?_
    refine z_iconst (v := 0) S dX8_next_58 (by decide) ?_
    refine z_putI S cf_6 h_x0 2 (by decide) rfl rfl rfl rfl wd71 dX8_next_59 ?_
    refine z_nmP hf (fun P6 hf => ?_)
    refine z_goto (tgt := 111) S dX8_next_62 (by decide) ?_
    exact z_vretI S M rfl dX8_next_111 hf
def f_X8_next_L0 (K : PH → Option PH) (x0 : Nat) : Nat → PH → Option PH
  | 0, _ => none
  | n + 1, P =>
    (if (P.1 x0 1) ≤ (P.1 x0 5) then K P else (if ((P.1 x0 5) < 0 ∨ 200 ≤ (P.1 x0 5).toNatClampNeg) then none else (if (P.1 (P.2.2 x0 0) (P.1 x0 5).toNatClampNeg) = (32 : Int32) then f_X8_next_L0 K x0 n (sI P x0 5 ((P.1 x0 5) + (1 : Int32))) else K P)))
theorem w_X8_next_L0 {x : Fx} {E : Ev} (S : ZS x E r_X8_next cX8_next 1 RX8 none) (M : ZM x E) {K : PH → Option PH} (x0 : Nat) (h_x0 : ok x0 6 0) (r : PH) (hK : ∀ (P1 : PH) , K P1 = some r → Wz x E 1 (QV E x r) P1 38 [(0, .ref (ad E x0))] []) : ∀ (n : Nat) (P : PH), f_X8_next_L0 K x0 n P = some r → Wz x E 1 (QV E x r) P 0 [(0, .ref (ad E x0))] [] := by
  intro n
  induction n with
  | zero => intro P hf; cases hf
  | succ n ih =>
    intro P hf
    unfold f_X8_next_L0 at hf
    refine z_aload_n S 0 dX8_next_0 rfl rfl ?_
    refine z_getI S cf_6 h_x0 5 (by decide) rfl wd76 dX8_next_1 ?_
    refine z_aload_n S 0 dX8_next_4 rfl rfl ?_
    refine z_getI S cf_6 h_x0 1 (by decide) rfl wd68 dX8_next_5 ?_
    refine z_icmp_ge (tgt := 38) S dX8_next_8 (by decide) hf (fun hf => ?_) (fun hf => ?_)
    · exact hK P hf
    · refine z_aload_n S 0 dX8_next_11 rfl rfl ?_
      refine z_getR (K' := 9) (n' := 200) S cf_6 h_x0 0 (by decide) rfl rfl rfl wd67 dX8_next_12 (fun h7 => ?_)
      refine z_aload_n S 0 dX8_next_15 rfl rfl ?_
      refine z_getI S cf_6 h_x0 5 (by decide) rfl wd76 dX8_next_16 ?_
      refine z_iald S h7 dX8_next_19 hf (fun hf => ?_)
      refine z_bipush (v := 32) S dX8_next_20 (by decide) ?_
      refine z_icmp_ne (tgt := 38) S dX8_next_22 (by decide) hf (fun hf => ?_) (fun hf => ?_)
      · refine z_aload_n S 0 dX8_next_25 rfl rfl ?_
        refine z_dup S dX8_next_26 rfl ?_
        refine z_getI S cf_6 h_x0 5 (by decide) rfl wd76 dX8_next_27 ?_
        refine z_iconst (v := 1) S dX8_next_30 (by decide) ?_
        refine z_iadd S dX8_next_31 ?_
        refine z_putI S cf_6 h_x0 5 (by decide) rfl rfl rfl rfl wd76 dX8_next_32 ?_
        refine z_goto (tgt := 0) S dX8_next_35 (by decide) ?_
        exact ih (sI P x0 5 ((P.1 x0 5) + (1 : Int32))) hf
      · exact hK P hf
def f_X8_next (P : PH) (x0 : Nat) : Option PH :=
  f_X8_next_L0 (fun P8 => f_X8_next_J38 P8 x0) x0 1000 P
theorem w_X8_next {x : Fx} {E : Ev} (S : ZS x E r_X8_next cX8_next 1 RX8 none) (M : ZM x E) (P : PH) (x0 : Nat) (h_x0 : ok x0 6 0) (r : PH) (hf : f_X8_next P x0 = some r) : Wz x E 1 (QV E x r) P 0 [(0, .ref (ad E x0))] [] := by
  unfold f_X8_next at hf
  refine w_X8_next_L0 S M x0 h_x0 r (fun P8 hf => ?_) 1000 P hf
  exact w_X8_next_J38 S M P8 x0 h_x0 r hf
theorem m_X8_next (l : Launch) (E : Ev) (P : PH) (x0 : Nat) (h_x0 : ok x0 6 0) (r : PH) (hf : f_X8_next P x0 = some r) : CtV l E yX8_next cX8_next 1 none r_X8_next [.ref (ad E x0)] P r :=
  z_body (own := RX8) (by decide +kernel) rfl (Nat.le_of_ble_eq_true rfl) rfl (fun x _ S M => w_X8_next S M P x0 h_x0 r hf)
-- yX8_add
theorem dX8_add_0 : decode cX8_add 0 = .ok (.aload_n 0, 1) := by decide +kernel
theorem dX8_add_1 : decode cX8_add 1 = .ok (.getfield 15, 3) := by decide +kernel
theorem dX8_add_4 : decode cX8_add 4 = .ok (.sipush 200, 3) := by decide +kernel
theorem dX8_add_7 : decode cX8_add 7 = .ok (.if_icmp .lt 5, 3) := by decide +kernel
theorem dX8_add_10 : decode cX8_add 10 = .ok (.iconst 0, 1) := by decide +kernel
theorem dX8_add_11 : decode cX8_add 11 = .ok (.ireturn, 1) := by decide +kernel
theorem dX8_add_12 : decode cX8_add 12 = .ok (.aload_n 0, 1) := by decide +kernel
theorem dX8_add_13 : decode cX8_add 13 = .ok (.getfield 9, 3) := by decide +kernel
theorem dX8_add_16 : decode cX8_add 16 = .ok (.aload_n 0, 1) := by decide +kernel
theorem dX8_add_17 : decode cX8_add 17 = .ok (.getfield 15, 3) := by decide +kernel
theorem dX8_add_20 : decode cX8_add 20 = .ok (.iload_n 1, 1) := by decide +kernel
theorem dX8_add_21 : decode cX8_add 21 = .ok (.iastore, 1) := by decide +kernel
theorem dX8_add_22 : decode cX8_add 22 = .ok (.aload_n 0, 1) := by decide +kernel
theorem dX8_add_23 : decode cX8_add 23 = .ok (.dup, 1) := by decide +kernel
theorem dX8_add_24 : decode cX8_add 24 = .ok (.getfield 15, 3) := by decide +kernel
theorem dX8_add_27 : decode cX8_add 27 = .ok (.iconst 1, 1) := by decide +kernel
theorem dX8_add_28 : decode cX8_add 28 = .ok (.iadd, 1) := by decide +kernel
theorem dX8_add_29 : decode cX8_add 29 = .ok (.putfield 15, 3) := by decide +kernel
theorem dX8_add_32 : decode cX8_add 32 = .ok (.iconst 1, 1) := by decide +kernel
theorem dX8_add_33 : decode cX8_add 33 = .ok (.ireturn, 1) := by decide +kernel
def r_X8_add : Room := { frames := 0, cells := 0, slots := 0, locals := 0 }
def f_X8_add (P : PH) (x0 : Nat) (x1 : Int32) : Option (Bool × PH) :=
  (if (P.1 x0 1) < (200 : Int32) then (if ((P.1 x0 1) < 0 ∨ 200 ≤ (P.1 x0 1).toNatClampNeg) then none else ((some (sI P (P.2.2 x0 0) (P.1 x0 1).toNatClampNeg x1)).bind fun P2 => some (true, (sI P2 x0 1 ((P2.1 x0 1) + (1 : Int32)))))) else some (false, P))
theorem w_X8_add {x : Fx} {E : Ev} (S : ZS x E r_X8_add cX8_add 2 RX8 (some .boolean)) (M : ZM x E) (P : PH) (x0 : Nat) (x1 : Int32) (h_x0 : ok x0 6 0) (r : (Bool × PH)) (hf : f_X8_add P x0 x1 = some r) : Wz x E 2 (QI E x (b2i r.1) r.2) P 0 [(0, .ref (ad E x0)), (1, .int x1)] [] := by
  unfold f_X8_add at hf
  refine z_aload_n S 0 dX8_add_0 rfl rfl ?_
  refine z_getI S cf_6 h_x0 1 (by decide) rfl wd68 dX8_add_1 ?_
  refine z_sipush (v := 200) S dX8_add_4 (by decide) ?_
  refine z_icmp_lt (tgt := 12) S dX8_add_7 (by decide) hf (fun hf => ?_) (fun hf => ?_)
  · refine z_aload_n S 0 dX8_add_12 rfl rfl ?_
    refine z_getR (K' := 9) (n' := 200) S cf_6 h_x0 0 (by decide) rfl rfl rfl wd67 dX8_add_13 (fun h1 => ?_)
    refine z_aload_n S 0 dX8_add_16 rfl rfl ?_
    refine z_getI S cf_6 h_x0 1 (by decide) rfl wd68 dX8_add_17 ?_
    refine z_iload_n S 1 dX8_add_20 rfl rfl ?_
    refine z_iast S h1 dX8_add_21 hf (fun hf => ?_)
    refine z_nmP hf (fun P2 hf => ?_)
    refine z_aload_n S 0 dX8_add_22 rfl rfl ?_
    refine z_dup S dX8_add_23 rfl ?_
    refine z_getI S cf_6 h_x0 1 (by decide) rfl wd68 dX8_add_24 ?_
    refine z_iconst (v := 1) S dX8_add_27 (by decide) ?_
    refine z_iadd S dX8_add_28 ?_
    refine z_putI S cf_6 h_x0 1 (by decide) rfl rfl rfl rfl wd68 dX8_add_29 ?_
    refine z_iconst (v := 1) S dX8_add_32 (by decide) ?_
    exact z_zretI (v := true) S M rfl dX8_add_33 hf
  · refine z_iconst (v := 0) S dX8_add_10 (by decide) ?_
    exact z_zretI (v := false) S M rfl dX8_add_11 hf
theorem m_X8_add (l : Launch) (E : Ev) (P : PH) (x0 : Nat) (x1 : Int32) (h_x0 : ok x0 6 0) (r : (Bool × PH)) (hf : f_X8_add P x0 x1 = some r) : CtI l E yX8_add cX8_add 2 (some .boolean) r_X8_add [.ref (ad E x0), .int x1] P (b2i r.1) r.2 :=
  z_body (own := RX8) (by decide +kernel) rfl (Nat.le_of_ble_eq_true rfl) rfl (fun x _ S M => w_X8_add S M P x0 x1 h_x0 r hf)
end
