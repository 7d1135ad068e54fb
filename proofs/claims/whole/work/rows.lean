section
-- ===== PART A: goes FIRST, ahead of the names: the tables' words, and 'selects' of the private methods out of them =====
/-- a private method of a class that the tables say can be made, by its rows of tables_1 -/
def lw_okq (q : MethodName × Nat) : Prop := (q.1.cls ≠ "java/lang/invoke/MethodHandle" ∧ q.1.cls ≠ "java/lang/invoke/VarHandle") ∧ Cond.instantiable q.1.cls q.2 ∈ tables_1 ∧ Cond.privateMethod q.1 ∈ tables_1 ∧ Cond.instanceMethod q.1 ∈ tables_1
theorem lw_p0 : lw_okq (⟨"GhostRooms$Text", "isDigitAt", "(I)Z"⟩, 6) := ⟨⟨by decide +kernel, by decide +kernel⟩, List.mem_of_getElem? (i := 29) (by decide +kernel), List.mem_of_getElem? (i := 276) (by decide +kernel), List.mem_of_getElem? (i := 277) (by decide +kernel)⟩
theorem lw_p1 : lw_okq (⟨"GhostRooms$Text", "takeNumber", "()V"⟩, 6) := ⟨⟨by decide +kernel, by decide +kernel⟩, List.mem_of_getElem? (i := 29) (by decide +kernel), List.mem_of_getElem? (i := 280) (by decide +kernel), List.mem_of_getElem? (i := 281) (by decide +kernel)⟩
theorem lw_p2 : lw_okq (⟨"GhostRooms$Reader", "readItem", "(LGhostRooms$House;)Z"⟩, 2) := ⟨⟨by decide +kernel, by decide +kernel⟩, List.mem_of_getElem? (i := 23) (by decide +kernel), List.mem_of_getElem? (i := 284) (by decide +kernel), List.mem_of_getElem? (i := 285) (by decide +kernel)⟩
theorem lw_p3 : lw_okq (⟨"GhostRooms$Reader", "fits", "(IIILGhostRooms$House;)Z"⟩, 2) := ⟨⟨by decide +kernel, by decide +kernel⟩, List.mem_of_getElem? (i := 23) (by decide +kernel), List.mem_of_getElem? (i := 294) (by decide +kernel), List.mem_of_getElem? (i := 295) (by decide +kernel)⟩
theorem lw_p4 : lw_okq (⟨"GhostRooms$Reader", "tell", "(ILGhostRooms$House;)V"⟩, 2) := ⟨⟨by decide +kernel, by decide +kernel⟩, List.mem_of_getElem? (i := 23) (by decide +kernel), List.mem_of_getElem? (i := 309) (by decide +kernel), List.mem_of_getElem? (i := 310) (by decide +kernel)⟩
theorem lw_p5 : lw_okq (⟨"GhostRooms$Deeds", "loseOldest", "()V"⟩, 4) := ⟨⟨by decide +kernel, by decide +kernel⟩, List.mem_of_getElem? (i := 67) (by decide +kernel), List.mem_of_getElem? (i := 411) (by decide +kernel), List.mem_of_getElem? (i := 412) (by decide +kernel)⟩
theorem lw_p6 : lw_okq (⟨"GhostRooms", "unlessAlive", "(I)I"⟩, 8) := ⟨⟨by decide +kernel, by decide +kernel⟩, List.mem_of_getElem? (i := 15) (by decide +kernel), List.mem_of_getElem? (i := 467) (by decide +kernel), List.mem_of_getElem? (i := 468) (by decide +kernel)⟩
theorem lw_p7 : lw_okq (⟨"GhostRooms$Seen", "isSo", "(LGhostRooms$House;)Z"⟩, 4) := ⟨⟨by decide +kernel, by decide +kernel⟩, List.mem_of_getElem? (i := 87) (by decide +kernel), List.mem_of_getElem? (i := 529) (by decide +kernel), List.mem_of_getElem? (i := 530) (by decide +kernel)⟩
theorem lw_p8 : lw_okq (⟨"GhostRoomsModel", "next", "()V"⟩, 28) := ⟨⟨by decide +kernel, by decide +kernel⟩, List.mem_of_getElem? (i := 629) (by decide +kernel), List.mem_of_getElem? (i := 736) (by decide +kernel), List.mem_of_getElem? (i := 737) (by decide +kernel)⟩
theorem lw_p9 : lw_okq (⟨"GhostRoomsModel", "letterAt", "(I)I"⟩, 28) := ⟨⟨by decide +kernel, by decide +kernel⟩, List.mem_of_getElem? (i := 629) (by decide +kernel), List.mem_of_getElem? (i := 740) (by decide +kernel), List.mem_of_getElem? (i := 741) (by decide +kernel)⟩
theorem lw_p10 : lw_okq (⟨"GhostRoomsModel", "readItem", "()V"⟩, 28) := ⟨⟨by decide +kernel, by decide +kernel⟩, List.mem_of_getElem? (i := 629) (by decide +kernel), List.mem_of_getElem? (i := 747) (by decide +kernel), List.mem_of_getElem? (i := 748) (by decide +kernel)⟩
theorem lw_p11 : lw_okq (⟨"GhostRoomsModel", "readPerson", "()V"⟩, 28) := ⟨⟨by decide +kernel, by decide +kernel⟩, List.mem_of_getElem? (i := 629) (by decide +kernel), List.mem_of_getElem? (i := 751) (by decide +kernel), List.mem_of_getElem? (i := 752) (by decide +kernel)⟩
theorem lw_p12 : lw_okq (⟨"GhostRoomsModel", "takes", "(IIZ)I"⟩, 28) := ⟨⟨by decide +kernel, by decide +kernel⟩, List.mem_of_getElem? (i := 629) (by decide +kernel), List.mem_of_getElem? (i := 755) (by decide +kernel), List.mem_of_getElem? (i := 756) (by decide +kernel)⟩
theorem lw_p13 : lw_okq (⟨"GhostRoomsModel", "readRoom", "()V"⟩, 28) := ⟨⟨by decide +kernel, by decide +kernel⟩, List.mem_of_getElem? (i := 629) (by decide +kernel), List.mem_of_getElem? (i := 759) (by decide +kernel), List.mem_of_getElem? (i := 760) (by decide +kernel)⟩
theorem lw_p14 : lw_okq (⟨"GhostRoomsModel", "readDoor", "()V"⟩, 28) := ⟨⟨by decide +kernel, by decide +kernel⟩, List.mem_of_getElem? (i := 629) (by decide +kernel), List.mem_of_getElem? (i := 763) (by decide +kernel), List.mem_of_getElem? (i := 764) (by decide +kernel)⟩
theorem lw_p15 : lw_okq (⟨"GhostRoomsModel", "readPlace", "(I)V"⟩, 28) := ⟨⟨by decide +kernel, by decide +kernel⟩, List.mem_of_getElem? (i := 629) (by decide +kernel), List.mem_of_getElem? (i := 767) (by decide +kernel), List.mem_of_getElem? (i := 768) (by decide +kernel)⟩
def lw_privs_1 : List (MethodName × Nat) := [(⟨"GhostRooms$Text", "isDigitAt", "(I)Z"⟩, 6), (⟨"GhostRooms$Text", "takeNumber", "()V"⟩, 6), (⟨"GhostRooms$Reader", "readItem", "(LGhostRooms$House;)Z"⟩, 2), (⟨"GhostRooms$Reader", "fits", "(IIILGhostRooms$House;)Z"⟩, 2), (⟨"GhostRooms$Reader", "tell", "(ILGhostRooms$House;)V"⟩, 2), (⟨"GhostRooms$Deeds", "loseOldest", "()V"⟩, 4), (⟨"GhostRooms", "unlessAlive", "(I)I"⟩, 8), (⟨"GhostRooms$Seen", "isSo", "(LGhostRooms$House;)Z"⟩, 4), (⟨"GhostRoomsModel", "next", "()V"⟩, 28), (⟨"GhostRoomsModel", "letterAt", "(I)I"⟩, 28), (⟨"GhostRoomsModel", "readItem", "()V"⟩, 28), (⟨"GhostRoomsModel", "readPerson", "()V"⟩, 28), (⟨"GhostRoomsModel", "takes", "(IIZ)I"⟩, 28), (⟨"GhostRoomsModel", "readRoom", "()V"⟩, 28), (⟨"GhostRoomsModel", "readDoor", "()V"⟩, 28), (⟨"GhostRoomsModel", "readPlace", "(I)V"⟩, 28)]
theorem lw_r1 : ∀ q ∈ lw_privs_1, lw_okq q := List.forall_mem_cons.mpr ⟨lw_p0, List.forall_mem_cons.mpr ⟨lw_p1, List.forall_mem_cons.mpr ⟨lw_p2, List.forall_mem_cons.mpr ⟨lw_p3, List.forall_mem_cons.mpr ⟨lw_p4, List.forall_mem_cons.mpr ⟨lw_p5, List.forall_mem_cons.mpr ⟨lw_p6, List.forall_mem_cons.mpr ⟨lw_p7, List.forall_mem_cons.mpr ⟨lw_p8, List.forall_mem_cons.mpr ⟨lw_p9, List.forall_mem_cons.mpr ⟨lw_p10, List.forall_mem_cons.mpr ⟨lw_p11, List.forall_mem_cons.mpr ⟨lw_p12, List.forall_mem_cons.mpr ⟨lw_p13, List.forall_mem_cons.mpr ⟨lw_p14, List.forall_mem_cons.mpr ⟨lw_p15, fun _ h => absurd h List.not_mem_nil⟩⟩⟩⟩⟩⟩⟩⟩⟩⟩⟩⟩⟩⟩⟩⟩
theorem lw_p16 : lw_okq (⟨"GhostRoomsModel", "isPerson", "(I)Z"⟩, 28) := ⟨⟨by decide +kernel, by decide +kernel⟩, List.mem_of_getElem? (i := 629) (by decide +kernel), List.mem_of_getElem? (i := 781) (by decide +kernel), List.mem_of_getElem? (i := 782) (by decide +kernel)⟩
theorem lw_p17 : lw_okq (⟨"GhostRoomsModel", "asItIs", "()V"⟩, 28) := ⟨⟨by decide +kernel, by decide +kernel⟩, List.mem_of_getElem? (i := 629) (by decide +kernel), List.mem_of_getElem? (i := 785) (by decide +kernel), List.mem_of_getElem? (i := 786) (by decide +kernel)⟩
theorem lw_p18 : lw_okq (⟨"GhostRoomsModel", "mayIn", "(I)I"⟩, 28) := ⟨⟨by decide +kernel, by decide +kernel⟩, List.mem_of_getElem? (i := 629) (by decide +kernel), List.mem_of_getElem? (i := 789) (by decide +kernel), List.mem_of_getElem? (i := 790) (by decide +kernel)⟩
theorem lw_p19 : lw_okq (⟨"GhostRoomsModel", "mayBe", "(II)Z"⟩, 28) := ⟨⟨by decide +kernel, by decide +kernel⟩, List.mem_of_getElem? (i := 629) (by decide +kernel), List.mem_of_getElem? (i := 793) (by decide +kernel), List.mem_of_getElem? (i := 794) (by decide +kernel)⟩
theorem lw_p20 : lw_okq (⟨"GhostRoomsModel", "isAlive", "(I)Z"⟩, 28) := ⟨⟨by decide +kernel, by decide +kernel⟩, List.mem_of_getElem? (i := 629) (by decide +kernel), List.mem_of_getElem? (i := 797) (by decide +kernel), List.mem_of_getElem? (i := 798) (by decide +kernel)⟩
theorem lw_p21 : lw_okq (⟨"GhostRoomsModel", "ownerOf", "(I)I"⟩, 28) := ⟨⟨by decide +kernel, by decide +kernel⟩, List.mem_of_getElem? (i := 629) (by decide +kernel), List.mem_of_getElem? (i := 804) (by decide +kernel), List.mem_of_getElem? (i := 805) (by decide +kernel)⟩
theorem lw_p22 : lw_okq (⟨"GhostRoomsModel", "goesBy", "(II)I"⟩, 28) := ⟨⟨by decide +kernel, by decide +kernel⟩, List.mem_of_getElem? (i := 629) (by decide +kernel), List.mem_of_getElem? (i := 808) (by decide +kernel), List.mem_of_getElem? (i := 809) (by decide +kernel)⟩
theorem lw_p23 : lw_okq (⟨"GhostRoomsModel", "isCutOff", "(I)Z"⟩, 28) := ⟨⟨by decide +kernel, by decide +kernel⟩, List.mem_of_getElem? (i := 629) (by decide +kernel), List.mem_of_getElem? (i := 812) (by decide +kernel), List.mem_of_getElem? (i := 813) (by decide +kernel)⟩
theorem lw_p24 : lw_okq (⟨"GhostRoomsModel", "isCutOffBy", "(II)Z"⟩, 28) := ⟨⟨by decide +kernel, by decide +kernel⟩, List.mem_of_getElem? (i := 629) (by decide +kernel), List.mem_of_getElem? (i := 816) (by decide +kernel), List.mem_of_getElem? (i := 817) (by decide +kernel)⟩
theorem lw_p25 : lw_okq (⟨"GhostRoomsModel", "isRoom", "(I)Z"⟩, 28) := ⟨⟨by decide +kernel, by decide +kernel⟩, List.mem_of_getElem? (i := 629) (by decide +kernel), List.mem_of_getElem? (i := 824) (by decide +kernel), List.mem_of_getElem? (i := 825) (by decide +kernel)⟩
theorem lw_p26 : lw_okq (⟨"GhostRoomsModel", "whoMay", "(I)I"⟩, 28) := ⟨⟨by decide +kernel, by decide +kernel⟩, List.mem_of_getElem? (i := 629) (by decide +kernel), List.mem_of_getElem? (i := 828) (by decide +kernel), List.mem_of_getElem? (i := 829) (by decide +kernel)⟩
theorem lw_p27 : lw_okq (⟨"GhostRoomsModel", "cutOff", "()I"⟩, 28) := ⟨⟨by decide +kernel, by decide +kernel⟩, List.mem_of_getElem? (i := 629) (by decide +kernel), List.mem_of_getElem? (i := 840) (by decide +kernel), List.mem_of_getElem? (i := 841) (by decide +kernel)⟩
theorem lw_p28 : lw_okq (⟨"GhostRoomsModel", "remembers", "()V"⟩, 28) := ⟨⟨by decide +kernel, by decide +kernel⟩, List.mem_of_getElem? (i := 629) (by decide +kernel), List.mem_of_getElem? (i := 848) (by decide +kernel), List.mem_of_getElem? (i := 849) (by decide +kernel)⟩
theorem lw_p29 : lw_okq (⟨"GhostRoomsModel", "refused", "(IZ)I"⟩, 28) := ⟨⟨by decide +kernel, by decide +kernel⟩, List.mem_of_getElem? (i := 629) (by decide +kernel), List.mem_of_getElem? (i := 886) (by decide +kernel), List.mem_of_getElem? (i := 887) (by decide +kernel)⟩
theorem lw_p30 : lw_okq (⟨"GhostRoomsModel", "roomRate", "(I)I"⟩, 28) := ⟨⟨by decide +kernel, by decide +kernel⟩, List.mem_of_getElem? (i := 629) (by decide +kernel), List.mem_of_getElem? (i := 935) (by decide +kernel), List.mem_of_getElem? (i := 936) (by decide +kernel)⟩
theorem lw_p31 : lw_okq (⟨"GhostRoomsModel", "hallRate", "(I)I"⟩, 28) := ⟨⟨by decide +kernel, by decide +kernel⟩, List.mem_of_getElem? (i := 629) (by decide +kernel), List.mem_of_getElem? (i := 939) (by decide +kernel), List.mem_of_getElem? (i := 940) (by decide +kernel)⟩
def lw_privs_2 : List (MethodName × Nat) := [(⟨"GhostRoomsModel", "isPerson", "(I)Z"⟩, 28), (⟨"GhostRoomsModel", "asItIs", "()V"⟩, 28), (⟨"GhostRoomsModel", "mayIn", "(I)I"⟩, 28), (⟨"GhostRoomsModel", "mayBe", "(II)Z"⟩, 28), (⟨"GhostRoomsModel", "isAlive", "(I)Z"⟩, 28), (⟨"GhostRoomsModel", "ownerOf", "(I)I"⟩, 28), (⟨"GhostRoomsModel", "goesBy", "(II)I"⟩, 28), (⟨"GhostRoomsModel", "isCutOff", "(I)Z"⟩, 28), (⟨"GhostRoomsModel", "isCutOffBy", "(II)Z"⟩, 28), (⟨"GhostRoomsModel", "isRoom", "(I)Z"⟩, 28), (⟨"GhostRoomsModel", "whoMay", "(I)I"⟩, 28), (⟨"GhostRoomsModel", "cutOff", "()I"⟩, 28), (⟨"GhostRoomsModel", "remembers", "()V"⟩, 28), (⟨"GhostRoomsModel", "refused", "(IZ)I"⟩, 28), (⟨"GhostRoomsModel", "roomRate", "(I)I"⟩, 28), (⟨"GhostRoomsModel", "hallRate", "(I)I"⟩, 28)]
theorem lw_r2 : ∀ q ∈ lw_privs_2, lw_okq q := List.forall_mem_cons.mpr ⟨lw_p16, List.forall_mem_cons.mpr ⟨lw_p17, List.forall_mem_cons.mpr ⟨lw_p18, List.forall_mem_cons.mpr ⟨lw_p19, List.forall_mem_cons.mpr ⟨lw_p20, List.forall_mem_cons.mpr ⟨lw_p21, List.forall_mem_cons.mpr ⟨lw_p22, List.forall_mem_cons.mpr ⟨lw_p23, List.forall_mem_cons.mpr ⟨lw_p24, List.forall_mem_cons.mpr ⟨lw_p25, List.forall_mem_cons.mpr ⟨lw_p26, List.forall_mem_cons.mpr ⟨lw_p27, List.forall_mem_cons.mpr ⟨lw_p28, List.forall_mem_cons.mpr ⟨lw_p29, List.forall_mem_cons.mpr ⟨lw_p30, List.forall_mem_cons.mpr ⟨lw_p31, fun _ h => absurd h List.not_mem_nil⟩⟩⟩⟩⟩⟩⟩⟩⟩⟩⟩⟩⟩⟩⟩⟩
theorem lw_p32 : lw_okq (⟨"GhostRoomsModel", "stairRate", "(I)I"⟩, 28) := ⟨⟨by decide +kernel, by decide +kernel⟩, List.mem_of_getElem? (i := 629) (by decide +kernel), List.mem_of_getElem? (i := 944) (by decide +kernel), List.mem_of_getElem? (i := 945) (by decide +kernel)⟩
def lw_privs_3 : List (MethodName × Nat) := [(⟨"GhostRoomsModel", "stairRate", "(I)I"⟩, 28)]
theorem lw_r3 : ∀ q ∈ lw_privs_3, lw_okq q := List.forall_mem_cons.mpr ⟨lw_p32, fun _ h => absurd h List.not_mem_nil⟩
def lw_privs : List (MethodName × Nat) := lw_privs_1 ++ (lw_privs_2 ++ (lw_privs_3))
def lw_tbl : List Cond := k2_sels lw_privs ++ tables_1
theorem lw_privs_ok : ∀ q ∈ lw_privs, lw_okq q := by
  show ∀ q ∈ lw_privs_1 ++ (lw_privs_2 ++ (lw_privs_3)), lw_okq q
  exact List.forall_mem_append.mpr ⟨lw_r1, List.forall_mem_append.mpr ⟨lw_r2, lw_r3⟩⟩
-- names, field tables (printed by program of the class files)
def RX0 : String := "GhostRooms$Deaths"
def TX0 : u_T := fun k => match k with
  | _ => ("", "", "", false)
def tyX0 : Nat → FieldType := fun k => match k with
  | _ => .int
abbrev wsX00 : List Cond := u_ws RX0 TX0 0
theorem nmX0 : ∀ a, a < 0 → ∀ b, b < 0 → a ≠ b → (TX0 a).2.1 ≠ (TX0 b).2.1 := by decide +kernel
theorem tyX0_ok : ∀ k, k < 0 → parseFieldDescriptor (TX0 k).2.2.1 = some (tyX0 k) := by decide +kernel
abbrev cX0_fewestBefore : ByteArray := prog_2_method_2_code
def yX0_fewestBefore : MethodName := ⟨RX0, "fewestBefore", "(LGhostRooms$House;II)I"⟩
abbrev cX0_chance : ByteArray := prog_2_method_3_code
def yX0_chance : MethodName := ⟨RX0, "chance", "(LGhostRooms$House;IIZ)I"⟩
abbrev cX0_othersThan : ByteArray := prog_2_method_4_code
def yX0_othersThan : MethodName := ⟨RX0, "othersThan", "(LGhostRooms$House;I)I"⟩
abbrev cX0_power : ByteArray := prog_2_method_5_code
def yX0_power : MethodName := ⟨RX0, "power", "(II)I"⟩
abbrev cX0_commonDivisor : ByteArray := prog_2_method_6_code
def yX0_commonDivisor : MethodName := ⟨RX0, "commonDivisor", "(II)I"⟩
def RX1 : String := "GhostRooms$Deeds"
def TX1 : u_T := fun k => match k with
  | 0 => ("GhostRooms$Deeds", "size", "I", false)
  | 1 => ("GhostRooms$Deeds", "deeds", "[I", true)
  | 2 => ("GhostRooms$Deeds", "firsts", "[I", true)
  | _ => ("GhostRooms$Deeds", "seconds", "[I", true)
def tyX1 : Nat → FieldType := fun k => match k with
  | 0 => .int
  | 1 => .array .int
  | 2 => .array .int
  | _ => .array .int
abbrev wsX10 : List Cond := u_ws RX1 TX1 4
theorem nmX1 : ∀ a, a < 4 → ∀ b, b < 4 → a ≠ b → (TX1 a).2.1 ≠ (TX1 b).2.1 := by decide +kernel
theorem tyX1_ok : ∀ k, k < 4 → parseFieldDescriptor (TX1 k).2.2.1 = some (tyX1 k) := by decide +kernel
abbrev cX1_init : ByteArray := prog_3_method_1_code
def yX1_init : MethodName := ⟨RX1, "<init>", "()V"⟩
abbrev cX1_add : ByteArray := prog_3_method_2_code
def yX1_add : MethodName := ⟨RX1, "add", "(III)V"⟩
abbrev cX1_loseOldest : ByteArray := prog_3_method_3_code
def yX1_loseOldest : MethodName := ⟨RX1, "loseOldest", "()V"⟩
abbrev cX1_takeBack : ByteArray := prog_3_method_4_code
def yX1_takeBack : MethodName := ⟨RX1, "takeBack", "(LGhostRooms$Now;)V"⟩
def RX2 : String := "GhostRooms$House"
def TX2 : u_T := fun k => match k with
  | 0 => ("GhostRooms$House", "people", "I", false)
  | 1 => ("GhostRooms$House", "rooms", "I", false)
  | 2 => ("GhostRooms$House", "doors", "[I", true)
  | 3 => ("GhostRooms$House", "beds", "[I", true)
  | 4 => ("GhostRooms$House", "wants", "[I", true)
  | _ => ("GhostRooms$House", "now", "LGhostRooms$Now;", true)
def tyX2 : Nat → FieldType := fun k => match k with
  | 0 => .int
  | 1 => .int
  | 2 => .array .int
  | 3 => .array .int
  | 4 => .array .int
  | _ => .object "GhostRooms$Now"
abbrev wsX20 : List Cond := u_ws RX2 TX2 6
theorem nmX2 : ∀ a, a < 6 → ∀ b, b < 6 → a ≠ b → (TX2 a).2.1 ≠ (TX2 b).2.1 := by decide +kernel
theorem tyX2_ok : ∀ k, k < 6 → parseFieldDescriptor (TX2 k).2.2.1 = some (tyX2 k) := by decide +kernel
abbrev cX2_init : ByteArray := prog_4_method_1_code
def yX2_init : MethodName := ⟨RX2, "<init>", "()V"⟩
abbrev cX2_empty : ByteArray := prog_4_method_2_code
def yX2_empty : MethodName := ⟨RX2, "empty", "()V"⟩
abbrev cX2_addPerson : ByteArray := prog_4_method_3_code
def yX2_addPerson : MethodName := ⟨RX2, "addPerson", "(ZI)V"⟩
abbrev cX2_addRoom : ByteArray := prog_4_method_4_code
def yX2_addRoom : MethodName := ⟨RX2, "addRoom", "(I)V"⟩
abbrev cX2_addDoor : ByteArray := prog_4_method_5_code
def yX2_addDoor : MethodName := ⟨RX2, "addDoor", "(II)V"⟩
abbrev cX2_isPerson : ByteArray := prog_4_method_6_code
def yX2_isPerson : MethodName := ⟨RX2, "isPerson", "(I)Z"⟩
abbrev cX2_isRoom : ByteArray := prog_4_method_7_code
def yX2_isRoom : MethodName := ⟨RX2, "isRoom", "(I)Z"⟩
abbrev cX2_lives : ByteArray := prog_4_method_8_code
def yX2_lives : MethodName := ⟨RX2, "lives", "(I)Z"⟩
abbrev cX2_canBeHeir : ByteArray := prog_4_method_9_code
def yX2_canBeHeir : MethodName := ⟨RX2, "canBeHeir", "(I)Z"⟩
abbrev cX2_owner : ByteArray := prog_4_method_10_code
def yX2_owner : MethodName := ⟨RX2, "owner", "(II)I"⟩
abbrev cX2_chain : ByteArray := prog_4_method_11_code
def yX2_chain : MethodName := ⟨RX2, "chain", "(I)I"⟩
abbrev cX2_owned : ByteArray := prog_4_method_12_code
def yX2_owned : MethodName := ⟨RX2, "owned", "(II)I"⟩
abbrev cX2_may : ByteArray := prog_4_method_13_code
def yX2_may : MethodName := ⟨RX2, "may", "(IIII)I"⟩
abbrev cX2_mayNow : ByteArray := prog_4_method_14_code
def yX2_mayNow : MethodName := ⟨RX2, "mayNow", "(I)I"⟩
abbrev cX2_whoMay : ByteArray := prog_4_method_15_code
def yX2_whoMay : MethodName := ⟨RX2, "whoMay", "(I)I"⟩
abbrev cX2_reach : ByteArray := prog_4_method_16_code
def yX2_reach : MethodName := ⟨RX2, "reach", "(II)I"⟩
abbrev cX2_behindDoorsOf : ByteArray := prog_4_method_17_code
def yX2_behindDoorsOf : MethodName := ⟨RX2, "behindDoorsOf", "(I)I"⟩
abbrev cX2_lacks : ByteArray := prog_4_method_18_code
def yX2_lacks : MethodName := ⟨RX2, "lacks", "(II)Z"⟩
abbrev cX2_isCutOff : ByteArray := prog_4_method_19_code
def yX2_isCutOff : MethodName := ⟨RX2, "isCutOff", "(IIII)Z"⟩
abbrev cX2_cutOff : ByteArray := prog_4_method_20_code
def yX2_cutOff : MethodName := ⟨RX2, "cutOff", "(I)I"⟩
def RX3 : String := "GhostRooms$Living"
def TX3 : u_T := fun k => match k with
  | _ => ("", "", "", false)
def tyX3 : Nat → FieldType := fun k => match k with
  | _ => .int
abbrev wsX30 : List Cond := u_ws RX3 TX3 0
theorem nmX3 : ∀ a, a < 0 → ∀ b, b < 0 → a ≠ b → (TX3 a).2.1 ≠ (TX3 b).2.1 := by decide +kernel
theorem tyX3_ok : ∀ k, k < 0 → parseFieldDescriptor (TX3 k).2.2.1 = some (tyX3 k) := by decide +kernel
abbrev cX3_firstDayCutOff : ByteArray := prog_5_method_2_code
def yX3_firstDayCutOff : MethodName := ⟨RX3, "firstDayCutOff", "(LGhostRooms$House;I)I"⟩
abbrev cX3_fewestRights : ByteArray := prog_5_method_3_code
def yX3_fewestRights : MethodName := ⟨RX3, "fewestRights", "(LGhostRooms$House;I)I"⟩
abbrev cX3_openers : ByteArray := prog_5_method_4_code
def yX3_openers : MethodName := ⟨RX3, "openers", "(LGhostRooms$House;I)I"⟩
abbrev cX3_bestExchange : ByteArray := prog_5_method_5_code
def yX3_bestExchange : MethodName := ⟨RX3, "bestExchange", "(LGhostRooms$House;)I"⟩
abbrev cX3_roomsHeldByRight : ByteArray := prog_5_method_6_code
def yX3_roomsHeldByRight : MethodName := ⟨RX3, "roomsHeldByRight", "(LGhostRooms$House;)I"⟩
abbrev cX3_doorsBetween : ByteArray := prog_5_method_7_code
def yX3_doorsBetween : MethodName := ⟨RX3, "doorsBetween", "(LGhostRooms$House;II)I"⟩
def RX4 : String := "GhostRooms$Now"
def TX4 : u_T := fun k => match k with
  | 0 => ("GhostRooms$Now", "day", "I", false)
  | 1 => ("GhostRooms$Now", "alive", "I", false)
  | 2 => ("GhostRooms$Now", "rights", "I", false)
  | 3 => ("GhostRooms$Now", "heirs", "[I", true)
  | 4 => ("GhostRooms$Now", "left", "[I", true)
  | 5 => ("GhostRooms$Now", "holders", "[I", true)
  | 6 => ("GhostRooms$Now", "places", "[I", true)
  | _ => ("GhostRooms$Now", "tills", "[I", true)
def tyX4 : Nat → FieldType := fun k => match k with
  | 0 => .int
  | 1 => .int
  | 2 => .int
  | 3 => .array .int
  | 4 => .array .int
  | 5 => .array .int
  | 6 => .array .int
  | _ => .array .int
abbrev wsX40 : List Cond := u_ws RX4 TX4 8
theorem nmX4 : ∀ a, a < 8 → ∀ b, b < 8 → a ≠ b → (TX4 a).2.1 ≠ (TX4 b).2.1 := by decide +kernel
theorem tyX4_ok : ∀ k, k < 8 → parseFieldDescriptor (TX4 k).2.2.1 = some (tyX4 k) := by decide +kernel
abbrev cX4_init : ByteArray := prog_6_method_1_code
def yX4_init : MethodName := ⟨RX4, "<init>", "()V"⟩
abbrev cX4_copy : ByteArray := prog_6_method_2_code
def yX4_copy : MethodName := ⟨RX4, "copy", "(LGhostRooms$Now;)V"⟩
abbrev cX4_addRight : ByteArray := prog_6_method_3_code
def yX4_addRight : MethodName := ⟨RX4, "addRight", "(III)V"⟩
abbrev cX4_swap : ByteArray := prog_6_method_4_code
def yX4_swap : MethodName := ⟨RX4, "swap", "(II)V"⟩
abbrev cX4_roomsByRight : ByteArray := prog_6_method_5_code
def yX4_roomsByRight : MethodName := ⟨RX4, "roomsByRight", "(II)I"⟩
abbrev cX4_rightsIn : ByteArray := prog_6_method_6_code
def yX4_rightsIn : MethodName := ⟨RX4, "rightsIn", "(I)I"⟩
def RX5 : String := "GhostRooms$Rates"
def TX5 : u_T := fun k => match k with
  | _ => ("GhostRooms$Rates", "trace", "J", false)
def tyX5 : Nat → FieldType := fun k => match k with
  | _ => .long
abbrev wsX50 : List Cond := u_ws RX5 TX5 1
theorem nmX5 : ∀ a, a < 1 → ∀ b, b < 1 → a ≠ b → (TX5 a).2.1 ≠ (TX5 b).2.1 := by decide +kernel
theorem tyX5_ok : ∀ k, k < 1 → parseFieldDescriptor (TX5 k).2.2.1 = some (tyX5 k) := by decide +kernel
abbrev cX5_init : ByteArray := prog_7_method_1_code
def yX5_init : MethodName := ⟨RX5, "<init>", "()V"⟩
abbrev cX5_asRoom : ByteArray := prog_7_method_2_code
def yX5_asRoom : MethodName := ⟨RX5, "asRoom", "(LGhostRooms$House;I)I"⟩
abbrev cX5_asHall : ByteArray := prog_7_method_3_code
def yX5_asHall : MethodName := ⟨RX5, "asHall", "(LGhostRooms$House;I)I"⟩
abbrev cX5_asStair : ByteArray := prog_7_method_4_code
def yX5_asStair : MethodName := ⟨RX5, "asStair", "(LGhostRooms$House;I)I"⟩
abbrev cX5_asAttic : ByteArray := prog_7_method_5_code
def yX5_asAttic : MethodName := ⟨RX5, "asAttic", "(LGhostRooms$House;I)I"⟩
abbrev cX5_asCellar : ByteArray := prog_7_method_6_code
def yX5_asCellar : MethodName := ⟨RX5, "asCellar", "(LGhostRooms$House;I)I"⟩
abbrev cX5_asBath : ByteArray := prog_7_method_7_code
def yX5_asBath : MethodName := ⟨RX5, "asBath", "(LGhostRooms$House;I)I"⟩
def RX6 : String := "GhostRooms$Reader"
def TX6 : u_T := fun k => match k with
  | 0 => ("GhostRooms$Reader", "text", "LGhostRooms$Text;", true)
  | _ => ("GhostRooms$Reader", "numbers", "[I", true)
def tyX6 : Nat → FieldType := fun k => match k with
  | 0 => .object "GhostRooms$Text"
  | _ => .array .int
abbrev wsX60 : List Cond := u_ws RX6 TX6 2
theorem nmX6 : ∀ a, a < 2 → ∀ b, b < 2 → a ≠ b → (TX6 a).2.1 ≠ (TX6 b).2.1 := by decide +kernel
theorem tyX6_ok : ∀ k, k < 2 → parseFieldDescriptor (TX6 k).2.2.1 = some (tyX6 k) := by decide +kernel
abbrev cX6_init : ByteArray := prog_8_method_1_code
def yX6_init : MethodName := ⟨RX6, "<init>", "()V"⟩
abbrev cX6_readInto : ByteArray := prog_8_method_2_code
def yX6_readInto : MethodName := ⟨RX6, "readInto", "(LGhostRooms$House;)I"⟩
abbrev cX6_readItem : ByteArray := prog_8_method_3_code
def yX6_readItem : MethodName := ⟨RX6, "readItem", "(LGhostRooms$House;)Z"⟩
abbrev cX6_hasPlaceFor : ByteArray := prog_8_method_4_code
def yX6_hasPlaceFor : MethodName := ⟨RX6, "hasPlaceFor", "(ILGhostRooms$House;)Z"⟩
abbrev cX6_howManyNumbers : ByteArray := prog_8_method_5_code
def yX6_howManyNumbers : MethodName := ⟨RX6, "howManyNumbers", "(I)I"⟩
abbrev cX6_fits : ByteArray := prog_8_method_6_code
def yX6_fits : MethodName := ⟨RX6, "fits", "(IIILGhostRooms$House;)Z"⟩
abbrev cX6_tell : ByteArray := prog_8_method_7_code
def yX6_tell : MethodName := ⟨RX6, "tell", "(ILGhostRooms$House;)V"⟩
def RX7 : String := "GhostRooms$Seen"
def TX7 : u_T := fun k => match k with
  | 0 => ("GhostRooms$Seen", "size", "I", false)
  | 1 => ("GhostRooms$Seen", "people", "[I", true)
  | 2 => ("GhostRooms$Seen", "rooms", "[I", true)
  | _ => ("GhostRooms$Seen", "mays", "[I", true)
def tyX7 : Nat → FieldType := fun k => match k with
  | 0 => .int
  | 1 => .array .int
  | 2 => .array .int
  | _ => .array .int
abbrev wsX70 : List Cond := u_ws RX7 TX7 4
theorem nmX7 : ∀ a, a < 4 → ∀ b, b < 4 → a ≠ b → (TX7 a).2.1 ≠ (TX7 b).2.1 := by decide +kernel
theorem tyX7_ok : ∀ k, k < 4 → parseFieldDescriptor (TX7 k).2.2.1 = some (tyX7 k) := by decide +kernel
abbrev cX7_init : ByteArray := prog_9_method_1_code
def yX7_init : MethodName := ⟨RX7, "<init>", "()V"⟩
abbrev cX7_add : ByteArray := prog_9_method_2_code
def yX7_add : MethodName := ⟨RX7, "add", "(III)Z"⟩
abbrev cX7_heirsThatFit : ByteArray := prog_9_method_3_code
def yX7_heirsThatFit : MethodName := ⟨RX7, "heirsThatFit", "(LGhostRooms$House;I)I"⟩
abbrev cX7_isSo : ByteArray := prog_9_method_4_code
def yX7_isSo : MethodName := ⟨RX7, "isSo", "(LGhostRooms$House;)Z"⟩
def RX8 : String := "GhostRooms$Text"
def TX8 : u_T := fun k => match k with
  | 0 => ("GhostRooms$Text", "letters", "[I", true)
  | 1 => ("GhostRooms$Text", "length", "I", false)
  | 2 => ("GhostRooms$Text", "sort", "I", false)
  | 3 => ("GhostRooms$Text", "start", "I", false)
  | 4 => ("GhostRooms$Text", "value", "I", false)
  | _ => ("GhostRooms$Text", "end", "I", false)
def tyX8 : Nat → FieldType := fun k => match k with
  | 0 => .array .int
  | 1 => .int
  | 2 => .int
  | 3 => .int
  | 4 => .int
  | _ => .int
abbrev wsX80 : List Cond := u_ws RX8 TX8 6
theorem nmX8 : ∀ a, a < 6 → ∀ b, b < 6 → a ≠ b → (TX8 a).2.1 ≠ (TX8 b).2.1 := by decide +kernel
theorem tyX8_ok : ∀ k, k < 6 → parseFieldDescriptor (TX8 k).2.2.1 = some (tyX8 k) := by decide +kernel
abbrev cX8_init : ByteArray := prog_10_method_1_code
def yX8_init : MethodName := ⟨RX8, "<init>", "()V"⟩
abbrev cX8_add : ByteArray := prog_10_method_2_code
def yX8_add : MethodName := ⟨RX8, "add", "(I)Z"⟩
abbrev cX8_rewind : ByteArray := prog_10_method_3_code
def yX8_rewind : MethodName := ⟨RX8, "rewind", "()V"⟩
abbrev cX8_next : ByteArray := prog_10_method_4_code
def yX8_next : MethodName := ⟨RX8, "next", "()V"⟩
abbrev cX8_takeNumber : ByteArray := prog_10_method_5_code
def yX8_takeNumber : MethodName := ⟨RX8, "takeNumber", "()V"⟩
abbrev cX8_isDigitAt : ByteArray := prog_10_method_6_code
def yX8_isDigitAt : MethodName := ⟨RX8, "isDigitAt", "(I)Z"⟩
def RX9 : String := "GhostRooms"
def TX9 : u_T := fun k => match k with
  | 0 => ("GhostRooms", "reader", "LGhostRooms$Reader;", true)
  | 1 => ("GhostRooms", "deeds", "LGhostRooms$Deeds;", true)
  | 2 => ("GhostRooms", "seen", "LGhostRooms$Seen;", true)
  | 3 => ("GhostRooms", "rates", "LGhostRooms$Rates;", true)
  | 4 => ("GhostRooms", "images", "[LGhostRooms$Now;", true)
  | 5 => ("GhostRooms", "imagesKept", "I", false)
  | 6 => ("GhostRooms", "house", "LGhostRooms$House;", false)
  | _ => ("GhostRooms", "spare", "LGhostRooms$House;", false)
def tyX9 : Nat → FieldType := fun k => match k with
  | 0 => .object "GhostRooms$Reader"
  | 1 => .object "GhostRooms$Deeds"
  | 2 => .object "GhostRooms$Seen"
  | 3 => .object "GhostRooms$Rates"
  | 4 => .array (.object "GhostRooms$Now")
  | 5 => .int
  | 6 => .object "GhostRooms$House"
  | _ => .object "GhostRooms$House"
abbrev wsX90 : List Cond := u_ws RX9 TX9 8
theorem nmX9 : ∀ a, a < 8 → ∀ b, b < 8 → a ≠ b → (TX9 a).2.1 ≠ (TX9 b).2.1 := by decide +kernel
theorem tyX9_ok : ∀ k, k < 8 → parseFieldDescriptor (TX9 k).2.2.1 = some (tyX9 k) := by decide +kernel
abbrev cX9_init : ByteArray := prog_1_method_1_code
def yX9_init : MethodName := ⟨RX9, "<init>", "()V"⟩
abbrev cX9_type : ByteArray := prog_1_method_2_code
def yX9_type : MethodName := ⟨RX9, "type", "(I)I"⟩
abbrev cX9_clear : ByteArray := prog_1_method_3_code
def yX9_clear : MethodName := ⟨RX9, "clear", "()I"⟩
abbrev cX9_house : ByteArray := prog_1_method_4_code
def yX9_house : MethodName := ⟨RX9, "house", "()I"⟩
abbrev cX9_person : ByteArray := prog_1_method_5_code
def yX9_person : MethodName := ⟨RX9, "person", "(II)I"⟩
abbrev cX9_room : ByteArray := prog_1_method_6_code
def yX9_room : MethodName := ⟨RX9, "room", "(II)I"⟩
abbrev cX9_right : ByteArray := prog_1_method_7_code
def yX9_right : MethodName := ⟨RX9, "right", "(II)I"⟩
abbrev cX9_now : ByteArray := prog_1_method_8_code
def yX9_now : MethodName := ⟨RX9, "now", "(I)I"⟩
abbrev cX9_day : ByteArray := prog_1_method_9_code
def yX9_day : MethodName := ⟨RX9, "day", "()I"⟩
abbrev cX9_dies : ByteArray := prog_1_method_10_code
def yX9_dies : MethodName := ⟨RX9, "dies", "(I)I"⟩
abbrev cX9_grants : ByteArray := prog_1_method_11_code
def yX9_grants : MethodName := ⟨RX9, "grants", "(III)I"⟩
abbrev cX9_exchanges : ByteArray := prog_1_method_12_code
def yX9_exchanges : MethodName := ⟨RX9, "exchanges", "(II)I"⟩
abbrev cX9_wills : ByteArray := prog_1_method_13_code
def yX9_wills : MethodName := ⟨RX9, "wills", "(II)I"⟩
abbrev cX9_undo : ByteArray := prog_1_method_14_code
def yX9_undo : MethodName := ⟨RX9, "undo", "()I"⟩
abbrev cX9_fromWhen : ByteArray := prog_1_method_15_code
def yX9_fromWhen : MethodName := ⟨RX9, "fromWhen", "(I)I"⟩
abbrev cX9_needs : ByteArray := prog_1_method_16_code
def yX9_needs : MethodName := ⟨RX9, "needs", "(I)I"⟩
abbrev cX9_opens : ByteArray := prog_1_method_17_code
def yX9_opens : MethodName := ⟨RX9, "opens", "(I)I"⟩
abbrev cX9_exchange : ByteArray := prog_1_method_18_code
def yX9_exchange : MethodName := ⟨RX9, "exchange", "()I"⟩
abbrev cX9_holdsOut : ByteArray := prog_1_method_19_code
def yX9_holdsOut : MethodName := ⟨RX9, "holdsOut", "()I"⟩
abbrev cX9_dinner : ByteArray := prog_1_method_20_code
def yX9_dinner : MethodName := ⟨RX9, "dinner", "(II)I"⟩
abbrev cX9_seen : ByteArray := prog_1_method_21_code
def yX9_seen : MethodName := ⟨RX9, "seen", "(III)I"⟩
abbrev cX9_forget : ByteArray := prog_1_method_22_code
def yX9_forget : MethodName := ⟨RX9, "forget", "()I"⟩
abbrev cX9_said : ByteArray := prog_1_method_23_code
def yX9_said : MethodName := ⟨RX9, "said", "(I)I"⟩
abbrev cX9_last : ByteArray := prog_1_method_24_code
def yX9_last : MethodName := ⟨RX9, "last", "(I)I"⟩
abbrev cX9_waits : ByteArray := prog_1_method_25_code
def yX9_waits : MethodName := ⟨RX9, "waits", "(II)I"⟩
abbrev cX9_odds : ByteArray := prog_1_method_26_code
def yX9_odds : MethodName := ⟨RX9, "odds", "(III)I"⟩
abbrev cX9_rate : ByteArray := prog_1_method_27_code
def yX9_rate : MethodName := ⟨RX9, "rate", "(II)I"⟩
abbrev cX9_keep : ByteArray := prog_1_method_28_code
def yX9_keep : MethodName := ⟨RX9, "keep", "(I)I"⟩
abbrev cX9_back : ByteArray := prog_1_method_29_code
def yX9_back : MethodName := ⟨RX9, "back", "(I)I"⟩
abbrev cX9_count : ByteArray := prog_1_method_30_code
def yX9_count : MethodName := ⟨RX9, "count", "(I)I"⟩
abbrev cX9_trace : ByteArray := prog_1_method_31_code
def yX9_trace : MethodName := ⟨RX9, "trace", "()J"⟩
abbrev cX9_unlessAlive : ByteArray := prog_1_method_32_code
def yX9_unlessAlive : MethodName := ⟨RX9, "unlessAlive", "(I)I"⟩
def RX10 : String := "GhostRoomsModel"
def TX10 : u_T := fun k => match k with
  | 0 => ("GhostRoomsModel", "people", "I", false)
  | 1 => ("GhostRoomsModel", "rooms", "I", false)
  | 2 => ("GhostRoomsModel", "bed", "[I", true)
  | 3 => ("GhostRoomsModel", "wants", "[I", true)
  | 4 => ("GhostRoomsModel", "doors", "[I", true)
  | 5 => ("GhostRoomsModel", "st", "[I", true)
  | 6 => ("GhostRoomsModel", "was", "[I", true)
  | 7 => ("GhostRoomsModel", "known", "I", false)
  | 8 => ("GhostRoomsModel", "images", "[I", true)
  | 9 => ("GhostRoomsModel", "isKept", "[Z", true)
  | 10 => ("GhostRoomsModel", "seens", "I", false)
  | 11 => ("GhostRoomsModel", "seen", "[I", true)
  | 12 => ("GhostRoomsModel", "trace", "J", false)
  | 13 => ("GhostRoomsModel", "text", "[I", true)
  | 14 => ("GhostRoomsModel", "texted", "I", false)
  | 15 => ("GhostRoomsModel", "cursor", "I", false)
  | 16 => ("GhostRoomsModel", "start", "I", false)
  | 17 => ("GhostRoomsModel", "token", "I", false)
  | 18 => ("GhostRoomsModel", "number", "I", false)
  | 19 => ("GhostRoomsModel", "isWrong", "Z", false)
  | 20 => ("GhostRoomsModel", "saidPeople", "I", false)
  | 21 => ("GhostRoomsModel", "saidRooms", "I", false)
  | 22 => ("GhostRoomsModel", "saidBed", "[I", true)
  | 23 => ("GhostRoomsModel", "saidWants", "[I", true)
  | 24 => ("GhostRoomsModel", "saidDoors", "[I", true)
  | 25 => ("GhostRoomsModel", "said", "[I", true)
  | 26 => ("GhostRoomsModel", "now", "[I", true)
  | _ => ("GhostRoomsModel", "chain", "I", false)
def tyX10 : Nat → FieldType := fun k => match k with
  | 0 => .int
  | 1 => .int
  | 2 => .array .int
  | 3 => .array .int
  | 4 => .array .int
  | 5 => .array .int
  | 6 => .array .int
  | 7 => .int
  | 8 => .array .int
  | 9 => .array .boolean
  | 10 => .int
  | 11 => .array .int
  | 12 => .long
  | 13 => .array .int
  | 14 => .int
  | 15 => .int
  | 16 => .int
  | 17 => .int
  | 18 => .int
  | 19 => .boolean
  | 20 => .int
  | 21 => .int
  | 22 => .array .int
  | 23 => .array .int
  | 24 => .array .int
  | 25 => .array .int
  | 26 => .array .int
  | _ => .int
abbrev wsX100 : List Cond := u_ws RX10 TX10 28
theorem nmX10 : ∀ a, a < 28 → ∀ b, b < 28 → a ≠ b → (TX10 a).2.1 ≠ (TX10 b).2.1 := by decide +kernel
theorem tyX10_ok : ∀ k, k < 28 → parseFieldDescriptor (TX10 k).2.2.1 = some (tyX10 k) := by decide +kernel
abbrev cX10_init : ByteArray := prog_12_method_1_code
def yX10_init : MethodName := ⟨RX10, "<init>", "()V"⟩
abbrev cX10_in : ByteArray := prog_12_method_3_code
def yX10_in : MethodName := ⟨RX10, "in", "(III)Z"⟩
abbrev cX10_has : ByteArray := prog_12_method_4_code
def yX10_has : MethodName := ⟨RX10, "has", "(II)Z"⟩
abbrev cX10_bits : ByteArray := prog_12_method_5_code
def yX10_bits : MethodName := ⟨RX10, "bits", "(I)I"⟩
abbrev cX10_isPerson : ByteArray := prog_12_method_6_code
def yX10_isPerson : MethodName := ⟨RX10, "isPerson", "(I)Z"⟩
abbrev cX10_isRoom : ByteArray := prog_12_method_7_code
def yX10_isRoom : MethodName := ⟨RX10, "isRoom", "(I)Z"⟩
abbrev cX10_copy : ByteArray := prog_12_method_8_code
def yX10_copy : MethodName := ⟨RX10, "copy", "([II[II)V"⟩
abbrev cX10_type : ByteArray := prog_12_method_9_code
def yX10_type : MethodName := ⟨RX10, "type", "(I)I"⟩
abbrev cX10_clear : ByteArray := prog_12_method_10_code
def yX10_clear : MethodName := ⟨RX10, "clear", "()I"⟩
abbrev cX10_letterAt : ByteArray := prog_12_method_11_code
def yX10_letterAt : MethodName := ⟨RX10, "letterAt", "(I)I"⟩
abbrev cX10_isFigure : ByteArray := prog_12_method_12_code
def yX10_isFigure : MethodName := ⟨RX10, "isFigure", "(I)Z"⟩
abbrev cX10_next : ByteArray := prog_12_method_13_code
def yX10_next : MethodName := ⟨RX10, "next", "()V"⟩
abbrev cX10_takes : ByteArray := prog_12_method_14_code
def yX10_takes : MethodName := ⟨RX10, "takes", "(IIZ)I"⟩
abbrev cX10_readPerson : ByteArray := prog_12_method_15_code
def yX10_readPerson : MethodName := ⟨RX10, "readPerson", "()V"⟩
abbrev cX10_readRoom : ByteArray := prog_12_method_16_code
def yX10_readRoom : MethodName := ⟨RX10, "readRoom", "()V"⟩
abbrev cX10_readDoor : ByteArray := prog_12_method_17_code
def yX10_readDoor : MethodName := ⟨RX10, "readDoor", "()V"⟩
abbrev cX10_readPlace : ByteArray := prog_12_method_18_code
def yX10_readPlace : MethodName := ⟨RX10, "readPlace", "(I)V"⟩
abbrev cX10_grantsIn : ByteArray := prog_12_method_19_code
def yX10_grantsIn : MethodName := ⟨RX10, "grantsIn", "([IIII)V"⟩
abbrev cX10_readItem : ByteArray := prog_12_method_20_code
def yX10_readItem : MethodName := ⟨RX10, "readItem", "()V"⟩
abbrev cX10_house : ByteArray := prog_12_method_21_code
def yX10_house : MethodName := ⟨RX10, "house", "()I"⟩
abbrev cX10_asItIs : ByteArray := prog_12_method_22_code
def yX10_asItIs : MethodName := ⟨RX10, "asItIs", "()V"⟩
abbrev cX10_isAlive : ByteArray := prog_12_method_23_code
def yX10_isAlive : MethodName := ⟨RX10, "isAlive", "(I)Z"⟩
abbrev cX10_ownerOf : ByteArray := prog_12_method_24_code
def yX10_ownerOf : MethodName := ⟨RX10, "ownerOf", "(I)I"⟩
abbrev cX10_mayBe : ByteArray := prog_12_method_25_code
def yX10_mayBe : MethodName := ⟨RX10, "mayBe", "(II)Z"⟩
abbrev cX10_mayIn : ByteArray := prog_12_method_26_code
def yX10_mayIn : MethodName := ⟨RX10, "mayIn", "(I)I"⟩
abbrev cX10_whoMay : ByteArray := prog_12_method_27_code
def yX10_whoMay : MethodName := ⟨RX10, "whoMay", "(I)I"⟩
abbrev cX10_goesBy : ByteArray := prog_12_method_28_code
def yX10_goesBy : MethodName := ⟨RX10, "goesBy", "(II)I"⟩
abbrev cX10_isCutOffBy : ByteArray := prog_12_method_29_code
def yX10_isCutOffBy : MethodName := ⟨RX10, "isCutOffBy", "(II)Z"⟩
abbrev cX10_isCutOff : ByteArray := prog_12_method_30_code
def yX10_isCutOff : MethodName := ⟨RX10, "isCutOff", "(I)Z"⟩
abbrev cX10_cutOff : ByteArray := prog_12_method_31_code
def yX10_cutOff : MethodName := ⟨RX10, "cutOff", "()I"⟩
abbrev cX10_person : ByteArray := prog_12_method_32_code
def yX10_person : MethodName := ⟨RX10, "person", "(II)I"⟩
abbrev cX10_room : ByteArray := prog_12_method_33_code
def yX10_room : MethodName := ⟨RX10, "room", "(II)I"⟩
abbrev cX10_right : ByteArray := prog_12_method_34_code
def yX10_right : MethodName := ⟨RX10, "right", "(II)I"⟩
abbrev cX10_now : ByteArray := prog_12_method_35_code
def yX10_now : MethodName := ⟨RX10, "now", "(I)I"⟩
abbrev cX10_remembers : ByteArray := prog_12_method_36_code
def yX10_remembers : MethodName := ⟨RX10, "remembers", "()V"⟩
abbrev cX10_day : ByteArray := prog_12_method_37_code
def yX10_day : MethodName := ⟨RX10, "day", "()I"⟩
abbrev cX10_dies : ByteArray := prog_12_method_38_code
def yX10_dies : MethodName := ⟨RX10, "dies", "(I)I"⟩
abbrev cX10_grants : ByteArray := prog_12_method_39_code
def yX10_grants : MethodName := ⟨RX10, "grants", "(III)I"⟩
abbrev cX10_swap : ByteArray := prog_12_method_40_code
def yX10_swap : MethodName := ⟨RX10, "swap", "([III)V"⟩
abbrev cX10_exchanges : ByteArray := prog_12_method_41_code
def yX10_exchanges : MethodName := ⟨RX10, "exchanges", "(II)I"⟩
abbrev cX10_wills : ByteArray := prog_12_method_42_code
def yX10_wills : MethodName := ⟨RX10, "wills", "(II)I"⟩
abbrev cX10_undo : ByteArray := prog_12_method_43_code
def yX10_undo : MethodName := ⟨RX10, "undo", "()I"⟩
abbrev cX10_fromWhen : ByteArray := prog_12_method_44_code
def yX10_fromWhen : MethodName := ⟨RX10, "fromWhen", "(I)I"⟩
abbrev cX10_refused : ByteArray := prog_12_method_45_code
def yX10_refused : MethodName := ⟨RX10, "refused", "(IZ)I"⟩
abbrev cX10_needs : ByteArray := prog_12_method_46_code
def yX10_needs : MethodName := ⟨RX10, "needs", "(I)I"⟩
abbrev cX10_opens : ByteArray := prog_12_method_47_code
def yX10_opens : MethodName := ⟨RX10, "opens", "(I)I"⟩
abbrev cX10_exchange : ByteArray := prog_12_method_48_code
def yX10_exchange : MethodName := ⟨RX10, "exchange", "()I"⟩
abbrev cX10_holdsOut : ByteArray := prog_12_method_49_code
def yX10_holdsOut : MethodName := ⟨RX10, "holdsOut", "()I"⟩
abbrev cX10_dinner : ByteArray := prog_12_method_50_code
def yX10_dinner : MethodName := ⟨RX10, "dinner", "(II)I"⟩
abbrev cX10_seen : ByteArray := prog_12_method_51_code
def yX10_seen : MethodName := ⟨RX10, "seen", "(III)I"⟩
abbrev cX10_forget : ByteArray := prog_12_method_52_code
def yX10_forget : MethodName := ⟨RX10, "forget", "()I"⟩
abbrev cX10_said : ByteArray := prog_12_method_53_code
def yX10_said : MethodName := ⟨RX10, "said", "(I)I"⟩
abbrev cX10_last : ByteArray := prog_12_method_54_code
def yX10_last : MethodName := ⟨RX10, "last", "(I)I"⟩
abbrev cX10_waits : ByteArray := prog_12_method_55_code
def yX10_waits : MethodName := ⟨RX10, "waits", "(II)I"⟩
abbrev cX10_odds : ByteArray := prog_12_method_56_code
def yX10_odds : MethodName := ⟨RX10, "odds", "(III)I"⟩
abbrev cX10_roomRate : ByteArray := prog_12_method_57_code
def yX10_roomRate : MethodName := ⟨RX10, "roomRate", "(I)I"⟩
abbrev cX10_hallRate : ByteArray := prog_12_method_58_code
def yX10_hallRate : MethodName := ⟨RX10, "hallRate", "(I)I"⟩
abbrev cX10_stairRate : ByteArray := prog_12_method_59_code
def yX10_stairRate : MethodName := ⟨RX10, "stairRate", "(I)I"⟩
abbrev cX10_rate : ByteArray := prog_12_method_60_code
def yX10_rate : MethodName := ⟨RX10, "rate", "(II)I"⟩
abbrev cX10_keep : ByteArray := prog_12_method_61_code
def yX10_keep : MethodName := ⟨RX10, "keep", "(I)I"⟩
abbrev cX10_back : ByteArray := prog_12_method_62_code
def yX10_back : MethodName := ⟨RX10, "back", "(I)I"⟩
abbrev cX10_count : ByteArray := prog_12_method_63_code
def yX10_count : MethodName := ⟨RX10, "count", "(I)I"⟩
abbrev cX10_trace : ByteArray := prog_12_method_64_code
def yX10_trace : MethodName := ⟨RX10, "trace", "()J"⟩
def RJ6 : String := "java/lang/Integer"
abbrev cJ6_bitCount_0f7a4 : ByteArray := prog_13_method_49_code
def yJ6_bitCount_0f7a4 : MethodName := ⟨RJ6, "bitCount", "(I)I"⟩
def RJ10 : String := "java/lang/System"
def RL : String := "GhostRoomsLaw"
abbrev cL_law : ByteArray := code
def yL_law : MethodName := ⟨RL, "law", "([I)Z"⟩
end
section
/-! the world: 62 cells by number, their kinds; a pure heap; what the machine's heap has of it -/
def zt : List Cond := lw_tbl.filter goodWord
theorem zt_mem {w : Cond} (i : Nat) (h : lw_tbl[i]? = some w) (hg : goodWord w = true) : w ∈ zt := List.mem_filter.mpr ⟨List.mem_of_getElem? h, hg⟩
theorem zt_good {w : Cond} (h : w ∈ zt) : (w.onTables && w.keeps) = true ∨ ∃ ty, w = .arrayClass ty := good_of_word (List.mem_filter.mp h).2
def b2i (b : Bool) : Int32 := if b then 1 else 0
/-- ints by cell and place; the long of a cell; references by cell and place -/
abbrev PH : Type := (Nat → Nat → Int32) × (Nat → Int64) × (Nat → Nat → Nat)
abbrev Ev : Type := (Nat → ClassId) × (Nat → Nat → Nat) × (Nat → Nat) × ClassId × ClassId × ClassId
def ad (E : Ev) (c : Nat) : Nat := E.2.2.1 c
def NC : Nat := 62
def zkd : List Nat := [7, 4, 6, 9, 9, 0, 9, 9, 9, 5, 9, 9, 9, 3, 11, 2, 9, 9, 9, 9, 9, 2, 9, 9, 9, 9, 9, 1, 9, 9, 9, 2, 9, 9, 9, 9, 9, 1, 9, 9, 9, 2, 9, 9, 9, 9, 9, 8, 9, 9, 9, 9, 9, 9, 10, 9, 9, 9, 9, 9, 9, 9]
def zln : List Nat := [0, 0, 0, 200, 3, 0, 10, 10, 10, 0, 5, 5, 5, 0, 2, 0, 6, 7, 10, 10, 10, 0, 6, 7, 10, 10, 10, 0, 7, 6, 6, 0, 6, 7, 10, 10, 10, 0, 7, 6, 6, 0, 6, 7, 10, 10, 10, 0, 6, 6, 7, 46, 460, 92, 2, 15, 200, 6, 6, 7, 46, 46]
def zft : List (List Nat) := [[0, 2, 2, 2], [0, 0, 2, 2, 2, 2], [0, 0, 0, 2, 2, 2, 2, 2], [1], [2, 2], [0, 2, 2, 2], [2, 0, 0, 0, 0, 0], [2, 2, 2, 2, 2, 0, 2, 2], [0, 0, 2, 2, 2, 2, 2, 0, 2, 2, 0, 2, 1, 2, 0, 0, 0, 0, 0, 0, 0, 0, 2, 2, 2, 2, 2, 0], [], [], [2, 2]]
def zfk : List (List Nat) := [[0, 9, 9, 9], [0, 0, 9, 9, 9, 2], [0, 0, 0, 9, 9, 9, 9, 9], [0], [6, 9], [0, 9, 9, 9], [9, 0, 0, 0, 0, 0], [4, 0, 5, 3, 11, 0, 1, 1], [0, 0, 9, 9, 9, 9, 9, 0, 9, 10, 0, 9, 0, 9, 0, 0, 0, 0, 0, 0, 0, 0, 9, 9, 9, 9, 9, 0], [], [], [2, 2]]
def zfl : List (List Nat) := [[0, 10, 10, 10], [0, 0, 7, 6, 6, 0], [0, 0, 0, 6, 7, 10, 10, 10], [0], [0, 3], [0, 5, 5, 5], [200, 0, 0, 0, 0, 0], [0, 0, 0, 0, 2, 0, 0, 0], [0, 0, 6, 6, 7, 46, 460, 0, 92, 2, 0, 15, 0, 200, 0, 0, 0, 0, 0, 0, 0, 0, 6, 6, 7, 46, 46, 0], [], [], [0, 0]]
def zfn : List Nat := [4, 6, 8, 1, 2, 4, 6, 8, 28]
def kd (c : Nat) : Nat := zkd.getD c 99
def ln (c : Nat) : Nat := zln.getD c 0
def ft (K j : Nat) : Nat := (zft.getD K []).getD j 0
def fk (K j : Nat) : Nat := (zfk.getD K []).getD j 0
def fl (K j : Nat) : Nat := (zfl.getD K []).getD j 0
def fn (K : Nat) : Nat := zfn.getD K 0
def ok (c K n : Nat) : Prop := c < NC ∧ kd c = K ∧ ln c = n
abbrev classes : List vw_C := [(RX1, TX1, 4), (RX2, TX2, 6), (RX4, TX4, 8), (RX5, TX5, 1), (RX6, TX6, 2), (RX7, TX7, 4), (RX8, TX8, 6), (RX9, TX9, 8), (RX10, TX10, 28)]
def fv (E : Ev) (P : PH) (c K j : Nat) : Value := if ft K j = 0 then .int (P.1 c j) else if ft K j = 1 then .long (P.2.1 c) else .ref (ad E (P.2.2 c j))
def en (E : Ev) (P : PH) (c : Nat) : va_E :=
  if kd c = 9 then .inl (E.2.2.2.1, ln c, .inl (P.1 c))
  else if kd c = 10 then .inl (E.2.2.2.2.1, ln c, .inl (P.1 c))
  else if kd c = 11 then .inl (E.2.2.2.2.2, ln c, .inr (.inr (.inr (.inr (fun j => some (ad E (P.2.2 c j)))))))
  else .inr (kd c, (List.range (fn (kd c))).map (fv E P c (kd c)))
def wl (E : Ev) (P : PH) : va_W := (List.range NC).map (fun c => (ad E c, en E P c))
def WT (P : PH) : Prop := ∀ c j, c < NC → ft (kd c) j = 2 → ok (P.2.2 c j) (fk (kd c) j) (fl (kd c) j)
def tys3 (E : Ev) : List (ClassId × FieldType) := [(E.2.2.2.1, .int), (E.2.2.2.2.1, .boolean), (E.2.2.2.2.2, .object RX4)]
def Rep (E : Ev) (P : PH) (H : Heap) : Prop := va_P (E.1, E.2.1) classes (wl E P) H ∧ WT P
def EK (E : Ev) (U : State) : Prop := va_K (E.1, E.2.1) classes (tys3 E) U
def EvOK (E : Ev) : Prop := ∀ c c', c < NC → c' < NC → ad E c = ad E c' → c = c'
def AE (E : Ev) : Nat → Prop := fun q => ∃ c, c < NC ∧ ad E c = q
/-! updates -/
def sA (P : PH) (c : Nat) (f : Nat → Int32) : PH := (fun c' => if c' = c then f else P.1 c', P.2)
def sI (P : PH) (c i : Nat) (v : Int32) : PH := sA P c (upd (P.1 c) i v)
def sL (P : PH) (c : Nat) (v : Int64) : PH := (P.1, fun c' => if c' = c then v else P.2.1 c', P.2.2)
def sR (P : PH) (c i d : Nat) : PH := (P.1, P.2.1, fun c' => if c' = c then (fun j => if j = i then d else P.2.2 c j) else P.2.2 c')
theorem wl_get {E : Ev} {P : PH} {c : Nat} (h : c < NC) : (wl E P)[c]? = some (ad E c, en E P c) := by
  unfold wl
  rw [List.getElem?_map, List.getElem?_range h]
  rfl
theorem wl_set {E : Ev} {P P' : PH} {c : Nat} (hc : c < NC) (h : ∀ c', c' ≠ c → en E P' c' = en E P c') : (wl E P).set c (ad E c, en E P' c) = wl E P' := by
  have hlen : c < (wl E P).length := by unfold wl; rw [List.length_map, List.length_range]; exact hc
  apply List.ext_getElem?
  intro k
  by_cases hk : k = c
  · subst hk
    rw [List.getElem?_set_self hlen, wl_get hc]
  · rw [List.getElem?_set_ne (Ne.symm hk)]
    by_cases hn : k < NC
    · rw [wl_get hn, wl_get hn, h k hk]
    · rw [List.getElem?_eq_none (by unfold wl; rw [List.length_map, List.length_range]; omega), List.getElem?_eq_none (by unfold wl; rw [List.length_map, List.length_range]; omega)]
theorem wl_D {E : Ev} {P : PH} {A : Nat → Prop} (hi : EvOK E) (hA : ∀ c, c < NC → A (ad E c)) : va_D A (wl E P) := by
  have key : ∀ (k : Nat) (q : Nat × va_E), (wl E P)[k]? = some q → k < NC ∧ q.1 = ad E k := by
    intro k q hq
    by_cases hn : k < NC
    · rw [wl_get hn] at hq
      cases hq
      exact ⟨hn, rfl⟩
    · rw [List.getElem?_eq_none (by unfold wl; rw [List.length_map, List.length_range]; omega)] at hq
      cases hq
  refine ⟨fun i j p q hp hq hpq => ?_, fun k q hq => ?_⟩
  · obtain ⟨a1, a2⟩ := key i p hp
    obtain ⟨b1, b2⟩ := key j q hq
    exact hi i j a1 b1 (by rw [← a2, ← b2]; exact hpq)
  · obtain ⟨a1, a2⟩ := key k q hq
    rw [a2]
    exact hA k a1
theorem en_i {E : Ev} {P : PH} {c n : Nat} (h : ok c 9 n) : en E P c = .inl (E.2.2.2.1, n, .inl (P.1 c)) := by
  unfold en
  rw [if_pos h.2.1, h.2.2]
theorem en_z {E : Ev} {P : PH} {c n : Nat} (h : ok c 10 n) : en E P c = .inl (E.2.2.2.2.1, n, .inl (P.1 c)) := by
  unfold en
  rw [if_neg (by rw [h.2.1]; decide), if_pos h.2.1, h.2.2]
theorem en_q {E : Ev} {P : PH} {c n : Nat} (h : ok c 11 n) : en E P c = .inl (E.2.2.2.2.2, n, .inr (.inr (.inr (.inr (fun j => some (ad E (P.2.2 c j))))))) := by
  unfold en
  rw [if_neg (by rw [h.2.1]; decide), if_neg (by rw [h.2.1]; decide), if_pos h.2.1, h.2.2]
theorem en_o {E : Ev} {P : PH} {c K n : Nat} (h : ok c K n) (hK : K < 9) : en E P c = .inr (K, (List.range (fn K)).map (fv E P c K)) := by
  unfold en
  rw [if_neg (by rw [h.2.1]; omega), if_neg (by rw [h.2.1]; omega), if_neg (by rw [h.2.1]; omega), h.2.1]
theorem en_ne {E : Ev} {P P' : PH} {c : Nat} (h1 : P'.1 c = P.1 c) (h2 : P'.2.1 c = P.2.1 c) (h3 : P'.2.2 c = P.2.2 c) : en E P' c = en E P c := by
  have : ∀ K, fv E P' c K = fv E P c K := fun K => by funext j; unfold fv; rw [h1, h2, h3]
  unfold en
  rw [this, h1, h3]
theorem sA_ne {P : PH} {c c' : Nat} {f : Nat → Int32} (h : c' ≠ c) : (sA P c f).1 c' = P.1 c' := if_neg h
theorem sA_eq {P : PH} {c : Nat} {f : Nat → Int32} : (sA P c f).1 c = f := if_pos rfl
theorem sL_ne {P : PH} {c c' : Nat} {v : Int64} (h : c' ≠ c) : (sL P c v).2.1 c' = P.2.1 c' := if_neg h
theorem sL_eq {P : PH} {c : Nat} {v : Int64} : (sL P c v).2.1 c = v := if_pos rfl
theorem sR_ne {P : PH} {c c' i d : Nat} (h : c' ≠ c) : (sR P c i d).2.2 c' = P.2.2 c' := if_neg h
theorem sR_eq {P : PH} {c i d : Nat} : (sR P c i d).2.2 c = fun j => if j = i then d else P.2.2 c j := if_pos rfl
/-- an array's cell rewritten -/
theorem wl_sA {E : Ev} {P : PH} {c n : Nat} {f : Nat → Int32} (h : ok c 9 n) : (wl E P).set c (ad E c, .inl (E.2.2.2.1, n, .inl f)) = wl E (sA P c f) := by
  rw [← wl_set (P := P) (P' := sA P c f) h.1 (fun c' hc => en_ne (sA_ne hc) rfl rfl), en_i h, sA_eq]
theorem wl_sAz {E : Ev} {P : PH} {c n : Nat} {f : Nat → Int32} (h : ok c 10 n) : (wl E P).set c (ad E c, .inl (E.2.2.2.2.1, n, .inl f)) = wl E (sA P c f) := by
  rw [← wl_set (P := P) (P' := sA P c f) h.1 (fun c' hc => en_ne (sA_ne hc) rfl rfl), en_z h, sA_eq]
theorem map_set {f g : Nat → Value} {n j : Nat} (hj : j < n) (h : ∀ k, k ≠ j → g k = f k) : ((List.range n).map f).set j (g j) = (List.range n).map g := by
  apply List.ext_getElem?
  intro k
  by_cases hk : k = j
  · subst hk
    rw [List.getElem?_set_self (by simp; exact hj), List.getElem?_map, List.getElem?_range hj]
    rfl
  · rw [List.getElem?_set_ne (Ne.symm hk)]
    by_cases hn : k < n
    · rw [List.getElem?_map, List.getElem?_map, List.getElem?_range hn]
      simp [h k hk]
    · rw [List.getElem?_eq_none (by simp; omega), List.getElem?_eq_none (by simp; omega)]
/-- an object's cell rewritten -/
theorem wl_sF {E : Ev} {P P' : PH} {c K n j : Nat} {v : Value} (h : ok c K n) (hK : K < 9) (hj : j < fn K) (hv : fv E P' c K j = v) (hs : ∀ k, k ≠ j → fv E P' c K k = fv E P c K k) (hne : ∀ c', c' ≠ c → en E P' c' = en E P c') :
    (wl E P).set c (ad E c, .inr (K, ((List.range (fn K)).map (fv E P c K)).set j v)) = wl E P' := by
  rw [← wl_set (P := P) (P' := P') h.1 hne, en_o h hK, ← hv, map_set hj hs]
theorem fv_get {E : Ev} {P : PH} {c K j : Nat} (hj : j < fn K) : ((List.range (fn K)).map (fv E P c K))[j]? = some (fv E P c K j) := by
  rw [List.getElem?_map, List.getElem?_range hj]
  rfl
theorem WT_sA {P : PH} {c : Nat} {f : Nat → Int32} (h : WT P) : WT (sA P c f) := h
theorem WT_sL {P : PH} {c : Nat} {v : Int64} (h : WT P) : WT (sL P c v) := h
theorem WT_sR {P : PH} {c i d : Nat} (h : WT P) (hd : ft (kd c) i = 2 → ok d (fk (kd c) i) (fl (kd c) i)) : WT (sR P c i d) := by
  intro c' j hc hf
  by_cases hcc : c' = c
  · subst hcc
    rw [sR_eq]
    by_cases hj : j = i
    · subst hj
      simp only [if_true]
      exact hd hf
    · simp only [if_neg hj]
      exact h _ _ hc hf
  · rw [sR_ne hcc]
    exact h _ _ hc hf
/-! the judgement: the machine, at the pure state (P, pc, locals, stack), comes to Q -/
abbrev Fx : Type := Program × Launch × Env × Room × State × MethodId × Array Value × List Frame × Method × Code × (Nat → Prop) × Nat × Nat
def xp (x : Fx) : Program := x.1
def xl (x : Fx) : Launch := x.2.1
def xe (x : Fx) : Env := x.2.2.1
def xR (x : Fx) : Room := x.2.2.2.1
def xs (x : Fx) : State := x.2.2.2.2.1
def xm (x : Fx) : MethodId := x.2.2.2.2.2.1
def xa (x : Fx) : Array Value := x.2.2.2.2.2.2.1
def xb (x : Fx) : List Frame := x.2.2.2.2.2.2.2.1
def xM (x : Fx) : Method := x.2.2.2.2.2.2.2.2.1
def xc (x : Fx) : Code := x.2.2.2.2.2.2.2.2.2.1
def xA (x : Fx) : Nat → Prop := x.2.2.2.2.2.2.2.2.2.2.1
def xk (x : Fx) : Nat := x.2.2.2.2.2.2.2.2.2.2.2.1
def xj (x : Fx) : Nat := x.2.2.2.2.2.2.2.2.2.2.2.2
def Wz (x : Fx) (E : Ev) (nL : Nat) (Q : State → Prop) (P : PH) (pc : Nat) (lv : List (Nat × Value)) (st : List Value) : Prop :=
  ∀ (H : Heap) (locs : List Loc) (ls : Array Slot), Rep E P H → va_S (xA x) (xs x).heap H locs → lv_has ls nL lv → W (xp x) (xl x) (xe x) (xR x) (xs x) (xm x) (xa x) (xb x) (xM x) (xc x) H locs (xk x) (xj x) Q (F0 (xm x) pc ls st)
def ZS (x : Fx) (E : Ev) (rm : Room) (cc : ByteArray) (nL : Nat) (own : String) (ret : Option FieldType) : Prop :=
  (xp x).tables.exec = Jvm.exec ∧ (xc x).code = cc ∧ (xc x).maxLocals = nL ∧ (xs x).vm.findClass own = some (xm x).cls ∧ (∀ w ∈ zt, w.before (xa x) (xs x) = true) ∧ (xM x).sig.returnType = ret ∧ (xM x).locks = false ∧ EK E (xs x) ∧ EvOK E ∧ (∀ c, c < NC → xA x (ad E c)) ∧ xR x = rm ∧ xk x ≤ 100 ∧ xj x ≤ 2000
/-- what a class' objects want -/
def CF (K : Nat) (C : String) (T : u_T) (N : Nat) (ty : Nat → FieldType) : Prop :=
  classes[K]? = some (C, T, N) ∧ (∀ w ∈ u_ws C T N, w ∈ zt) ∧ (∀ k, k < N → parseFieldDescriptor (T k).2.2.1 = some (ty k)) ∧ (∀ a, a < N → ∀ b, b < N → a ≠ b → (T a).2.1 ≠ (T b).2.1) ∧ fn K = N ∧ K < 9
section ROWS
variable {x : Fx} {E : Ev} {rm : Room} {cc : ByteArray} {nL : Nat} {own : String} {ret : Option FieldType} {Q : State → Prop} {P : PH} {pc : Nat} {lv : List (Nat × Value)} {st : List Value}
theorem z_sub (ks : List Nat) {lv' : List (Nat × Value)} (h : lv_pick lv ks = lv') (k : Wz x E nL Q P pc lv' st) : Wz x E nL Q P pc lv st := fun H locs ls h1 h2 h3 => k H locs ls h1 h2 (lv_sub h3 ks h)
theorem z_iconst (S : ZS x E rm cc nL own ret) {n : Int} {v : Int32} (d : decode cc pc = .ok (.iconst n, 1)) (hv : Int32.ofInt n = v) (k : Wz x E nL Q P (pc + 1) lv (.int v :: st)) : Wz x E nL Q P pc lv st := fun H locs ls h1 h2 h3 => lv_iconst S.1 S.2.1 d hv (k H locs ls h1 h2 h3)
theorem z_bipush (S : ZS x E rm cc nL own ret) {n : Int} {v : Int32} (d : decode cc pc = .ok (.bipush n, 2)) (hv : (Int8.ofInt n).toInt32 = v) (k : Wz x E nL Q P (pc + 2) lv (.int v :: st)) : Wz x E nL Q P pc lv st := fun H locs ls h1 h2 h3 => lv_bipush S.1 S.2.1 d hv (k H locs ls h1 h2 h3)
theorem z_sipush (S : ZS x E rm cc nL own ret) {n : Int} {v : Int32} (d : decode cc pc = .ok (.sipush n, 3)) (hv : (Int16.ofInt n).toInt32 = v) (k : Wz x E nL Q P (pc + 3) lv (.int v :: st)) : Wz x E nL Q P pc lv st := fun H locs ls h1 h2 h3 => lv_sipush S.1 S.2.1 d hv (k H locs ls h1 h2 h3)
theorem z_lconst (S : ZS x E rm cc nL own ret) {n : Fin 2} {v : Int64} (d : decode cc pc = .ok (.lconst n, 1)) (hv : Int64.ofNat (n : Nat) = v) (k : Wz x E nL Q P (pc + 1) lv (.long v :: st)) : Wz x E nL Q P pc lv st := fun H locs ls h1 h2 h3 => lv_lconst S.1 S.2.1 d hv (k H locs ls h1 h2 h3)
theorem z_ldc (S : ZS x E rm cc nL own ret) {index : Nat} {v : Int32} (hw : Cond.constant own index v ∈ zt) (d : decode cc pc = .ok (.ldc index, 2)) (k : Wz x E nL Q P (pc + 2) lv (.int v :: st)) : Wz x E nL Q P pc lv st := fun H locs ls h1 h2 h3 => lv_ldc S.1 S.2.1 S.2.2.2.1 (S.2.2.2.2.1 _ hw) d (k H locs ls h1 h2 h3)
theorem z_ldcw (S : ZS x E rm cc nL own ret) {index : Nat} {v : Int32} (hw : Cond.constant own index v ∈ zt) (d : decode cc pc = .ok (.ldc_w index, 3)) (k : Wz x E nL Q P (pc + 3) lv (.int v :: st)) : Wz x E nL Q P pc lv st := fun H locs ls h1 h2 h3 => lv_ldcw S.1 S.2.1 S.2.2.2.1 (S.2.2.2.2.1 _ hw) d (k H locs ls h1 h2 h3)
theorem z_ldc2 (S : ZS x E rm cc nL own ret) {index : Nat} {v : Int64} (hw : Cond.constantLong own index v ∈ zt) (d : decode cc pc = .ok (.ldc2_w index, 3)) (k : Wz x E nL Q P (pc + 3) lv (.long v :: st)) : Wz x E nL Q P pc lv st := fun H locs ls h1 h2 h3 => lv_ldc2 S.1 S.2.1 S.2.2.2.1 (S.2.2.2.2.1 _ hw) d (k H locs ls h1 h2 h3)
theorem z_iload_n (S : ZS x E rm cc nL own ret) (j : Nat) {q : Fin 4} {i : Nat} {v : Int32} (d : decode cc pc = .ok (.iload_n q, 1)) (hi : (q : Nat) = i) (hj : lv[j]? = some (i, .int v)) (k : Wz x E nL Q P (pc + 1) lv (.int v :: st)) : Wz x E nL Q P pc lv st := fun H locs ls h1 h2 h3 => lv_iload_n S.1 S.2.1 d hi (lv_at h3 j hj) (k H locs ls h1 h2 h3)
theorem z_iload (S : ZS x E rm cc nL own ret) (j : Nat) {i : Nat} {v : Int32} (d : decode cc pc = .ok (.iload i, 2)) (hj : lv[j]? = some (i, .int v)) (k : Wz x E nL Q P (pc + 2) lv (.int v :: st)) : Wz x E nL Q P pc lv st := fun H locs ls h1 h2 h3 => lv_iload S.1 S.2.1 d (lv_at h3 j hj) (k H locs ls h1 h2 h3)
theorem z_aload_n (S : ZS x E rm cc nL own ret) (j : Nat) {q : Fin 4} {i : Nat} {v : Nat} (d : decode cc pc = .ok (.aload_n q, 1)) (hi : (q : Nat) = i) (hj : lv[j]? = some (i, .ref v)) (k : Wz x E nL Q P (pc + 1) lv (.ref v :: st)) : Wz x E nL Q P pc lv st := fun H locs ls h1 h2 h3 => lv_aload_n S.1 S.2.1 d hi (lv_at h3 j hj) (k H locs ls h1 h2 h3)
theorem z_aload (S : ZS x E rm cc nL own ret) (j : Nat) {i : Nat} {v : Nat} (d : decode cc pc = .ok (.aload i, 2)) (hj : lv[j]? = some (i, .ref v)) (k : Wz x E nL Q P (pc + 2) lv (.ref v :: st)) : Wz x E nL Q P pc lv st := fun H locs ls h1 h2 h3 => lv_aload S.1 S.2.1 d (lv_at h3 j hj) (k H locs ls h1 h2 h3)
theorem z_istore_n (S : ZS x E rm cc nL own ret) {q : Fin 4} {i : Nat} {v : Int32} {lv' : List (Nat × Value)} (d : decode cc pc = .ok (.istore_n q, 1)) (hi : (q : Nat) = i) (hn : i < nL) (hl : (i, Value.int v) :: lv.filter (fun q => !(q.1 == i) && !(q.1 + 1 == i && q.2.category == 2)) = lv') (k : Wz x E nL Q P (pc + 1) lv' st) : Wz x E nL Q P pc lv (.int v :: st) := fun H locs _ h1 h2 h3 => lv_istore_n S.1 S.2.1 d hi h3 hn hl (fun ls h3 => k H locs ls h1 h2 h3)
theorem z_istore (S : ZS x E rm cc nL own ret) {i : Nat} {v : Int32} {lv' : List (Nat × Value)} (d : decode cc pc = .ok (.istore i, 2)) (hn : i < nL) (hl : (i, Value.int v) :: lv.filter (fun q => !(q.1 == i) && !(q.1 + 1 == i && q.2.category == 2)) = lv') (k : Wz x E nL Q P (pc + 2) lv' st) : Wz x E nL Q P pc lv (.int v :: st) := fun H locs _ h1 h2 h3 => lv_istore S.1 S.2.1 d h3 hn hl (fun ls h3 => k H locs ls h1 h2 h3)
theorem z_astore_n (S : ZS x E rm cc nL own ret) {q : Fin 4} {i : Nat} {v : Nat} {lv' : List (Nat × Value)} (d : decode cc pc = .ok (.astore_n q, 1)) (hi : (q : Nat) = i) (hn : i < nL) (hl : (i, Value.ref v) :: lv.filter (fun q => !(q.1 == i) && !(q.1 + 1 == i && q.2.category == 2)) = lv') (k : Wz x E nL Q P (pc + 1) lv' st) : Wz x E nL Q P pc lv (.ref v :: st) := fun H locs _ h1 h2 h3 => lv_astore_n S.1 S.2.1 d hi h3 hn hl (fun ls h3 => k H locs ls h1 h2 h3)
theorem z_iinc (S : ZS x E rm cc nL own ret) (j : Nat) {i : Nat} {n : Int} {u v : Int32} {lv' : List (Nat × Value)} (d : decode cc pc = .ok (.iinc i n, 3)) (hj : lv[j]? = some (i, .int u)) (hv : u + Int32.ofInt n = v) (hn : i < nL) (hl : (i, Value.int v) :: lv.filter (fun q => !(q.1 == i) && !(q.1 + 1 == i && q.2.category == 2)) = lv') (k : Wz x E nL Q P (pc + 3) lv' st) : Wz x E nL Q P pc lv st := fun H locs _ h1 h2 h3 => lv_iinc S.1 S.2.1 d h3 hj hv hn hl (fun ls h3 => k H locs ls h1 h2 h3)
theorem z_iadd (S : ZS x E rm cc nL own ret) {a b : Int32} (d : decode cc pc = .ok (.iadd, 1)) (k : Wz x E nL Q P (pc + 1) lv (.int (a + b) :: st)) : Wz x E nL Q P pc lv (.int b :: .int a :: st) := fun H locs ls h1 h2 h3 => lv_iadd S.1 S.2.1 d (k H locs ls h1 h2 h3)
theorem z_isub (S : ZS x E rm cc nL own ret) {a b : Int32} (d : decode cc pc = .ok (.isub, 1)) (k : Wz x E nL Q P (pc + 1) lv (.int (a - b) :: st)) : Wz x E nL Q P pc lv (.int b :: .int a :: st) := fun H locs ls h1 h2 h3 => lv_isub S.1 S.2.1 d (k H locs ls h1 h2 h3)
theorem z_imul (S : ZS x E rm cc nL own ret) {a b : Int32} (d : decode cc pc = .ok (.imul, 1)) (k : Wz x E nL Q P (pc + 1) lv (.int (a * b) :: st)) : Wz x E nL Q P pc lv (.int b :: .int a :: st) := fun H locs ls h1 h2 h3 => lv_imul S.1 S.2.1 d (k H locs ls h1 h2 h3)
theorem z_iand (S : ZS x E rm cc nL own ret) {a b : Int32} (d : decode cc pc = .ok (.iand, 1)) (k : Wz x E nL Q P (pc + 1) lv (.int (a &&& b) :: st)) : Wz x E nL Q P pc lv (.int b :: .int a :: st) := fun H locs ls h1 h2 h3 => lv_iand S.1 S.2.1 d (k H locs ls h1 h2 h3)
theorem z_ior (S : ZS x E rm cc nL own ret) {a b : Int32} (d : decode cc pc = .ok (.ior, 1)) (k : Wz x E nL Q P (pc + 1) lv (.int (a ||| b) :: st)) : Wz x E nL Q P pc lv (.int b :: .int a :: st) := fun H locs ls h1 h2 h3 => lv_ior S.1 S.2.1 d (k H locs ls h1 h2 h3)
theorem z_ixor (S : ZS x E rm cc nL own ret) {a b : Int32} (d : decode cc pc = .ok (.ixor, 1)) (k : Wz x E nL Q P (pc + 1) lv (.int (a ^^^ b) :: st)) : Wz x E nL Q P pc lv (.int b :: .int a :: st) := fun H locs ls h1 h2 h3 => lv_ixor S.1 S.2.1 d (k H locs ls h1 h2 h3)
theorem z_ishl (S : ZS x E rm cc nL own ret) {a b : Int32} (d : decode cc pc = .ok (.ishl, 1)) (k : Wz x E nL Q P (pc + 1) lv (.int (a <<< (b &&& 31)) :: st)) : Wz x E nL Q P pc lv (.int b :: .int a :: st) := fun H locs ls h1 h2 h3 => lv_ishl S.1 S.2.1 d (k H locs ls h1 h2 h3)
theorem z_ishr (S : ZS x E rm cc nL own ret) {a b : Int32} (d : decode cc pc = .ok (.ishr, 1)) (k : Wz x E nL Q P (pc + 1) lv (.int (a >>> (b &&& 31)) :: st)) : Wz x E nL Q P pc lv (.int b :: .int a :: st) := fun H locs ls h1 h2 h3 => lv_ishr S.1 S.2.1 d (k H locs ls h1 h2 h3)
theorem z_iushr (S : ZS x E rm cc nL own ret) {a b : Int32} (d : decode cc pc = .ok (.iushr, 1)) (k : Wz x E nL Q P (pc + 1) lv (.int (a.toUInt32 >>> (b.toUInt32 &&& Int32.toUInt32 31)).toInt32 :: st)) : Wz x E nL Q P pc lv (.int b :: .int a :: st) := fun H locs ls h1 h2 h3 => lv_iushr S.1 S.2.1 d rfl (k H locs ls h1 h2 h3)
theorem z_idiv (S : ZS x E rm cc nL own ret) {α : Type} {A : Option α} {q : α} {a b : Int32} (d : decode cc pc = .ok (.idiv, 1)) (hf : (if b = 0 then none else A) = some q) (k : A = some q → Wz x E nL Q P (pc + 1) lv (.int (a / b) :: st)) : Wz x E nL Q P pc lv (.int b :: .int a :: st) := by
  by_cases h : b = 0
  · rw [if_pos h] at hf
    cases hf
  · rw [if_neg h] at hf
    exact fun H locs ls h1 h2 h3 => lv_idiv S.1 S.2.1 d h (k hf H locs ls h1 h2 h3)
theorem z_irem (S : ZS x E rm cc nL own ret) {α : Type} {A : Option α} {q : α} {a b : Int32} (d : decode cc pc = .ok (.irem, 1)) (hf : (if b = 0 then none else A) = some q) (k : A = some q → Wz x E nL Q P (pc + 1) lv (.int (a - a / b * b) :: st)) : Wz x E nL Q P pc lv (.int b :: .int a :: st) := by
  by_cases h : b = 0
  · rw [if_pos h] at hf
    cases hf
  · rw [if_neg h] at hf
    exact fun H locs ls h1 h2 h3 => lv_irem S.1 S.2.1 d h (k hf H locs ls h1 h2 h3)
theorem z_ladd (S : ZS x E rm cc nL own ret) {a b : Int64} (d : decode cc pc = .ok (.ladd, 1)) (k : Wz x E nL Q P (pc + 1) lv (.long (a + b) :: st)) : Wz x E nL Q P pc lv (.long b :: .long a :: st) := fun H locs ls h1 h2 h3 => lv_ladd S.1 S.2.1 d (k H locs ls h1 h2 h3)
theorem z_dup (S : ZS x E rm cc nL own ret) {v : Value} (d : decode cc pc = .ok (.dup, 1)) (hv : v.category = 1) (k : Wz x E nL Q P (pc + 1) lv (v :: v :: st)) : Wz x E nL Q P pc lv (v :: st) := fun H locs ls h1 h2 h3 => lv_dup S.1 S.2.1 d hv (k H locs ls h1 h2 h3)
theorem z_dup2 (S : ZS x E rm cc nL own ret) {v w : Value} (d : decode cc pc = .ok (.dup2, 1)) (hv : v.category = 1) (hw : w.category = 1) (k : Wz x E nL Q P (pc + 1) lv (v :: w :: v :: w :: st)) : Wz x E nL Q P pc lv (v :: w :: st) := fun H locs ls h1 h2 h3 => lv_dup2_11 S.1 S.2.1 d hv hw (k H locs ls h1 h2 h3)
theorem z_goto (S : ZS x E rm cc nL own ret) {off : Int} {tgt : Nat} (d : decode cc pc = .ok (.goto off, 3)) (ht : (pc : Int) + off = (tgt : Int)) (k : Wz x E nL Q P tgt lv st) : Wz x E nL Q P pc lv st := fun H locs ls h1 h2 h3 => lv_goto S.1 S.2.1 d ht (k H locs ls h1 h2 h3)
theorem z_if_eq (S : ZS x E rm cc nL own ret) {α : Type} {A B : Option α} {q : α} {a : Int32} {off : Int} {tgt : Nat} {hdec : Decidable (a = 0)} (d : decode cc pc = .ok (.ifCond .eq off, 3)) (ht : (pc : Int) + off = (tgt : Int)) (hf : (if a = 0 then A else B) = some q) (kt : A = some q → Wz x E nL Q P tgt lv st) (kf : B = some q → Wz x E nL Q P (pc + 3) lv st) : Wz x E nL Q P pc lv (.int a :: st) := fun H locs ls h1 h2 h3 => lv_if_eq S.1 S.2.1 d ht (fun h => kt (by rw [if_pos h] at hf; exact hf) H locs ls h1 h2 h3) (fun h => kf (by rw [if_neg h] at hf; exact hf) H locs ls h1 h2 h3)
theorem z_if_ne (S : ZS x E rm cc nL own ret) {α : Type} {A B : Option α} {q : α} {a : Int32} {off : Int} {tgt : Nat} {hdec : Decidable (a = 0)} (d : decode cc pc = .ok (.ifCond .ne off, 3)) (ht : (pc : Int) + off = (tgt : Int)) (hf : (if a = 0 then A else B) = some q) (kt : A = some q → Wz x E nL Q P (pc + 3) lv st) (kf : B = some q → Wz x E nL Q P tgt lv st) : Wz x E nL Q P pc lv (.int a :: st) := fun H locs ls h1 h2 h3 => lv_if_ne S.1 S.2.1 d ht (fun h => kf (by rw [if_neg h] at hf; exact hf) H locs ls h1 h2 h3) (fun h => kt (by rw [if_pos h] at hf; exact hf) H locs ls h1 h2 h3)
theorem z_if_lt (S : ZS x E rm cc nL own ret) {α : Type} {A B : Option α} {q : α} {a : Int32} {off : Int} {tgt : Nat} {hdec : Decidable (a < 0)} (d : decode cc pc = .ok (.ifCond .lt off, 3)) (ht : (pc : Int) + off = (tgt : Int)) (hf : (if a < 0 then A else B) = some q) (kt : A = some q → Wz x E nL Q P tgt lv st) (kf : B = some q → Wz x E nL Q P (pc + 3) lv st) : Wz x E nL Q P pc lv (.int a :: st) := fun H locs ls h1 h2 h3 => lv_if_lt S.1 S.2.1 d ht (fun h => kt (by rw [if_pos h] at hf; exact hf) H locs ls h1 h2 h3) (fun h => kf (by rw [if_neg h] at hf; exact hf) H locs ls h1 h2 h3)
theorem z_if_le (S : ZS x E rm cc nL own ret) {α : Type} {A B : Option α} {q : α} {a : Int32} {off : Int} {tgt : Nat} {hdec : Decidable (a ≤ 0)} (d : decode cc pc = .ok (.ifCond .le off, 3)) (ht : (pc : Int) + off = (tgt : Int)) (hf : (if a ≤ 0 then A else B) = some q) (kt : A = some q → Wz x E nL Q P tgt lv st) (kf : B = some q → Wz x E nL Q P (pc + 3) lv st) : Wz x E nL Q P pc lv (.int a :: st) := fun H locs ls h1 h2 h3 => lv_if_le S.1 S.2.1 d ht (fun h => kt (by rw [if_pos h] at hf; exact hf) H locs ls h1 h2 h3) (fun h => kf (by rw [if_neg h] at hf; exact hf) H locs ls h1 h2 h3)
theorem z_if_gt (S : ZS x E rm cc nL own ret) {α : Type} {A B : Option α} {q : α} {a : Int32} {off : Int} {tgt : Nat} {hdec : Decidable (0 < a)} (d : decode cc pc = .ok (.ifCond .gt off, 3)) (ht : (pc : Int) + off = (tgt : Int)) (hf : (if 0 < a then A else B) = some q) (kt : A = some q → Wz x E nL Q P tgt lv st) (kf : B = some q → Wz x E nL Q P (pc + 3) lv st) : Wz x E nL Q P pc lv (.int a :: st) := fun H locs ls h1 h2 h3 => lv_if_gt S.1 S.2.1 d ht (fun h => kt (by rw [if_pos h] at hf; exact hf) H locs ls h1 h2 h3) (fun h => kf (by rw [if_neg h] at hf; exact hf) H locs ls h1 h2 h3)
theorem z_if_ge (S : ZS x E rm cc nL own ret) {α : Type} {A B : Option α} {q : α} {a : Int32} {off : Int} {tgt : Nat} {hdec : Decidable (0 ≤ a)} (d : decode cc pc = .ok (.ifCond .ge off, 3)) (ht : (pc : Int) + off = (tgt : Int)) (hf : (if 0 ≤ a then A else B) = some q) (kt : A = some q → Wz x E nL Q P tgt lv st) (kf : B = some q → Wz x E nL Q P (pc + 3) lv st) : Wz x E nL Q P pc lv (.int a :: st) := fun H locs ls h1 h2 h3 => lv_if_ge S.1 S.2.1 d ht (fun h => kt (by rw [if_pos h] at hf; exact hf) H locs ls h1 h2 h3) (fun h => kf (by rw [if_neg h] at hf; exact hf) H locs ls h1 h2 h3)
theorem z_icmp_eq (S : ZS x E rm cc nL own ret) {α : Type} {A B : Option α} {q : α} {a b : Int32} {off : Int} {tgt : Nat} {hdec : Decidable (a = b)} (d : decode cc pc = .ok (.if_icmp .eq off, 3)) (ht : (pc : Int) + off = (tgt : Int)) (hf : (if a = b then A else B) = some q) (kt : A = some q → Wz x E nL Q P tgt lv st) (kf : B = some q → Wz x E nL Q P (pc + 3) lv st) : Wz x E nL Q P pc lv (.int b :: .int a :: st) := fun H locs ls h1 h2 h3 => lv_icmp_eq S.1 S.2.1 d ht (fun h => kt (by rw [if_pos h] at hf; exact hf) H locs ls h1 h2 h3) (fun h => kf (by rw [if_neg h] at hf; exact hf) H locs ls h1 h2 h3)
theorem z_icmp_ne (S : ZS x E rm cc nL own ret) {α : Type} {A B : Option α} {q : α} {a b : Int32} {off : Int} {tgt : Nat} {hdec : Decidable (a = b)} (d : decode cc pc = .ok (.if_icmp .ne off, 3)) (ht : (pc : Int) + off = (tgt : Int)) (hf : (if a = b then A else B) = some q) (kt : A = some q → Wz x E nL Q P (pc + 3) lv st) (kf : B = some q → Wz x E nL Q P tgt lv st) : Wz x E nL Q P pc lv (.int b :: .int a :: st) := fun H locs ls h1 h2 h3 => lv_icmp_ne S.1 S.2.1 d ht (fun h => kf (by rw [if_neg h] at hf; exact hf) H locs ls h1 h2 h3) (fun h => kt (by rw [if_pos h] at hf; exact hf) H locs ls h1 h2 h3)
theorem z_icmp_lt (S : ZS x E rm cc nL own ret) {α : Type} {A B : Option α} {q : α} {a b : Int32} {off : Int} {tgt : Nat} {hdec : Decidable (a < b)} (d : decode cc pc = .ok (.if_icmp .lt off, 3)) (ht : (pc : Int) + off = (tgt : Int)) (hf : (if a < b then A else B) = some q) (kt : A = some q → Wz x E nL Q P tgt lv st) (kf : B = some q → Wz x E nL Q P (pc + 3) lv st) : Wz x E nL Q P pc lv (.int b :: .int a :: st) := fun H locs ls h1 h2 h3 => lv_icmp_lt S.1 S.2.1 d ht (fun h => kt (by rw [if_pos h] at hf; exact hf) H locs ls h1 h2 h3) (fun h => kf (by rw [if_neg h] at hf; exact hf) H locs ls h1 h2 h3)
theorem z_icmp_le (S : ZS x E rm cc nL own ret) {α : Type} {A B : Option α} {q : α} {a b : Int32} {off : Int} {tgt : Nat} {hdec : Decidable (a ≤ b)} (d : decode cc pc = .ok (.if_icmp .le off, 3)) (ht : (pc : Int) + off = (tgt : Int)) (hf : (if a ≤ b then A else B) = some q) (kt : A = some q → Wz x E nL Q P tgt lv st) (kf : B = some q → Wz x E nL Q P (pc + 3) lv st) : Wz x E nL Q P pc lv (.int b :: .int a :: st) := fun H locs ls h1 h2 h3 => lv_icmp_le S.1 S.2.1 d ht (fun h => kt (by rw [if_pos h] at hf; exact hf) H locs ls h1 h2 h3) (fun h => kf (by rw [if_neg h] at hf; exact hf) H locs ls h1 h2 h3)
theorem z_icmp_gt (S : ZS x E rm cc nL own ret) {α : Type} {A B : Option α} {q : α} {a b : Int32} {off : Int} {tgt : Nat} {hdec : Decidable (b < a)} (d : decode cc pc = .ok (.if_icmp .gt off, 3)) (ht : (pc : Int) + off = (tgt : Int)) (hf : (if b < a then A else B) = some q) (kt : A = some q → Wz x E nL Q P tgt lv st) (kf : B = some q → Wz x E nL Q P (pc + 3) lv st) : Wz x E nL Q P pc lv (.int b :: .int a :: st) := fun H locs ls h1 h2 h3 => lv_icmp_gt S.1 S.2.1 d ht (fun h => kt (by rw [if_pos h] at hf; exact hf) H locs ls h1 h2 h3) (fun h => kf (by rw [if_neg h] at hf; exact hf) H locs ls h1 h2 h3)
theorem z_icmp_ge (S : ZS x E rm cc nL own ret) {α : Type} {A B : Option α} {q : α} {a b : Int32} {off : Int} {tgt : Nat} {hdec : Decidable (b ≤ a)} (d : decode cc pc = .ok (.if_icmp .ge off, 3)) (ht : (pc : Int) + off = (tgt : Int)) (hf : (if b ≤ a then A else B) = some q) (kt : A = some q → Wz x E nL Q P tgt lv st) (kf : B = some q → Wz x E nL Q P (pc + 3) lv st) : Wz x E nL Q P pc lv (.int b :: .int a :: st) := fun H locs ls h1 h2 h3 => lv_icmp_ge S.1 S.2.1 d ht (fun h => kt (by rw [if_pos h] at hf; exact hf) H locs ls h1 h2 h3) (fun h => kf (by rw [if_neg h] at hf; exact hf) H locs ls h1 h2 h3)
theorem z_tif {α : Type} {A B : Option α} {q : α} {c G : Prop} {hdec : Decidable c} (hf : (if c then A else B) = some q) (kt : c → A = some q → G) (kf : ¬ c → B = some q → G) : G := by
  by_cases h : c
  · rw [if_pos h] at hf
    exact kt h hf
  · rw [if_neg h] at hf
    exact kf h hf
theorem z_let {α β : Type} {T : β} {B : β → Option α} {q : α} {G : Prop} (hf : (fun J => B J) T = some q) (k : ∀ J, J = T → B J = some q → G) : G := k T rfl hf
theorem z_tabIn (S : ZS x E rm cc nL own ret) {dflt lo hi : Int} {offs : Array Int} {len : Nat} {v : Int32} {off : Int} {tgt : Nat} (i : Nat) (d : decode cc pc = .ok (.tableswitch dflt lo hi offs, len)) (hv : v.toInt = lo + i) (hh : lo + i ≤ hi) (ho : offs[i]? = some off) (ht : (pc : Int) + off = (tgt : Int)) (k : Wz x E nL Q P tgt lv st) : Wz x E nL Q P pc lv (.int v :: st) :=
  fun H locs ls h1 h2 h3 => lv_tableIn S.1 S.2.1 d (by omega) (by omega) (by rw [show (v.toInt - lo).toNat = i by omega]; exact ho) ht (k H locs ls h1 h2 h3)
theorem z_tabOut (S : ZS x E rm cc nL own ret) {dflt lo hi : Int} {offs : Array Int} {len : Nat} {v : Int32} {tgt : Nat} (d : decode cc pc = .ok (.tableswitch dflt lo hi offs, len)) (h : v.toInt < lo ∨ hi < v.toInt) (ht : (pc : Int) + dflt = (tgt : Int)) (k : Wz x E nL Q P tgt lv st) : Wz x E nL Q P pc lv (.int v :: st) :=
  fun H locs ls h1 h2 h3 => lv_tableOut S.1 S.2.1 d h ht (k H locs ls h1 h2 h3)
theorem z_lookup (S : ZS x E rm cc nL own ret) {dflt : Int} {ps : Array (Int × Int)} {len : Nat} {v : Int32} {off : Int} {tgt : Nat} (d : decode cc pc = .ok (.lookupswitch dflt ps, len)) (hp : (ps.toList.zip (ps.toList.drop 1)).all (fun (a, next) => a.1 < next.1) = true) (ho : Op.lookupswitch.offset ps.toList dflt v.toInt = off) (ht : (pc : Int) + off = (tgt : Int)) (k : Wz x E nL Q P tgt lv st) : Wz x E nL Q P pc lv (.int v :: st) :=
  fun H locs ls h1 h2 h3 => lv_lookup S.1 S.2.1 d hp ho ht (k H locs ls h1 h2 h3)
theorem z_getI (S : ZS x E rm cc nL own ret) {K N h n : Nat} {C : String} {T : u_T} {ty : Nat → FieldType} (cf : CF K C T N ty) (hk : ok h K n) (j : Nat) {idx : Nat} (hj : j < N) (hft : ft K j = 0) (hw : Cond.fieldLink own idx (T j).1 (T j).2.1 (T j).2.2.1 ∈ zt) (d : decode cc pc = .ok (.getfield idx, 3)) (k : Wz x E nL Q P (pc + 3) lv (.int (P.1 h j) :: st)) : Wz x E nL Q P pc lv (.ref (ad E h) :: st) :=
  fun H locs ls h1 h2 h3 => va_get S.1 S.2.1 S.2.2.2.2.1 cf.2.1 S.2.2.2.1 S.2.2.2.2.2.2.2.1 h1.1 h ((wl_get hk.1).trans (by rw [en_o hk cf.2.2.2.2.2])) cf.1 j hj (S.2.2.2.2.1 _ hw) (fun _ z => z) (by rw [fv_get (by rw [cf.2.2.2.2.1]; exact hj)]; unfold fv; rw [if_pos hft]) d (k H locs ls h1 h2 h3)
theorem z_getL (S : ZS x E rm cc nL own ret) {K N h n : Nat} {C : String} {T : u_T} {ty : Nat → FieldType} (cf : CF K C T N ty) (hk : ok h K n) (j : Nat) {idx : Nat} (hj : j < N) (hft : ft K j = 1) (hw : Cond.fieldLink own idx (T j).1 (T j).2.1 (T j).2.2.1 ∈ zt) (d : decode cc pc = .ok (.getfield idx, 3)) (k : Wz x E nL Q P (pc + 3) lv (.long (P.2.1 h) :: st)) : Wz x E nL Q P pc lv (.ref (ad E h) :: st) :=
  fun H locs ls h1 h2 h3 => va_get S.1 S.2.1 S.2.2.2.2.1 cf.2.1 S.2.2.2.1 S.2.2.2.2.2.2.2.1 h1.1 h ((wl_get hk.1).trans (by rw [en_o hk cf.2.2.2.2.2])) cf.1 j hj (S.2.2.2.2.1 _ hw) (fun _ z => z) (by rw [fv_get (by rw [cf.2.2.2.2.1]; exact hj)]; unfold fv; rw [if_neg (by omega), if_pos hft]) d (k H locs ls h1 h2 h3)
theorem z_getR (S : ZS x E rm cc nL own ret) {K N h n K' n' : Nat} {C : String} {T : u_T} {ty : Nat → FieldType} (cf : CF K C T N ty) (hk : ok h K n) (j : Nat) {idx : Nat} (hj : j < N) (hft : ft K j = 2) (hK : fk K j = K') (hn : fl K j = n') (hw : Cond.fieldLink own idx (T j).1 (T j).2.1 (T j).2.2.1 ∈ zt) (d : decode cc pc = .ok (.getfield idx, 3)) (k : ok (P.2.2 h j) K' n' → Wz x E nL Q P (pc + 3) lv (.ref (ad E (P.2.2 h j)) :: st)) : Wz x E nL Q P pc lv (.ref (ad E h) :: st) :=
  fun H locs ls h1 h2 h3 => va_get S.1 S.2.1 S.2.2.2.2.1 cf.2.1 S.2.2.2.1 S.2.2.2.2.2.2.2.1 h1.1 h ((wl_get hk.1).trans (by rw [en_o hk cf.2.2.2.2.2])) cf.1 j hj (S.2.2.2.2.1 _ hw) (fun _ z => z) (by rw [fv_get (by rw [cf.2.2.2.2.1]; exact hj)]; unfold fv; rw [if_neg (by omega), if_neg (by omega)]) d (k (by have := h1.2 h j hk.1 (by rw [hk.2.1]; exact hft); rw [hk.2.1, hK, hn] at this; exact this) H locs ls h1 h2 h3)
theorem z_putI (S : ZS x E rm cc nL own ret) {K N h n : Nat} {C : String} {T : u_T} {ty : Nat → FieldType} (cf : CF K C T N ty) (hk : ok h K n) (j : Nat) {idx : Nat} {v : Int32} (hj : j < N) (hft : ft K j = 0) (hfin : (T j).2.2.2 = false) (hna : narrow (ty j) (.int v) = .int v) (hfi : fits (ty j) (.int v) = true) (hw : Cond.fieldLink own idx (T j).1 (T j).2.1 (T j).2.2.1 ∈ zt) (d : decode cc pc = .ok (.putfield idx, 3)) (k : Wz x E nL Q (sI P h j v) (pc + 3) lv st) : Wz x E nL Q P pc lv (.int v :: .ref (ad E h) :: st) :=
  fun H locs ls h1 h2 h3 => va_put S.1 S.2.1 S.2.2.2.2.1 cf.2.1 ty cf.2.2.1 cf.2.2.2.1 S.2.2.2.1 S.2.2.2.2.2.2.2.1 h1.1 (wl_D S.2.2.2.2.2.2.2.2.1 S.2.2.2.2.2.2.2.2.2.1) h2 h ((wl_get hk.1).trans (by rw [en_o hk cf.2.2.2.2.2])) cf.1 j hj (S.2.2.2.2.1 _ hw) (fun _ z => z) hfin (cf.2.2.1 j hj) hna hfi (by rw [List.length_map, List.length_range, cf.2.2.2.2.1]; exact hj) d
    (fun H1 locs1 g1 _ g3 => k H1 locs1 ls ⟨by
      rw [← wl_sF (P := P) (P' := sI P h j v) (v := .int v) hk cf.2.2.2.2.2 (by rw [cf.2.2.2.2.1]; exact hj) (by unfold fv; rw [if_pos hft]; unfold sI; rw [sA_eq]; simp [upd]) (fun k' hk' => by unfold fv sI; rw [sA_eq]; simp [upd, hk']; rfl) (fun c' hc => en_ne (sA_ne hc) rfl rfl)]
      exact g1, h1.2⟩ g3 h3)
theorem z_putL (S : ZS x E rm cc nL own ret) {K N h n : Nat} {C : String} {T : u_T} {ty : Nat → FieldType} (cf : CF K C T N ty) (hk : ok h K n) (j : Nat) {idx : Nat} {v : Int64} (hj : j < N) (hft : ft K j = 1) (hsole : ∀ k, k ≠ j → ¬ ft K k = 1) (hfin : (T j).2.2.2 = false) (hna : narrow (ty j) (.long v) = .long v) (hfi : fits (ty j) (.long v) = true) (hw : Cond.fieldLink own idx (T j).1 (T j).2.1 (T j).2.2.1 ∈ zt) (d : decode cc pc = .ok (.putfield idx, 3)) (k : Wz x E nL Q (sL P h v) (pc + 3) lv st) : Wz x E nL Q P pc lv (.long v :: .ref (ad E h) :: st) :=
  fun H locs ls h1 h2 h3 => va_put S.1 S.2.1 S.2.2.2.2.1 cf.2.1 ty cf.2.2.1 cf.2.2.2.1 S.2.2.2.1 S.2.2.2.2.2.2.2.1 h1.1 (wl_D S.2.2.2.2.2.2.2.2.1 S.2.2.2.2.2.2.2.2.2.1) h2 h ((wl_get hk.1).trans (by rw [en_o hk cf.2.2.2.2.2])) cf.1 j hj (S.2.2.2.2.1 _ hw) (fun _ z => z) hfin (cf.2.2.1 j hj) hna hfi (by rw [List.length_map, List.length_range, cf.2.2.2.2.1]; exact hj) d
    (fun H1 locs1 g1 _ g3 => k H1 locs1 ls ⟨by
      rw [← wl_sF (P := P) (P' := sL P h v) (v := .long v) hk cf.2.2.2.2.2 (by rw [cf.2.2.2.2.1]; exact hj) (by unfold fv; rw [if_neg (by omega), if_pos hft, sL_eq]) (fun k' hk' => by unfold fv; rw [if_neg (hsole k' hk'), if_neg (hsole k' hk')]; rfl) (fun c' hc => en_ne rfl (sL_ne hc) rfl)]
      exact g1, h1.2⟩ g3 h3)
theorem z_putR (S : ZS x E rm cc nL own ret) {K N h n c : Nat} {C : String} {T : u_T} {ty : Nat → FieldType} (cf : CF K C T N ty) (hk : ok h K n) (j : Nat) {idx : Nat} (hc : ok c (fk K j) (fl K j)) (hj : j < N) (hft : ft K j = 2) (hfin : (T j).2.2.2 = false) (hna : narrow (ty j) (.ref (ad E c)) = .ref (ad E c)) (hfi : fits (ty j) (.ref (ad E c)) = true) (hw : Cond.fieldLink own idx (T j).1 (T j).2.1 (T j).2.2.1 ∈ zt) (d : decode cc pc = .ok (.putfield idx, 3)) (k : Wz x E nL Q (sR P h j c) (pc + 3) lv st) : Wz x E nL Q P pc lv (.ref (ad E c) :: .ref (ad E h) :: st) :=
  fun H locs ls h1 h2 h3 => va_put S.1 S.2.1 S.2.2.2.2.1 cf.2.1 ty cf.2.2.1 cf.2.2.2.1 S.2.2.2.1 S.2.2.2.2.2.2.2.1 h1.1 (wl_D S.2.2.2.2.2.2.2.2.1 S.2.2.2.2.2.2.2.2.2.1) h2 h ((wl_get hk.1).trans (by rw [en_o hk cf.2.2.2.2.2])) cf.1 j hj (S.2.2.2.2.1 _ hw) (fun _ z => z) hfin (cf.2.2.1 j hj) hna hfi (by rw [List.length_map, List.length_range, cf.2.2.2.2.1]; exact hj) d
    (fun H1 locs1 g1 _ g3 => k H1 locs1 ls ⟨by
      rw [← wl_sF (P := P) (P' := sR P h j c) (v := .ref (ad E c)) hk cf.2.2.2.2.2 (by rw [cf.2.2.2.2.1]; exact hj) (by unfold fv; rw [if_neg (by omega), if_neg (by omega), sR_eq]; simp) (fun k' hk' => by unfold fv; rw [sR_eq]; simp [hk']; rfl) (fun c' hc => en_ne rfl rfl (sR_ne hc))]
      exact g1, WT_sR h1.2 (fun _ => by rw [hk.2.1]; exact hc)⟩ g3 h3)
theorem z_in {α : Type} {A : Option α} {q : α} {i : Int32} {n : Nat} {hdec : Decidable (i < 0 ∨ n ≤ i.toNatClampNeg)} (hf : (if (i < 0 ∨ n ≤ i.toNatClampNeg) then none else A) = some q) : vp_in i n ∧ A = some q := by
  by_cases h : (i < 0 ∨ n ≤ i.toNatClampNeg)
  · rw [if_pos h] at hf
    cases hf
  · rw [if_neg h] at hf
    exact ⟨h, hf⟩
theorem z_iald (S : ZS x E rm cc nL own ret) {α : Type} {A : Option α} {q : α} {a n : Nat} {i : Int32} {hdec : Decidable (i < 0 ∨ n ≤ i.toNatClampNeg)} (hk : ok a 9 n) (d : decode cc pc = .ok (.iaload, 1)) (hf : (if (i < 0 ∨ n ≤ i.toNatClampNeg) then none else A) = some q) (k : A = some q → Wz x E nL Q P (pc + 1) lv (.int (P.1 a i.toNatClampNeg) :: st)) : Wz x E nL Q P pc lv (.int i :: .ref (ad E a) :: st) :=
  fun H locs ls h1 h2 h3 => va_iald S.1 S.2.1 S.2.2.2.2.2.2.2.1 h1.1 a 0 ((wl_get hk.1).trans (by rw [en_i hk])) rfl (z_in hf).1 d (k (z_in hf).2 H locs ls h1 h2 h3)
theorem z_bald (S : ZS x E rm cc nL own ret) {α : Type} {A : Option α} {q : α} {a n : Nat} {i : Int32} {hdec : Decidable (i < 0 ∨ n ≤ i.toNatClampNeg)} (hk : ok a 10 n) (d : decode cc pc = .ok (.baload, 1)) (hf : (if (i < 0 ∨ n ≤ i.toNatClampNeg) then none else A) = some q) (k : A = some q → Wz x E nL Q P (pc + 1) lv (.int (P.1 a i.toNatClampNeg) :: st)) : Wz x E nL Q P pc lv (.int i :: .ref (ad E a) :: st) :=
  fun H locs ls h1 h2 h3 => va_zald S.1 S.2.1 S.2.2.2.2.2.2.2.1 h1.1 a 1 ((wl_get hk.1).trans (by rw [en_z hk])) rfl (z_in hf).1 d (k (z_in hf).2 H locs ls h1 h2 h3)
theorem z_aald (S : ZS x E rm cc nL own ret) {α : Type} {A : Option α} {q : α} {a n : Nat} {i : Int32} {hdec : Decidable (i < 0 ∨ n ≤ i.toNatClampNeg)} (hk : ok a 11 n) (hn : n ≤ 2) (d : decode cc pc = .ok (.aaload, 1)) (hf : (if (i < 0 ∨ n ≤ i.toNatClampNeg) then none else A) = some q) (k : ok (P.2.2 a i.toNatClampNeg) 2 0 → A = some q → Wz x E nL Q P (pc + 1) lv (.ref (ad E (P.2.2 a i.toNatClampNeg)) :: st)) : Wz x E nL Q P pc lv (.int i :: .ref (ad E a) :: st) :=
  fun H locs ls h1 h2 h3 => va_aldq (f := fun j => some (ad E (P.2.2 a j))) S.1 S.2.1 S.2.2.2.2.2.2.2.1 h1.1 a 2 ((wl_get hk.1).trans (by rw [en_q hk])) rfl (z_in hf).1 d (k (by
    have hv := (z_in hf).1
    have h5 : i.toNatClampNeg < 2 := Nat.lt_of_lt_of_le (Nat.not_le.mp fun z => hv (Or.inr z)) hn
    have e1 : ∀ j, j < 2 → ft 11 j = 2 := by decide
    have e2 : ∀ j, j < 2 → fk 11 j = 2 ∧ fl 11 j = 0 := by decide
    have h6 := h1.2 a i.toNatClampNeg hk.1 (by rw [hk.2.1]; exact e1 _ h5)
    rw [hk.2.1, (e2 _ h5).1, (e2 _ h5).2] at h6
    exact h6) (z_in hf).2 H locs ls h1 h2 h3)
theorem z_iast (S : ZS x E rm cc nL own ret) {α : Type} {A : Option α} {q : α} {a n : Nat} {i v : Int32} {hdec : Decidable (i < 0 ∨ n ≤ i.toNatClampNeg)} (hk : ok a 9 n) (d : decode cc pc = .ok (.iastore, 1)) (hf : (if (i < 0 ∨ n ≤ i.toNatClampNeg) then none else A) = some q) (k : A = some q → Wz x E nL Q (sI P a i.toNatClampNeg v) (pc + 1) lv st) : Wz x E nL Q P pc lv (.int v :: .int i :: .ref (ad E a) :: st) :=
  fun H locs ls h1 h2 h3 => va_iast S.1 S.2.1 S.2.2.2.2.2.2.2.1 h1.1 (wl_D S.2.2.2.2.2.2.2.2.1 S.2.2.2.2.2.2.2.2.2.1) h2 a 0 ((wl_get hk.1).trans (by rw [en_i hk])) rfl (z_in hf).1 d (fun H1 locs1 g1 _ g3 => k (z_in hf).2 H1 locs1 ls ⟨by rw [wl_sA hk] at g1; exact g1, h1.2⟩ g3 h3)
theorem z_bast (S : ZS x E rm cc nL own ret) {α : Type} {A : Option α} {q : α} {a n : Nat} {i v : Int32} {hdec : Decidable (i < 0 ∨ n ≤ i.toNatClampNeg)} (hk : ok a 10 n) (hv : vp_nar .boolean v = v) (d : decode cc pc = .ok (.bastore, 1)) (hf : (if (i < 0 ∨ n ≤ i.toNatClampNeg) then none else A) = some q) (k : A = some q → Wz x E nL Q (sI P a i.toNatClampNeg v) (pc + 1) lv st) : Wz x E nL Q P pc lv (.int v :: .int i :: .ref (ad E a) :: st) :=
  fun H locs ls h1 h2 h3 => va_zast S.1 S.2.1 S.2.2.2.2.2.2.2.1 h1.1 (wl_D S.2.2.2.2.2.2.2.2.1 S.2.2.2.2.2.2.2.2.2.1) h2 a 1 ((wl_get hk.1).trans (by rw [en_z hk])) rfl (z_in hf).1 d (fun H1 locs1 g1 _ g3 => k (z_in hf).2 H1 locs1 ls ⟨by rw [hv, wl_sAz hk] at g1; exact g1, h1.2⟩ g3 h3)
theorem z_copy (S : ZS x E rm cc nL own ret) {α : Type} {A : Option α} {q : α} {a a0 n n0 : Nat} {sp dp m : Int32} {idx : Nat} {hdec : Decidable (sp < 0 ∨ dp < 0 ∨ m < 0 ∨ n0 < sp.toNatClampNeg + m.toNatClampNeg ∨ n < dp.toNatClampNeg + m.toNatClampNeg)} (hk0 : ok a0 9 n0) (hk : ok a 9 n) (hw : Cond.methodLink own idx arraycopyName ∈ zt) (hnat : Cond.native arraycopyName ∈ zt) (hstat : Cond.static arraycopyName ∈ zt) (hini : Cond.initialized "java/lang/System" ∈ zt) (hr1 : 1 ≤ rm.frames) (hr2 : (st.map fun v => v.category).sum + 18 ≤ rm.locals) (d : decode cc pc = .ok (.invokestatic idx, 3))
    (hf : (if (sp < 0 ∨ dp < 0 ∨ m < 0 ∨ n0 < sp.toNatClampNeg + m.toNatClampNeg ∨ n < dp.toNatClampNeg + m.toNatClampNeg) then none else A) = some q) (k : A = some q → Wz x E nL Q (sA P a (va_cpy (P.1 a0) (P.1 a) sp.toNatClampNeg dp.toNatClampNeg m.toNatClampNeg)) (pc + 3) lv st) : Wz x E nL Q P pc lv (.int m :: .int dp :: .ref (ad E a) :: .int sp :: .ref (ad E a0) :: st) := by
  by_cases hg : (sp < 0 ∨ dp < 0 ∨ m < 0 ∨ n0 < sp.toNatClampNeg + m.toNatClampNeg ∨ n < dp.toNatClampNeg + m.toNatClampNeg)
  · rw [if_pos hg] at hf
    cases hf
  · rw [if_neg hg] at hf
    simp only [not_or] at hg
    intro H locs ls h1 h2 h3
    refine va_copyi S.1 S.2.1 (by rw [S.2.2.1]; exact h3.1.symm) S.2.2.2.1 (S.2.2.2.2.1 _ hw) (S.2.2.2.2.1 _ hnat) (S.2.2.2.2.1 _ hstat) (S.2.2.2.2.1 _ hini) S.2.2.2.2.2.2.2.1 h1.1 (wl_D S.2.2.2.2.2.2.2.2.1 S.2.2.2.2.2.2.2.2.2.1) h2 a0 a 0 0 ((wl_get hk0.1).trans (by rw [en_i hk0])) ((wl_get hk.1).trans (by rw [en_i hk])) rfl rfl rfl hg.1 hg.2.1 hg.2.2.1 (by omega) (by omega) (fun _ _ => rfl) (by rw [S.2.2.2.2.2.2.2.2.2.2.1]; exact hr1) ?_ d (fun H1 locs1 g1 _ g3 => k hf H1 locs1 ls ⟨by rw [wl_sA hk] at g1; exact g1, h1.2⟩ g3 h3)
    rw [S.2.2.2.2.2.2.2.2.2.2.1]
    have e : nativeFrameWords "java/lang/System" "arraycopy" 5 = 7 := by decide
    rw [e]
    omega
/-! answers and contracts -/
def QI (E : Ev) (x : Fx) (r : Int32) (P' : PH) : State → Prop := MQ (xb x) (va_Qi (fun (v : Int32) (u : PH) => v = r ∧ u = P') (fun u t => Rep E u t.heap) (AE E)) (xa x) (xs x) 0 0 (AE E)
def QL (E : Ev) (x : Fx) (r : Int64) (P' : PH) : State → Prop := MQ (xb x) (va_Ql (fun (v : Int64) (u : PH) => v = r ∧ u = P') (fun u t => Rep E u t.heap) (AE E)) (xa x) (xs x) 0 0 (AE E)
def QV (E : Ev) (x : Fx) (P' : PH) : State → Prop := MQ (xb x) (va_Qv (fun (u : PH) => u = P') (fun u t => Rep E u t.heap) (AE E)) (xa x) (xs x) 0 0 (AE E)
/-- a method's frame: nothing made yet -/
def ZM (x : Fx) (E : Ev) : Prop := xA x = AE E ∧ xk x = 0 ∧ xj x = 0
theorem z_iret (S : ZS x E rm cc nL own ret) (M : ZM x E) {v : Int32} (hr : ret = some .int) (d : decode cc pc = .ok (.ireturn, 1)) : Wz x E nL (QI E x v P) P pc lv [.int v] := by
  intro H locs ls h1 h2 h3
  rw [M.2.1, M.2.2]
  rw [M.1] at h2
  exact W.iret S.1 S.2.1 (S.2.2.2.2.2.1.trans hr) (fun t ht _ => ⟨⟨v, P, rfl, ⟨rfl, rfl⟩, by show Rep E P t.heap; rw [ht]; exact h1⟩, h2.F ht⟩) h2.2.2 d S.2.2.2.2.2.2.1
theorem nb_b2i (b : Bool) : narrow .boolean (.int (b2i b)) = .int (b2i b) := by cases b <;> rfl
theorem z_zret (S : ZS x E rm cc nL own ret) (M : ZM x E) {v : Bool} (hr : ret = some .boolean) (d : decode cc pc = .ok (.ireturn, 1)) : Wz x E nL (QI E x (b2i v) P) P pc lv [.int (b2i v)] := by
  intro H locs ls h1 h2 h3
  rw [M.2.1, M.2.2]
  rw [M.1] at h2
  exact W.zret S.1 S.2.1 (S.2.2.2.2.2.1.trans hr) (nb_b2i v) (fun t ht _ => ⟨⟨b2i v, P, rfl, ⟨rfl, rfl⟩, by show Rep E P t.heap; rw [ht]; exact h1⟩, h2.F ht⟩) h2.2.2 d S.2.2.2.2.2.2.1
theorem z_lret (S : ZS x E rm cc nL own ret) (M : ZM x E) {v : Int64} (hr : ret = some .long) (d : decode cc pc = .ok (.lreturn, 1)) : Wz x E nL (QL E x v P) P pc lv [.long v] := by
  intro H locs ls h1 h2 h3
  rw [M.2.1, M.2.2]
  rw [M.1] at h2
  exact W.lret S.1 S.2.1 (S.2.2.2.2.2.1.trans hr) (fun t ht _ => ⟨⟨v, P, rfl, ⟨rfl, rfl⟩, by show Rep E P t.heap; rw [ht]; exact h1⟩, h2.F ht⟩) h2.2.2 d S.2.2.2.2.2.2.1
theorem z_vret (S : ZS x E rm cc nL own ret) (M : ZM x E) (hr : ret = none) (d : decode cc pc = .ok (.return_, 1)) : Wz x E nL (QV E x P) P pc lv [] := by
  intro H locs ls h1 h2 h3
  rw [M.2.1, M.2.2]
  rw [M.1] at h2
  exact W.vret S.1 S.2.1 (S.2.2.2.2.2.1.trans hr) (fun t ht _ => ⟨⟨P, rfl, rfl, by show Rep E P t.heap; rw [ht]; exact h1⟩, h2.F ht⟩) h2.2.2 d S.2.2.2.2.2.2.1
def CPre (E : Ev) (vs : List Value) (P : PH) : Array Value → State → Prop := va_Pc vs (fun U => EvOK E ∧ EK E U ∧ Rep E P U.heap)
def CtI (l : Launch) (E : Ev) (y : MethodName) (bytes : ByteArray) (maxL : Nat) (ret : Option FieldType) (rm : Room) (vs : List Value) (P : PH) (r : Int32) (P' : PH) : Prop := Met l y (.code y bytes maxL ret :: zt) rm (CPre E vs P) (va_Qi (fun (v : Int32) (u : PH) => v = r ∧ u = P') (fun u t => Rep E u t.heap) (AE E)) 0 0 (AE E)
def CtL (l : Launch) (E : Ev) (y : MethodName) (bytes : ByteArray) (maxL : Nat) (ret : Option FieldType) (rm : Room) (vs : List Value) (P : PH) (r : Int64) (P' : PH) : Prop := Met l y (.code y bytes maxL ret :: zt) rm (CPre E vs P) (va_Ql (fun (v : Int64) (u : PH) => v = r ∧ u = P') (fun u t => Rep E u t.heap) (AE E)) 0 0 (AE E)
def CtV (l : Launch) (E : Ev) (y : MethodName) (bytes : ByteArray) (maxL : Nat) (ret : Option FieldType) (rm : Room) (vs : List Value) (P : PH) (P' : PH) : Prop := Met l y (.code y bytes maxL ret :: zt) rm (CPre E vs P) (va_Qv (fun (u : PH) => u = P') (fun u t => Rep E u t.heap) (AE E)) 0 0 (AE E)
theorem z_body {l : Launch} {y : MethodName} {vs : List Value} {lv0 : List (Nat × Value)} {Qc : Array Value → State → Outcome → State → Prop} (hy : plainName y.cls = true) (ho : y.cls = own) (hn : (lg_sl vs).length ≤ nL) (hl : lv_args 0 vs = lv0)
    (body : ∀ x : Fx, xl x = l → ZS x E rm cc nL own ret → ZM x E → Wz x E nL (MQ (xb x) Qc (xa x) (xs x) 0 0 (AE E)) P 0 lv0 []) : Met l y (.code y cc nL ret :: zt) rm (CPre E vs P) Qc 0 0 (AE E) := by
  refine Met.ofW (cc := cc) (maxL := nL) (ret := ret) hy rfl ?_
  intro p e s m args below meth c s₁ B hml hv
  obtain ⟨rfl, hinj, hK, hR⟩ := hv
  have hts := atoms_spec (ws := .code y cc nL ret :: zt) B.pre
  have hown : s.vm.findClass own = some m.cls := ho ▸ findClass_of_methodNamed B.named
  have hlv := lv_entry vs (n := nL) hn
  rw [hl] at hlv
  rw [lg_entry_eq]
  exact body (p, l, e, rm, s, m, vs.toArray, below, meth, c, AE E, 0, 0) rfl ⟨B.exec, B.bytes, hml, hown, fun w hw => hts w (List.mem_cons_of_mem _ hw), B.returns, B.notSynchronized, hK, hinj, fun c hc => ⟨c, hc, rfl⟩, rfl, Nat.zero_le _, Nat.zero_le _⟩ ⟨rfl, rfl, rfl⟩ s.heap [] _ hR va_S.rf hlv
/-- what a call wants of the tables -/
def MO (y : MethodName) (bytes : ByteArray) (maxL : Nat) (ret : Option FieldType) (n : Nat) : Prop := Cond.code y bytes maxL ret ∈ zt ∧ Cond.initialized y.cls ∈ zt ∧ (y.cls ≠ "java/lang/invoke/MethodHandle" ∧ y.cls ≠ "java/lang/invoke/VarHandle") ∧ (parseMethodDescriptor y.desc).map (fun d => d.parameters.length) = some n
theorem z_goodIn {y : MethodName} {bytes : ByteArray} {maxL : Nat} {ret : Option FieldType} (h : Cond.code y bytes maxL ret ∈ zt) : GoodIn zt (.code y bytes maxL ret :: zt) := by
  intro w hw
  have hm : w ∈ zt := by
    rcases List.mem_cons.mp hw with rfl | hw
    · exact h
    · exact hw
  exact ⟨hm, zt_good hm⟩
theorem z_blind {vs : List Value} : FrameBlind (CPre E vs P) := fun a U g mk q => ⟨q.1, q.2.1, va_K.moved (u := U) (U := U.calling g mk a) (Vm.Alike.refl U.vm) q.2.2.1, q.2.2.2⟩
theorem z_runV {T : Nat} {C : String} {y : MethodName} {bytes : ByteArray} {maxL n idx b K nb : Nat} {rt : Option FieldType} {rc : Room} {As : List Value} {Qc : Array Value → State → Outcome → State → Prop} {H : Heap} {locs : List Loc} {ls : Array Slot} {tT : u_T}
    (S : ZS x E rm cc nL own ret) (mo : MO y bytes maxL rt n) (hin : Cond.instanceMethod y ∈ zt) (hsel : Cond.selects C y y ∈ zt) (hlink : Cond.methodLink own idx y ∈ zt) (hk : ok b K nb) (hK : K < 9) (hcl : classes[K]? = some (C, tT, T)) (hrc : rc.cells = 0) (hrs : rc.slots = 0) (hR : rc.frames + 1 ≤ rm.frames ∧ 8 + (maxL + 11) + rc.locals ≤ rm.locals)
    (hM : Met (xl x) y (.code y bytes maxL rt :: zt) rc (CPre E (.ref (ad E b) :: As) P) Qc 0 0 (AE E)) (hcs : xk x ≤ rm.cells ∧ xj x ≤ rm.slots) (h1 : Rep E P H) (h3 : ls.size = nL) (hn : As.length = n) (hW : (st.map fun v => v.category).sum ≤ 8) (hdg : decode cc pc = .ok (.invokevirtual idx, 3)) :
    va_Run (xp x) (xl x) (xe x) (xR x) (xs x) (xm x) (xa x) (xb x) (xM x) (xc x) H locs (xk x) (xj x) 0 0 (F0 (xm x) pc ls (As.reverse ++ .ref (ad E b) :: st)) st (Qc (Value.ref (ad E b) :: As).toArray) (AE E) := by
  obtain ⟨hx, hb, hml, hown, hts, -, -, hEK, hinj, -, hRm, hk1, hk2⟩ := S
  have hbl : FrameBlind (CPre E (.ref (ad E b) :: As) P) := z_blind
  refine va_runV (nL := nL) (Ts := zt) (own := own) (C := C) (b := ad E b) (As := As) ⟨hx, hb, hml, hown, hts⟩ hM ⟨⟨hrc, hrs, by rw [hRm]; exact hR.1, by rw [hRm]; exact hR.2, pay_in hts (z_goodIn mo.1), List.mem_cons_self, hts _ mo.1, hts _ mo.2.1, mo.2.2.1, fun sig h => ?_, hts _ hlink⟩, hts _ hin, hts _ hsel⟩ ⟨hbl, va_recv hEK h1.1 hcl ((wl_get hk.1).trans (by rw [en_o hk hK])), fun U hU hWm => ⟨rfl, hinj, va_K.moved hWm.alike hEK, by rw [hU]; exact h1⟩⟩ rfl hn h3 rfl (lv_room hW) hdg (by rw [hRm]; exact hcs)
  have h2 := mo.2.2.2
  rw [h] at h2
  exact (Option.some.inj h2).symm
theorem z_runS {y : MethodName} {bytes : ByteArray} {maxL n idx : Nat} {rt : Option FieldType} {rc : Room} {As : List Value} {Qc : Array Value → State → Outcome → State → Prop} {H : Heap} {locs : List Loc} {ls : Array Slot}
    (S : ZS x E rm cc nL own ret) (mo : MO y bytes maxL rt n) (hst : Cond.static y ∈ zt) (hlink : Cond.methodLink own idx y ∈ zt) (hrc : rc.cells = 0) (hrs : rc.slots = 0) (hR : rc.frames + 1 ≤ rm.frames ∧ 8 + (maxL + 11) + rc.locals ≤ rm.locals)
    (hM : Met (xl x) y (.code y bytes maxL rt :: zt) rc (CPre E As P) Qc 0 0 (AE E)) (hcs : xk x ≤ rm.cells ∧ xj x ≤ rm.slots) (h1 : Rep E P H) (h3 : ls.size = nL) (hn : As.length = n) (hW : (st.map fun v => v.category).sum ≤ 8) (hdg : decode cc pc = .ok (.invokestatic idx, 3)) :
    va_Run (xp x) (xl x) (xe x) (xR x) (xs x) (xm x) (xa x) (xb x) (xM x) (xc x) H locs (xk x) (xj x) 0 0 (F0 (xm x) pc ls (As.reverse ++ st)) st (Qc As.toArray) (AE E) := by
  obtain ⟨hx, hb, hml, hown, hts, -, -, hEK, hinj, -, hRm, hk1, hk2⟩ := S
  have hbl : FrameBlind (CPre E As P) := z_blind
  refine va_runS (nL := nL) (Ts := zt) (own := own) (As := As) ⟨hx, hb, hml, hown, hts⟩ hM ⟨⟨hrc, hrs, by rw [hRm]; exact hR.1, by rw [hRm]; exact hR.2, pay_in hts (z_goodIn mo.1), List.mem_cons_self, hts _ mo.1, hts _ mo.2.1, mo.2.2.1, fun sig h => ?_, hts _ hlink⟩, hts _ hst⟩ ⟨hbl, fun U hU hWm => ⟨rfl, hinj, va_K.moved hWm.alike hEK, by rw [hU]; exact h1⟩⟩ rfl hn h3 rfl (lv_room hW) hdg (by rw [hRm]; exact hcs)
  have h2 := mo.2.2.2
  rw [h] at h2
  exact (Option.some.inj h2).symm
theorem z_callVI {T : Nat} {C : String} {y : MethodName} {bytes : ByteArray} {maxL n idx b K nb : Nat} {rt : Option FieldType} {rc : Room} {tT : u_T} {α β : Type} {F : Option α} {g : α → Option β} {q : β} (As : List Value) {st0 : List Value} (S : ZS x E rm cc nL own ret) (mo : MO y bytes maxL rt n) (hin : Cond.instanceMethod y ∈ zt) (hsel : Cond.selects C y y ∈ zt) (hlink : Cond.methodLink own idx y ∈ zt) (hk : ok b K nb) (hK : K < 9) (hcl : classes[K]? = some (C, tT, T)) (hrc : rc.cells = 0) (hrs : rc.slots = 0) (hR : rc.frames + 1 ≤ rm.frames ∧ 8 + (maxL + 11) + rc.locals ≤ rm.locals) (hcs : xk x ≤ rm.cells ∧ xj x ≤ rm.slots) (hn : As.length = n) (hW : (st.map fun v => v.category).sum ≤ 8) (hst0 : st0 = (As.reverse ++ .ref (ad E b) :: st)) (d : decode cc pc = .ok (.invokevirtual idx, 3)) (ri : α → Int32) (rp : α → PH)
    (hM : ∀ a, F = some a → CtI (xl x) E y bytes maxL rt rc (.ref (ad E b) :: As) P (ri a) (rp a)) (hf : F.bind g = some q) (k : ∀ a, g a = some q → Wz x E nL Q (rp a) (pc + 3) lv (.int (ri a) :: st)) : Wz x E nL Q P pc lv st0 := by
  subst hst0
  obtain ⟨a, ha, hg⟩ := Option.bind_eq_some_iff.mp hf
  intro H locs ls h1 h2 h3
  refine va_calli (z_runV S mo hin hsel hlink hk hK hcl hrc hrs hR (hM a ha) hcs h1 h3.1 hn hW d) h2 (fun q _ h => ?_) (fun q h => ?_) (fun r u t H1 locs1 ht _ hw hB _ _ hS => ?_)
  · obtain ⟨c, hc, rfl⟩ := h
    exact S.2.2.2.2.2.2.2.2.2.1 c hc
  · obtain ⟨c, hc, rfl⟩ := h
    exact S.2.2.2.2.2.2.2.2.2.1 c hc
  · obtain ⟨rfl, rfl⟩ := hw
    rw [ht] at hB
    exact k a hg H1 locs1 ls hB hS h3
theorem z_callVL {T : Nat} {C : String} {y : MethodName} {bytes : ByteArray} {maxL n idx b K nb : Nat} {rt : Option FieldType} {rc : Room} {tT : u_T} {α β : Type} {F : Option α} {g : α → Option β} {q : β} (As : List Value) {st0 : List Value} (S : ZS x E rm cc nL own ret) (mo : MO y bytes maxL rt n) (hin : Cond.instanceMethod y ∈ zt) (hsel : Cond.selects C y y ∈ zt) (hlink : Cond.methodLink own idx y ∈ zt) (hk : ok b K nb) (hK : K < 9) (hcl : classes[K]? = some (C, tT, T)) (hrc : rc.cells = 0) (hrs : rc.slots = 0) (hR : rc.frames + 1 ≤ rm.frames ∧ 8 + (maxL + 11) + rc.locals ≤ rm.locals) (hcs : xk x ≤ rm.cells ∧ xj x ≤ rm.slots) (hn : As.length = n) (hW : (st.map fun v => v.category).sum ≤ 8) (hst0 : st0 = (As.reverse ++ .ref (ad E b) :: st)) (d : decode cc pc = .ok (.invokevirtual idx, 3)) (ri : α → Int64) (rp : α → PH)
    (hM : ∀ a, F = some a → CtL (xl x) E y bytes maxL rt rc (.ref (ad E b) :: As) P (ri a) (rp a)) (hf : F.bind g = some q) (k : ∀ a, g a = some q → Wz x E nL Q (rp a) (pc + 3) lv (.long (ri a) :: st)) : Wz x E nL Q P pc lv st0 := by
  subst hst0
  obtain ⟨a, ha, hg⟩ := Option.bind_eq_some_iff.mp hf
  intro H locs ls h1 h2 h3
  refine va_calll (z_runV S mo hin hsel hlink hk hK hcl hrc hrs hR (hM a ha) hcs h1 h3.1 hn hW d) h2 (fun q _ h => ?_) (fun q h => ?_) (fun r u t H1 locs1 ht _ hw hB _ _ hS => ?_)
  · obtain ⟨c, hc, rfl⟩ := h
    exact S.2.2.2.2.2.2.2.2.2.1 c hc
  · obtain ⟨c, hc, rfl⟩ := h
    exact S.2.2.2.2.2.2.2.2.2.1 c hc
  · obtain ⟨rfl, rfl⟩ := hw
    rw [ht] at hB
    exact k a hg H1 locs1 ls hB hS h3
theorem z_callVV {T : Nat} {C : String} {y : MethodName} {bytes : ByteArray} {maxL n idx b K nb : Nat} {rt : Option FieldType} {rc : Room} {tT : u_T} {α β : Type} {F : Option α} {g : α → Option β} {q : β} (As : List Value) {st0 : List Value} (S : ZS x E rm cc nL own ret) (mo : MO y bytes maxL rt n) (hin : Cond.instanceMethod y ∈ zt) (hsel : Cond.selects C y y ∈ zt) (hlink : Cond.methodLink own idx y ∈ zt) (hk : ok b K nb) (hK : K < 9) (hcl : classes[K]? = some (C, tT, T)) (hrc : rc.cells = 0) (hrs : rc.slots = 0) (hR : rc.frames + 1 ≤ rm.frames ∧ 8 + (maxL + 11) + rc.locals ≤ rm.locals) (hcs : xk x ≤ rm.cells ∧ xj x ≤ rm.slots) (hn : As.length = n) (hW : (st.map fun v => v.category).sum ≤ 8) (hst0 : st0 = (As.reverse ++ .ref (ad E b) :: st)) (d : decode cc pc = .ok (.invokevirtual idx, 3)) (rp : α → PH)
    (hM : ∀ a, F = some a → CtV (xl x) E y bytes maxL rt rc (.ref (ad E b) :: As) P (rp a)) (hf : F.bind g = some q) (k : ∀ a, g a = some q → Wz x E nL Q (rp a) (pc + 3) lv st) : Wz x E nL Q P pc lv st0 := by
  subst hst0
  obtain ⟨a, ha, hg⟩ := Option.bind_eq_some_iff.mp hf
  intro H locs ls h1 h2 h3
  refine va_callv (z_runV S mo hin hsel hlink hk hK hcl hrc hrs hR (hM a ha) hcs h1 h3.1 hn hW d) h2 (fun q _ h => ?_) (fun q h => ?_) (fun u t H1 locs1 ht _ hw hB _ _ hS => ?_)
  · obtain ⟨c, hc, rfl⟩ := h
    exact S.2.2.2.2.2.2.2.2.2.1 c hc
  · obtain ⟨c, hc, rfl⟩ := h
    exact S.2.2.2.2.2.2.2.2.2.1 c hc
  · subst hw
    rw [ht] at hB
    exact k a hg H1 locs1 ls hB hS h3
theorem z_callSI {y : MethodName} {bytes : ByteArray} {maxL n idx : Nat} {rt : Option FieldType} {rc : Room} {α β : Type} {F : Option α} {g : α → Option β} {q : β} (As : List Value) {st0 : List Value} (S : ZS x E rm cc nL own ret) (mo : MO y bytes maxL rt n) (hst : Cond.static y ∈ zt) (hlink : Cond.methodLink own idx y ∈ zt) (hrc : rc.cells = 0) (hrs : rc.slots = 0) (hR : rc.frames + 1 ≤ rm.frames ∧ 8 + (maxL + 11) + rc.locals ≤ rm.locals) (hcs : xk x ≤ rm.cells ∧ xj x ≤ rm.slots) (hn : As.length = n) (hW : (st.map fun v => v.category).sum ≤ 8) (hst0 : st0 = (As.reverse ++ st)) (d : decode cc pc = .ok (.invokestatic idx, 3)) (ri : α → Int32) (rp : α → PH)
    (hM : ∀ a, F = some a → CtI (xl x) E y bytes maxL rt rc As P (ri a) (rp a)) (hf : F.bind g = some q) (k : ∀ a, g a = some q → Wz x E nL Q (rp a) (pc + 3) lv (.int (ri a) :: st)) : Wz x E nL Q P pc lv st0 := by
  subst hst0
  obtain ⟨a, ha, hg⟩ := Option.bind_eq_some_iff.mp hf
  intro H locs ls h1 h2 h3
  refine va_calli (z_runS S mo hst hlink hrc hrs hR (hM a ha) hcs h1 h3.1 hn hW d) h2 (fun q _ h => ?_) (fun q h => ?_) (fun r u t H1 locs1 ht _ hw hB _ _ hS => ?_)
  · obtain ⟨c, hc, rfl⟩ := h
    exact S.2.2.2.2.2.2.2.2.2.1 c hc
  · obtain ⟨c, hc, rfl⟩ := h
    exact S.2.2.2.2.2.2.2.2.2.1 c hc
  · obtain ⟨rfl, rfl⟩ := hw
    rw [ht] at hB
    exact k a hg H1 locs1 ls hB hS h3
theorem z_callSL {y : MethodName} {bytes : ByteArray} {maxL n idx : Nat} {rt : Option FieldType} {rc : Room} {α β : Type} {F : Option α} {g : α → Option β} {q : β} (As : List Value) {st0 : List Value} (S : ZS x E rm cc nL own ret) (mo : MO y bytes maxL rt n) (hst : Cond.static y ∈ zt) (hlink : Cond.methodLink own idx y ∈ zt) (hrc : rc.cells = 0) (hrs : rc.slots = 0) (hR : rc.frames + 1 ≤ rm.frames ∧ 8 + (maxL + 11) + rc.locals ≤ rm.locals) (hcs : xk x ≤ rm.cells ∧ xj x ≤ rm.slots) (hn : As.length = n) (hW : (st.map fun v => v.category).sum ≤ 8) (hst0 : st0 = (As.reverse ++ st)) (d : decode cc pc = .ok (.invokestatic idx, 3)) (ri : α → Int64) (rp : α → PH)
    (hM : ∀ a, F = some a → CtL (xl x) E y bytes maxL rt rc As P (ri a) (rp a)) (hf : F.bind g = some q) (k : ∀ a, g a = some q → Wz x E nL Q (rp a) (pc + 3) lv (.long (ri a) :: st)) : Wz x E nL Q P pc lv st0 := by
  subst hst0
  obtain ⟨a, ha, hg⟩ := Option.bind_eq_some_iff.mp hf
  intro H locs ls h1 h2 h3
  refine va_calll (z_runS S mo hst hlink hrc hrs hR (hM a ha) hcs h1 h3.1 hn hW d) h2 (fun q _ h => ?_) (fun q h => ?_) (fun r u t H1 locs1 ht _ hw hB _ _ hS => ?_)
  · obtain ⟨c, hc, rfl⟩ := h
    exact S.2.2.2.2.2.2.2.2.2.1 c hc
  · obtain ⟨c, hc, rfl⟩ := h
    exact S.2.2.2.2.2.2.2.2.2.1 c hc
  · obtain ⟨rfl, rfl⟩ := hw
    rw [ht] at hB
    exact k a hg H1 locs1 ls hB hS h3
theorem z_callSV {y : MethodName} {bytes : ByteArray} {maxL n idx : Nat} {rt : Option FieldType} {rc : Room} {α β : Type} {F : Option α} {g : α → Option β} {q : β} (As : List Value) {st0 : List Value} (S : ZS x E rm cc nL own ret) (mo : MO y bytes maxL rt n) (hst : Cond.static y ∈ zt) (hlink : Cond.methodLink own idx y ∈ zt) (hrc : rc.cells = 0) (hrs : rc.slots = 0) (hR : rc.frames + 1 ≤ rm.frames ∧ 8 + (maxL + 11) + rc.locals ≤ rm.locals) (hcs : xk x ≤ rm.cells ∧ xj x ≤ rm.slots) (hn : As.length = n) (hW : (st.map fun v => v.category).sum ≤ 8) (hst0 : st0 = (As.reverse ++ st)) (d : decode cc pc = .ok (.invokestatic idx, 3)) (rp : α → PH)
    (hM : ∀ a, F = some a → CtV (xl x) E y bytes maxL rt rc As P (rp a)) (hf : F.bind g = some q) (k : ∀ a, g a = some q → Wz x E nL Q (rp a) (pc + 3) lv st) : Wz x E nL Q P pc lv st0 := by
  subst hst0
  obtain ⟨a, ha, hg⟩ := Option.bind_eq_some_iff.mp hf
  intro H locs ls h1 h2 h3
  refine va_callv (z_runS S mo hst hlink hrc hrs hR (hM a ha) hcs h1 h3.1 hn hW d) h2 (fun q _ h => ?_) (fun q h => ?_) (fun u t H1 locs1 ht _ hw hB _ _ hS => ?_)
  · obtain ⟨c, hc, rfl⟩ := h
    exact S.2.2.2.2.2.2.2.2.2.1 c hc
  · obtain ⟨c, hc, rfl⟩ := h
    exact S.2.2.2.2.2.2.2.2.2.1 c hc
  · subst hw
    rw [ht] at hB
    exact k a hg H1 locs1 ls hB hS h3
end ROWS
end
