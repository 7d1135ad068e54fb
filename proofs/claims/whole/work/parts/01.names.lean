-- ===== PART A: goes FIRST, ahead of the names: the tables' words, and 'selects' of the private methods out of them =====
/-- a private method of a class that the tables say can be made, by its rows of tables_1 -/
def lw_okq (q : MethodName × Nat) : Prop := (q.1.cls ≠ "java/lang/invoke/MethodHandle" ∧ q.1.cls ≠ "java/lang/invoke/VarHandle") ∧ Cond.instantiable q.1.cls q.2 ∈ tables_1 ∧ Cond.privateMethod q.1 ∈ tables_1 ∧ Cond.instanceMethod q.1 ∈ tables_1
theorem lw_p0 : lw_okq (⟨"GhostRooms$Text", "isDigitAt", "(I)Z"⟩, 6) := ⟨⟨by decide +kernel, by decide +kernel⟩, List.mem_of_getElem? (i := 29) (by decide +kernel), List.mem_of_getElem? (i := 276) (by decide +kernel), List.mem_of_getElem? (i := 277) (by decide +kernel)⟩
theorem lw_p1 : lw_okq (⟨"GhostRooms$Text", "takeNumber", "()V"⟩, 6) := ⟨⟨by decide +kernel, by decide +kernel⟩, List.mem_of_getElem? (i := 29) (by decide +kernel), List.mem_of_getElem? (i := 280) (by decide +kernel), List.mem_of_getElem? (i := 281) (by decide +kernel)⟩
theorem lw_p2 : lw_okq (⟨"GhostRooms$Reader", "readItem", "(LGhostRooms$House;)Z"⟩, 2) := ⟨⟨by decide +kernel, by decide +kernel⟩, List.mem_of_getElem? (i := 23) (by decide +kernel), List.mem_of_getElem? (i := 284) (by decide +kernel), List.mem_of_getElem? (i := 285) (by decide +kernel)⟩
theorem lw_p3 : lw_okq (⟨"GhostRooms$Reader", "fits", "(IIILGhostRooms$House;)Z"⟩, 2) := ⟨⟨by decide +kernel, by decide +kernel⟩, List.mem_of_getElem? (i := 23) (by decide +kernel), List.mem_of_getElem? (i := 294) (by decide +kernel), List.mem_of_getElem? (i := 295) (by decide +kernel)⟩
theorem lw_p4 : lw_okq (⟨"GhostRooms$Reader", "tell", "(ILGhostRooms$House;)V"⟩, 2) := ⟨⟨by decide +kernel, by decide +kernel⟩, List.mem_of_getElem? (i := 23) (by decide +kernel), List.mem_of_getElem? (i := 309) (by decide +kernel), List.mem_of_getElem? (i := 310) (by decide +kernel)⟩
theorem lw_p5 : lw_okq (⟨"GhostRooms$Deeds", "loseOldest", "()V"⟩, 4) := ⟨⟨by decide +kernel, by decide +kernel⟩, List.mem_of_getElem? (i := 67) (by decide +kernel), List.mem_of_getElem? (i := 411) (by decide +kernel), List.mem_of_getElem? (i := 412) (by decide +kernel)⟩
theorem lw_p6 : lw_okq (⟨"GhostRooms", "unlessAlive", "(I)I"⟩, 8) := ⟨⟨by decide +kernel, by decide +kernel⟩, List.mem_of_getElem? (i := 15) (by decide +kernel), List.mem_of_getElem? (i := 467) (by decide +kernel), List.mem_of_getElem? (i := 468) (by decide +kernel)⟩
theorem lw_p7 : lw_okq (⟨"GhostRooms$Seen", "isSo", "(LGhostRooms$House;)Z"⟩, 4) := ⟨⟨by decide +kernel, by decide +kernel⟩, List.mem_of_getElem? (i := 87) (by decide +kernel), List.mem_of_getElem? (i := 529) (by decide +kernel), List.mem_of_getElem? (i := 530) (by decide +kernel)⟩
theorem lw_p8 : lw_okq (⟨"GhostRoomsModel", "next", "()V"⟩, 28) := ⟨⟨by decide +kernel, by decide +kernel⟩, List.mem_of_getElem? (i := 629) (by decide +kernel), List.mem_of_getElem? (i := 736) (by decide +kernel), List.mem_of_getElem? (i := 737) (by decide +kernel)⟩
theorem lw_p9 : lw_okq (⟨"GhostRoomsModel", "letterAt", "(I)I"⟩, 28) := ⟨⟨by decide +kernel, by decide +kernel⟩, List.mem_of_getElem? (i := 629) (by decide +kernel), List.mem_of_getElem? (i := 740) (by decide +kernel), List.mem_of_getElem? (i := 741) (by decide +kernel)⟩
theorem lw_p10 : lw_okq (⟨"GhostRoomsModel", "readItem", "()V"⟩, 28) := ⟨⟨by decide +kernel, by decide +kernel⟩, List.mem_of_getElem? (i := 629) (by decide +kernel), List.mem_of_getElem? (i := 747) (by decide +kernel), List.mem_of_getElem? (i := 748) (by decide +kernel)⟩
theorem lw_p11 : lw_okq (⟨"GhostRoomsModel", "readPerson", "()V"⟩, 28) := ⟨⟨by decide +kernel, by decide +kernel⟩, List.mem_of_getElem? (i := 629) (by decide +kernel), List.mem_of_getElem? (i := 751) (by decide +kernel), List.mem_of_getElem? (i := 752) (by decide +kernel)⟩
theorem lw_p12 : lw_okq (⟨"GhostRoomsModel", "takes", "(IIZ)I"⟩, 28) := ⟨⟨by decide +kernel, by decide +kernel⟩, List.mem_of_getElem? (i := 629) (by decide +kernel), List.mem_of_getElem? (i := 755) (by decide +kernel), List.mem_of_getElem? (i := 756) (by decide +kernel)⟩
theorem lw_p13 : lw_okq (⟨"GhostRoomsModel", "readRoom", "()V"⟩, 28) := ⟨⟨by decide +kernel, by decide +kernel⟩, List.mem_of_getElem? (i := 629) (by decide +kernel), List.mem_of_getElem? (i := 759) (by decide +kernel), List.mem_of_getElem? (i := 760) (by decide +kernel)⟩
theorem lw_p14 : lw_okq (⟨"GhostRoomsModel", "readDoor", "()V"⟩, 28) := ⟨⟨by decide +kernel, by decide +kernel⟩, List.mem_of_getElem? (i := 629) (by decide +kernel), List.mem_of_getElem? (i := 763) (by decide +kernel), List.mem_of_getElem? (i := 764) (by decide +kernel)⟩
theorem lw_p15 : lw_okq (⟨"GhostRoomsModel", "readPlace", "(I)V"⟩, 28) := ⟨⟨by decide +kernel, by decide +kernel⟩, List.mem_of_getElem? (i := 629) (by decide +kernel), List.mem_of_getElem? (i := 767) (by decide +kernel), List.mem_of_getElem? (i := 768) (by decide +kernel)⟩
def lw_privs_1 : List (MethodName × Nat) := [(⟨"GhostRooms$Text", "isDigitAt", "(I)Z"⟩, 6), (⟨"GhostRooms$Text", "takeNumber", "()V"⟩, 6), (⟨"GhostRooms$Reader", "readItem", "(LGhostRooms$House;)Z"⟩, 2), (⟨"GhostRooms$Reader", "fits", "(IIILGhostRooms$House;)Z"⟩, 2), (⟨"GhostRooms$Reader", "tell", "(ILGhostRooms$House;)V"⟩, 2), (⟨"GhostRooms$Deeds", "loseOldest", "()V"⟩, 4), (⟨"GhostRooms", "unlessAlive", "(I)I"⟩, 8), (⟨"GhostRooms$Seen", "isSo", "(LGhostRooms$House;)Z"⟩, 4), (⟨"GhostRoomsModel", "next", "()V"⟩, 28), (⟨"GhostRoomsModel", "letterAt", "(I)I"⟩, 28), (⟨"GhostRoomsModel", "readItem", "()V"⟩, 28), (⟨"GhostRoomsModel", "readPerson", "()V"⟩, 28), (⟨"GhostRoomsModel", "takes", "(IIZ)I"⟩, 28), (⟨"GhostRoomsModel", "readRoom", "()V"⟩, 28), (⟨"GhostRoomsModel", "readDoor", "()V"⟩, 28), (⟨"GhostRoomsModel", "readPlace", "(I)V"⟩, 28)]
theorem lw_r1 : ∀ q ∈ lw_privs_1, lw_okq q := List.forall_mem_cons.mpr ⟨lw_p0, List.forall_mem_cons.mpr ⟨lw_p1, List.forall_mem_cons.mpr ⟨lw_p2, List.forall_mem_cons.mpr ⟨lw_p3, List.forall_mem_cons.mpr ⟨lw_p4, List.forall_mem_cons.mpr ⟨lw_p5, List.forall_mem_cons.mpr ⟨lw_p6, List.forall_mem_cons.mpr ⟨lw_p7, List.forall_mem_cons.mpr ⟨lw_p8, List.forall_mem_cons.mpr ⟨lw_p9, List.forall_mem_cons.mpr ⟨lw_p10, List.forall_mem_cons.mpr ⟨lw_p11, List.forall_mem_cons.mpr ⟨lw_p12, List.forall_mem_cons.mpr ⟨lw_p13, List.forall_mem_cons.mpr ⟨lw_p14, List.forall_mem_cons.mpr ⟨lw_p15, fun _ h => absurd h List.not_mem_nil⟩⟩⟩⟩⟩⟩⟩⟩⟩⟩⟩⟩⟩⟩⟩⟩
theorem lw_p16 : lw_okq (⟨"GhostRoomsModel", "isPerson", "(I)Z"⟩, 28) := ⟨⟨by decide +kernel, by decide +kernel⟩, List.mem_of_getElem? (i := 629) (by decide +kernel), List.mem_of_getElem? (i := 781) (by decide +kernel), List.mem_of_getElem? (i := 782) (by decide +kernel)⟩
theorem lw_p17 : lw_okq (⟨"GhostRoomsModel", "asItIs", "()V"⟩, 28) := ⟨⟨by decide +kernel, by decide +kernel⟩, List.mem_of_getElem? (i := 629) (by decide +kernel), List.mem_of_getElem? (i := 785) (by decide +kernel), List.mem_of_getElem? (i := 786) (by decide +kernel)⟩
theorem lw_p18 : lw_okq (⟨"GhostRoomsModel", "mayIn", "(I)I"⟩, 28) := ⟨⟨by decide +kernel, by decide +kernel⟩, List.mem_of_getElem? (i := 629) (by decide +kernel), List.mem_of_getElem? (i := 789) (by decide +kernel), List.mem_of_getElem? (i := 790) (by decide +kernel)⟩
theorem lw_p19 : lw_okq (⟨"GhostRoomsModel", "mayBe", "(II)Z"⟩, 28) := ⟨⟨by decide +kernel, by decide +kernel⟩, List.mem_of_getElem? (i := 629) (by decide +kernel), List.mem_of_getElem? (i := 793) (by decide +kernel), List.mem_of_getElem? (i := 794) (by decide +kernel)⟩
theorem lw_p20 : lw_okq (⟨"GhostRoomsModel", "isAlive", "(I)Z"⟩, 28) := ⟨⟨by decide +kernel, by decide +kernel⟩, List.mem_of_getElem? (i := 629) (by decide +kernel), List.mem_of_getElem? (i := 797) (by decide +kernel), List.mem_of_getElem? (i := 798) (by decide +kernel)⟩
theorem lw_p21 : lw_okq (⟨"GhostRoomsModel", "ownerOf", "(I)I"⟩, 28) := ⟨⟨by decide +kernel, by decide +kernel⟩, List.mem_of_getElem? (i := 629) (by decide +kernel), List.mem_of_getElem? (i := 804) (by decide +kernel), List.mem_of_getElem? (i := 805) (by decide +kernel)⟩
theorem lw_p22 : lw_okq (⟨"GhostRoomsModel", "goesBy", "(II)I"⟩, 28) := ⟨⟨by decide +kernel, by decide +kernel⟩, List.mem_of_getElem? (i := 629) (by decide +kernel), List.mem_of_getElem? (i := 808) (by decide +kernel), List.mem_of_getElem? (i := 809) (by decide +kernel)⟩
theorem lw_p23 : lw_okq (⟨"GhostRoomsModel", "isCutOff", "(I)Z"⟩, 28) := ⟨⟨by decide +kernel, by decide +kernel⟩, List.mem_of_getElem? (i := 629) (by decide +kernel), List.mem_of_getElem? (i := 812) (by decide +kernel), List.mem_of_getElem? (i := 813) (by decide +kernel)⟩
theorem lw_p24 : lw_okq (⟨"GhostRoomsModel", "isCutOffBy", "(II)Z"⟩, 28) := ⟨⟨by decide +kernel, by decide +kernel⟩, List.mem_of_getElem? (i := 629) (by decide +kernel), List.mem_of_getElem? (i := 816) (by decide +kernel), List.mem_of_getElem? (i := 817) (by decide +kernel)⟩
theorem lw_p25 : lw_okq (⟨"GhostRoomsModel", "isRoom", "(I)Z"⟩, 28) := ⟨⟨by decide +kernel, by decide +kernel⟩, List.mem_of_getElem? (i := 629) (by decide +kernel), List.mem_of_getElem? (i := 824) (by decide +kernel), List.mem_of_getElem? (i := 825) (by decide +kernel)⟩
theorem lw_p26 : lw_okq (⟨"GhostRoomsModel", "whoMay", "(I)I"⟩, 28) := ⟨⟨by decide +kernel, by decide +kernel⟩, List.mem_of_getElem? (i := 629) (by decide +kernel), List.mem_of_getElem? (i := 828) (by decide +kernel), List.mem_of_getElem? (i := 829) (by decide +kernel)⟩
theorem lw_p27 : lw_okq (⟨"GhostRoomsModel", "cutOff", "()I"⟩, 28) := ⟨⟨by decide +kernel, by decide +kernel⟩, List.mem_of_getElem? (i := 629) (by decide +kernel), List.mem_of_getElem? (i := 840) (by decide +kernel), List.mem_of_getElem? (i := 841) (by decide +kernel)⟩
theorem lw_p28 : lw_okq (⟨"GhostRoomsModel", "remembers", "()V"⟩, 28) := ⟨⟨by decide +kernel, by decide +kernel⟩, List.mem_of_getElem? (i := 629) (by decide +kernel), List.mem_of_getElem? (i := 848) (by decide +kernel), List.mem_of_getElem? (i := 849) (by decide +kernel)⟩
theorem lw_p29 : lw_okq (⟨"GhostRoomsModel", "refused", "(IZ)I"⟩, 28) := ⟨⟨by decide +kernel, by decide +kernel⟩, List.mem_of_getElem? (i := 629) (by decide +kernel), List.mem_of_getElem? (i := 886) (by decide +kernel), List.mem_of_getElem? (i := 887) (by decide +kernel)⟩
theorem lw_p30 : lw_okq (⟨"GhostRoomsModel", "roomRate", "(I)I"⟩, 28) := ⟨⟨by decide +kernel, by decide +kernel⟩, List.mem_of_getElem? (i := 629) (by decide +kernel), List.mem_of_getElem? (i := 935) (by decide +kernel), List.mem_of_getElem? (i := 936) (by decide +kernel)⟩
theorem lw_p31 : lw_okq (⟨"GhostRoomsModel", "hallRate", "(I)I"⟩, 28) := ⟨⟨by decide +kernel, by decide +kernel⟩, List.mem_of_getElem? (i := 629) (by decide +kernel), List.mem_of_getElem? (i := 939) (by decide +kernel), List.mem_of_getElem? (i := 940) (by decide +kernel)⟩
def lw_privs_2 : List (MethodName × Nat) := [(⟨"GhostRoomsModel", "isPerson", "(I)Z"⟩, 28), (⟨"GhostRoomsModel", "asItIs", "()V"⟩, 28), (⟨"GhostRoomsModel", "mayIn", "(I)I"⟩, 28), (⟨"GhostRoomsModel", "mayBe", "(II)Z"⟩, 28), (⟨"GhostRoomsModel", "isAlive", "(I)Z"⟩, 28), (⟨"GhostRoomsModel", "ownerOf", "(I)I"⟩, 28), (⟨"GhostRoomsModel", "goesBy", "(II)I"⟩, 28), (⟨"GhostRoomsModel", "isCutOff", "(I)Z"⟩, 28), (⟨"GhostRoomsModel", "isCutOffBy", "(II)Z"⟩, 28), (⟨"GhostRoomsModel", "isRoom", "(I)Z"⟩, 28), (⟨"GhostRoomsModel", "whoMay", "(I)I"⟩, 28), (⟨"GhostRoomsModel", "cutOff", "()I"⟩, 28), (⟨"GhostRoomsModel", "remembers", "()V"⟩, 28), (⟨"GhostRoomsModel", "refused", "(IZ)I"⟩, 28), (⟨"GhostRoomsModel", "roomRate", "(I)I"⟩, 28), (⟨"GhostRoomsModel", "hallRate", "(I)I"⟩, 28)]
theorem lw_r2 : ∀ q ∈ lw_privs_2, lw_okq q := List.forall_mem_cons.mpr ⟨lw_p16, List.forall_mem_cons.mpr ⟨lw_p17, List.forall_mem_cons.mpr ⟨lw_p18, List.forall_mem_cons.mpr ⟨lw_p19, List.forall_mem_cons.mpr ⟨lw_p20, List.forall_mem_cons.mpr ⟨lw_p21, List.forall_mem_cons.mpr ⟨lw_p22, List.forall_mem_cons.mpr ⟨lw_p23, List.forall_mem_cons.mpr ⟨lw_p24, List.forall_mem_cons.mpr ⟨lw_p25, List.forall_mem_cons.mpr ⟨lw_p26, List.forall_mem_cons.mpr ⟨lw_p27, List.forall_mem_cons.mpr ⟨lw_p28, List.forall_mem_cons.mpr ⟨lw_p29, List.forall_mem_cons.mpr ⟨lw_p30, List.forall_mem_cons.mpr ⟨lw_p31, fun _ h => absurd h List.not_mem_nil⟩⟩⟩⟩⟩⟩⟩⟩⟩⟩⟩⟩⟩⟩⟩⟩
theorem lw_p32 : lw_okq (⟨"GhostRoomsModel", "stairRate", "(I)I"⟩, 28) := ⟨⟨by decide +kernel, by decide +kernel⟩, List.mem_of_getElem? (i := 629) (by decide +kernel), List.mem_of_getElem? (i := 944) (by decide +kernel), List.mem_of_getElem? (i := 945) (by decide +kernel)⟩
def lw_privs_3 : List (MethodName × Nat) := [(⟨"GhostRoomsModel", "stairRate", "(I)I"⟩, 28)]
theorem lw_r3 : ∀ q ∈ lw_privs_3, lw_okq q := List.forall_mem_cons.mpr ⟨lw_p32, fun _ h => absurd h List.not_mem_nil⟩
def lw_privs : List (MethodName × Nat) := lw_privs_1 ++ (lw_privs_2 ++ (lw_privs_3))
def lw_tbl : List Cond := k2_sels lw_privs ++ tables_1
theorem lw_privs_ok : ∀ q ∈ lw_privs, lw_okq q := by
  show ∀ q ∈ lw_privs_1 ++ (lw_privs_2 ++ (lw_privs_3)), lw_okq q
  exact List.forall_mem_append.mpr ⟨lw_r1, List.forall_mem_append.mpr ⟨lw_r2, lw_r3⟩⟩
-- names, field tables (printed by program of the class files)
def RX0 : String := "GhostRooms$Deaths"
def TX0 : u_T := fun k => match k with
  | _ => ("", "", "", false)
def tyX0 : Nat → FieldType := fun k => match k with
  | _ => .int
abbrev wsX00 : List Cond := u_ws RX0 TX0 0
theorem nmX0 : ∀ a, a < 0 → ∀ b, b < 0 → a ≠ b → (TX0 a).2.1 ≠ (TX0 b).2.1 := by decide +kernel
theorem tyX0_ok : ∀ k, k < 0 → parseFieldDescriptor (TX0 k).2.2.1 = some (tyX0 k) := by decide +kernel
abbrev cX0_fewestBefore : ByteArray := prog_2_method_2_code
def yX0_fewestBefore : MethodName := ⟨RX0, "fewestBefore", "(LGhostRooms$House;II)I"⟩
abbrev cX0_chance : ByteArray := prog_2_method_3_code
def yX0_chance : MethodName := ⟨RX0, "chance", "(LGhostRooms$House;IIZ)I"⟩
abbrev cX0_othersThan : ByteArray := prog_2_method_4_code
def yX0_othersThan : MethodName := ⟨RX0, "othersThan", "(LGhostRooms$House;I)I"⟩
abbrev cX0_power : ByteArray := prog_2_method_5_code
def yX0_power : MethodName := ⟨RX0, "power", "(II)I"⟩
abbrev cX0_commonDivisor : ByteArray := prog_2_method_6_code
def yX0_commonDivisor : MethodName := ⟨RX0, "commonDivisor", "(II)I"⟩
def RX1 : String := "GhostRooms$Deeds"
def TX1 : u_T := fun k => match k with
  | 0 => ("GhostRooms$Deeds", "size", "I", false)
  | 1 => ("GhostRooms$Deeds", "deeds", "[I", true)
  | 2 => ("GhostRooms$Deeds", "firsts", "[I", true)
  | _ => ("GhostRooms$Deeds", "seconds", "[I", true)
def tyX1 : Nat → FieldType := fun k => match k with
  | 0 => .int
  | 1 => .array .int
  | 2 => .array .int
  | _ => .array .int
abbrev wsX10 : List Cond := u_ws RX1 TX1 4
theorem nmX1 : ∀ a, a < 4 → ∀ b, b < 4 → a ≠ b → (TX1 a).2.1 ≠ (TX1 b).2.1 := by decide +kernel
theorem tyX1_ok : ∀ k, k < 4 → parseFieldDescriptor (TX1 k).2.2.1 = some (tyX1 k) := by decide +kernel
abbrev cX1_init : ByteArray := prog_3_method_1_code
def yX1_init : MethodName := ⟨RX1, "<init>", "()V"⟩
abbrev cX1_add : ByteArray := prog_3_method_2_code
def yX1_add : MethodName := ⟨RX1, "add", "(III)V"⟩
abbrev cX1_loseOldest : ByteArray := prog_3_method_3_code
def yX1_loseOldest : MethodName := ⟨RX1, "loseOldest", "()V"⟩
abbrev cX1_takeBack : ByteArray := prog_3_method_4_code
def yX1_takeBack : MethodName := ⟨RX1, "takeBack", "(LGhostRooms$Now;)V"⟩
def RX2 : String := "GhostRooms$House"
def TX2 : u_T := fun k => match k with
  | 0 => ("GhostRooms$House", "people", "I", false)
  | 1 => ("GhostRooms$House", "rooms", "I", false)
  | 2 => ("GhostRooms$House", "doors", "[I", true)
  | 3 => ("GhostRooms$House", "beds", "[I", true)
  | 4 => ("GhostRooms$House", "wants", "[I", true)
  | _ => ("GhostRooms$House", "now", "LGhostRooms$Now;", true)
def tyX2 : Nat → FieldType := fun k => match k with
  | 0 => .int
  | 1 => .int
  | 2 => .array .int
  | 3 => .array .int
  | 4 => .array .int
  | _ => .object "GhostRooms$Now"
abbrev wsX20 : List Cond := u_ws RX2 TX2 6
theorem nmX2 : ∀ a, a < 6 → ∀ b, b < 6 → a ≠ b → (TX2 a).2.1 ≠ (TX2 b).2.1 := by decide +kernel
theorem tyX2_ok : ∀ k, k < 6 → parseFieldDescriptor (TX2 k).2.2.1 = some (tyX2 k) := by decide +kernel
abbrev cX2_init : ByteArray := prog_4_method_1_code
def yX2_init : MethodName := ⟨RX2, "<init>", "()V"⟩
abbrev cX2_empty : ByteArray := prog_4_method_2_code
def yX2_empty : MethodName := ⟨RX2, "empty", "()V"⟩
abbrev cX2_addPerson : ByteArray := prog_4_method_3_code
def yX2_addPerson : MethodName := ⟨RX2, "addPerson", "(ZI)V"⟩
abbrev cX2_addRoom : ByteArray := prog_4_method_4_code
def yX2_addRoom : MethodName := ⟨RX2, "addRoom", "(I)V"⟩
abbrev cX2_addDoor : ByteArray := prog_4_method_5_code
def yX2_addDoor : MethodName := ⟨RX2, "addDoor", "(II)V"⟩
abbrev cX2_isPerson : ByteArray := prog_4_method_6_code
def yX2_isPerson : MethodName := ⟨RX2, "isPerson", "(I)Z"⟩
abbrev cX2_isRoom : ByteArray := prog_4_method_7_code
def yX2_isRoom : MethodName := ⟨RX2, "isRoom", "(I)Z"⟩
abbrev cX2_lives : ByteArray := prog_4_method_8_code
def yX2_lives : MethodName := ⟨RX2, "lives", "(I)Z"⟩
abbrev cX2_canBeHeir : ByteArray := prog_4_method_9_code
def yX2_canBeHeir : MethodName := ⟨RX2, "canBeHeir", "(I)Z"⟩
abbrev cX2_owner : ByteArray := prog_4_method_10_code
def yX2_owner : MethodName := ⟨RX2, "owner", "(II)I"⟩
abbrev cX2_chain : ByteArray := prog_4_method_11_code
def yX2_chain : MethodName := ⟨RX2, "chain", "(I)I"⟩
abbrev cX2_owned : ByteArray := prog_4_method_12_code
def yX2_owned : MethodName := ⟨RX2, "owned", "(II)I"⟩
abbrev cX2_may : ByteArray := prog_4_method_13_code
def yX2_may : MethodName := ⟨RX2, "may", "(IIII)I"⟩
abbrev cX2_mayNow : ByteArray := prog_4_method_14_code
def yX2_mayNow : MethodName := ⟨RX2, "mayNow", "(I)I"⟩
abbrev cX2_whoMay : ByteArray := prog_4_method_15_code
def yX2_whoMay : MethodName := ⟨RX2, "whoMay", "(I)I"⟩
abbrev cX2_reach : ByteArray := prog_4_method_16_code
def yX2_reach : MethodName := ⟨RX2, "reach", "(II)I"⟩
abbrev cX2_behindDoorsOf : ByteArray := prog_4_method_17_code
def yX2_behindDoorsOf : MethodName := ⟨RX2, "behindDoorsOf", "(I)I"⟩
abbrev cX2_lacks : ByteArray := prog_4_method_18_code
def yX2_lacks : MethodName := ⟨RX2, "lacks", "(II)Z"⟩
abbrev cX2_isCutOff : ByteArray := prog_4_method_19_code
def yX2_isCutOff : MethodName := ⟨RX2, "isCutOff", "(IIII)Z"⟩
abbrev cX2_cutOff : ByteArray := prog_4_method_20_code
def yX2_cutOff : MethodName := ⟨RX2, "cutOff", "(I)I"⟩
def RX3 : String := "GhostRooms$Living"
def TX3 : u_T := fun k => match k with
  | _ => ("", "", "", false)
def tyX3 : Nat → FieldType := fun k => match k with
  | _ => .int
abbrev wsX30 : List Cond := u_ws RX3 TX3 0
theorem nmX3 : ∀ a, a < 0 → ∀ b, b < 0 → a ≠ b → (TX3 a).2.1 ≠ (TX3 b).2.1 := by decide +kernel
theorem tyX3_ok : ∀ k, k < 0 → parseFieldDescriptor (TX3 k).2.2.1 = some (tyX3 k) := by decide +kernel
abbrev cX3_firstDayCutOff : ByteArray := prog_5_method_2_code
def yX3_firstDayCutOff : MethodName := ⟨RX3, "firstDayCutOff", "(LGhostRooms$House;I)I"⟩
abbrev cX3_fewestRights : ByteArray := prog_5_method_3_code
def yX3_fewestRights : MethodName := ⟨RX3, "fewestRights", "(LGhostRooms$House;I)I"⟩
abbrev cX3_openers : ByteArray := prog_5_method_4_code
def yX3_openers : MethodName := ⟨RX3, "openers", "(LGhostRooms$House;I)I"⟩
abbrev cX3_bestExchange : ByteArray := prog_5_method_5_code
def yX3_bestExchange : MethodName := ⟨RX3, "bestExchange", "(LGhostRooms$House;)I"⟩
abbrev cX3_roomsHeldByRight : ByteArray := prog_5_method_6_code
def yX3_roomsHeldByRight : MethodName := ⟨RX3, "roomsHeldByRight", "(LGhostRooms$House;)I"⟩
abbrev cX3_doorsBetween : ByteArray := prog_5_method_7_code
def yX3_doorsBetween : MethodName := ⟨RX3, "doorsBetween", "(LGhostRooms$House;II)I"⟩
def RX4 : String := "GhostRooms$Now"
def TX4 : u_T := fun k => match k with
  | 0 => ("GhostRooms$Now", "day", "I", false)
  | 1 => ("GhostRooms$Now", "alive", "I", false)
  | 2 => ("GhostRooms$Now", "rights", "I", false)
  | 3 => ("GhostRooms$Now", "heirs", "[I", true)
  | 4 => ("GhostRooms$Now", "left", "[I", true)
  | 5 => ("GhostRooms$Now", "holders", "[I", true)
  | 6 => ("GhostRooms$Now", "places", "[I", true)
  | _ => ("GhostRooms$Now", "tills", "[I", true)
def tyX4 : Nat → FieldType := fun k => match k with
  | 0 => .int
  | 1 => .int
  | 2 => .int
  | 3 => .array .int
  | 4 => .array .int
  | 5 => .array .int
  | 6 => .array .int
  | _ => .array .int
abbrev wsX40 : List Cond := u_ws RX4 TX4 8
theorem nmX4 : ∀ a, a < 8 → ∀ b, b < 8 → a ≠ b → (TX4 a).2.1 ≠ (TX4 b).2.1 := by decide +kernel
theorem tyX4_ok : ∀ k, k < 8 → parseFieldDescriptor (TX4 k).2.2.1 = some (tyX4 k) := by decide +kernel
abbrev cX4_init : ByteArray := prog_6_method_1_code
def yX4_init : MethodName := ⟨RX4, "<init>", "()V"⟩
abbrev cX4_copy : ByteArray := prog_6_method_2_code
def yX4_copy : MethodName := ⟨RX4, "copy", "(LGhostRooms$Now;)V"⟩
abbrev cX4_addRight : ByteArray := prog_6_method_3_code
def yX4_addRight : MethodName := ⟨RX4, "addRight", "(III)V"⟩
abbrev cX4_swap : ByteArray := prog_6_method_4_code
def yX4_swap : MethodName := ⟨RX4, "swap", "(II)V"⟩
abbrev cX4_roomsByRight : ByteArray := prog_6_method_5_code
def yX4_roomsByRight : MethodName := ⟨RX4, "roomsByRight", "(II)I"⟩
abbrev cX4_rightsIn : ByteArray := prog_6_method_6_code
def yX4_rightsIn : MethodName := ⟨RX4, "rightsIn", "(I)I"⟩
def RX5 : String := "GhostRooms$Rates"
def TX5 : u_T := fun k => match k with
  | _ => ("GhostRooms$Rates", "trace", "J", false)
def tyX5 : Nat → FieldType := fun k => match k with
  | _ => .long
abbrev wsX50 : List Cond := u_ws RX5 TX5 1
theorem nmX5 : ∀ a, a < 1 → ∀ b, b < 1 → a ≠ b → (TX5 a).2.1 ≠ (TX5 b).2.1 := by decide +kernel
theorem tyX5_ok : ∀ k, k < 1 → parseFieldDescriptor (TX5 k).2.2.1 = some (tyX5 k) := by decide +kernel
abbrev cX5_init : ByteArray := prog_7_method_1_code
def yX5_init : MethodName := ⟨RX5, "<init>", "()V"⟩
abbrev cX5_asRoom : ByteArray := prog_7_method_2_code
def yX5_asRoom : MethodName := ⟨RX5, "asRoom", "(LGhostRooms$House;I)I"⟩
abbrev cX5_asHall : ByteArray := prog_7_method_3_code
def yX5_asHall : MethodName := ⟨RX5, "asHall", "(LGhostRooms$House;I)I"⟩
abbrev cX5_asStair : ByteArray := prog_7_method_4_code
def yX5_asStair : MethodName := ⟨RX5, "asStair", "(LGhostRooms$House;I)I"⟩
abbrev cX5_asAttic : ByteArray := prog_7_method_5_code
def yX5_asAttic : MethodName := ⟨RX5, "asAttic", "(LGhostRooms$House;I)I"⟩
abbrev cX5_asCellar : ByteArray := prog_7_method_6_code
def yX5_asCellar : MethodName := ⟨RX5, "asCellar", "(LGhostRooms$House;I)I"⟩
abbrev cX5_asBath : ByteArray := prog_7_method_7_code
def yX5_asBath : MethodName := ⟨RX5, "asBath", "(LGhostRooms$House;I)I"⟩
def RX6 : String := "GhostRooms$Reader"
def TX6 : u_T := fun k => match k with
  | 0 => ("GhostRooms$Reader", "text", "LGhostRooms$Text;", true)
  | _ => ("GhostRooms$Reader", "numbers", "[I", true)
def tyX6 : Nat → FieldType := fun k => match k with
  | 0 => .object "GhostRooms$Text"
  | _ => .array .int
abbrev wsX60 : List Cond := u_ws RX6 TX6 2
theorem nmX6 : ∀ a, a < 2 → ∀ b, b < 2 → a ≠ b → (TX6 a).2.1 ≠ (TX6 b).2.1 := by decide +kernel
theorem tyX6_ok : ∀ k, k < 2 → parseFieldDescriptor (TX6 k).2.2.1 = some (tyX6 k) := by decide +kernel
abbrev cX6_init : ByteArray := prog_8_method_1_code
def yX6_init : MethodName := ⟨RX6, "<init>", "()V"⟩
abbrev cX6_readInto : ByteArray := prog_8_method_2_code
def yX6_readInto : MethodName := ⟨RX6, "readInto", "(LGhostRooms$House;)I"⟩
abbrev cX6_readItem : ByteArray := prog_8_method_3_code
def yX6_readItem : MethodName := ⟨RX6, "readItem", "(LGhostRooms$House;)Z"⟩
abbrev cX6_hasPlaceFor : ByteArray := prog_8_method_4_code
def yX6_hasPlaceFor : MethodName := ⟨RX6, "hasPlaceFor", "(ILGhostRooms$House;)Z"⟩
abbrev cX6_howManyNumbers : ByteArray := prog_8_method_5_code
def yX6_howManyNumbers : MethodName := ⟨RX6, "howManyNumbers", "(I)I"⟩
abbrev cX6_fits : ByteArray := prog_8_method_6_code
def yX6_fits : MethodName := ⟨RX6, "fits", "(IIILGhostRooms$House;)Z"⟩
abbrev cX6_tell : ByteArray := prog_8_method_7_code
def yX6_tell : MethodName := ⟨RX6, "tell", "(ILGhostRooms$House;)V"⟩
def RX7 : String := "GhostRooms$Seen"
def TX7 : u_T := fun k => match k with
  | 0 => ("GhostRooms$Seen", "size", "I", false)
  | 1 => ("GhostRooms$Seen", "people", "[I", true)
  | 2 => ("GhostRooms$Seen", "rooms", "[I", true)
  | _ => ("GhostRooms$Seen", "mays", "[I", true)
def tyX7 : Nat → FieldType := fun k => match k with
  | 0 => .int
  | 1 => .array .int
  | 2 => .array .int
  | _ => .array .int
abbrev wsX70 : List Cond := u_ws RX7 TX7 4
theorem nmX7 : ∀ a, a < 4 → ∀ b, b < 4 → a ≠ b → (TX7 a).2.1 ≠ (TX7 b).2.1 := by decide +kernel
theorem tyX7_ok : ∀ k, k < 4 → parseFieldDescriptor (TX7 k).2.2.1 = some (tyX7 k) := by decide +kernel
abbrev cX7_init : ByteArray := prog_9_method_1_code
def yX7_init : MethodName := ⟨RX7, "<init>", "()V"⟩
abbrev cX7_add : ByteArray := prog_9_method_2_code
def yX7_add : MethodName := ⟨RX7, "add", "(III)Z"⟩
abbrev cX7_heirsThatFit : ByteArray := prog_9_method_3_code
def yX7_heirsThatFit : MethodName := ⟨RX7, "heirsThatFit", "(LGhostRooms$House;I)I"⟩
abbrev cX7_isSo : ByteArray := prog_9_method_4_code
def yX7_isSo : MethodName := ⟨RX7, "isSo", "(LGhostRooms$House;)Z"⟩
def RX8 : String := "GhostRooms$Text"
def TX8 : u_T := fun k => match k with
  | 0 => ("GhostRooms$Text", "letters", "[I", true)
  | 1 => ("GhostRooms$Text", "length", "I", false)
  | 2 => ("GhostRooms$Text", "sort", "I", false)
  | 3 => ("GhostRooms$Text", "start", "I", false)
  | 4 => ("GhostRooms$Text", "value", "I", false)
  | _ => ("GhostRooms$Text", "end", "I", false)
def tyX8 : Nat → FieldType := fun k => match k with
  | 0 => .array .int
  | 1 => .int
  | 2 => .int
  | 3 => .int
  | 4 => .int
  | _ => .int
abbrev wsX80 : List Cond := u_ws RX8 TX8 6
theorem nmX8 : ∀ a, a < 6 → ∀ b, b < 6 → a ≠ b → (TX8 a).2.1 ≠ (TX8 b).2.1 := by decide +kernel
theorem tyX8_ok : ∀ k, k < 6 → parseFieldDescriptor (TX8 k).2.2.1 = some (tyX8 k) := by decide +kernel
abbrev cX8_init : ByteArray := prog_10_method_1_code
def yX8_init : MethodName := ⟨RX8, "<init>", "()V"⟩
abbrev cX8_add : ByteArray := prog_10_method_2_code
def yX8_add : MethodName := ⟨RX8, "add", "(I)Z"⟩
abbrev cX8_rewind : ByteArray := prog_10_method_3_code
def yX8_rewind : MethodName := ⟨RX8, "rewind", "()V"⟩
abbrev cX8_next : ByteArray := prog_10_method_4_code
def yX8_next : MethodName := ⟨RX8, "next", "()V"⟩
abbrev cX8_takeNumber : ByteArray := prog_10_method_5_code
def yX8_takeNumber : MethodName := ⟨RX8, "takeNumber", "()V"⟩
abbrev cX8_isDigitAt : ByteArray := prog_10_method_6_code
def yX8_isDigitAt : MethodName := ⟨RX8, "isDigitAt", "(I)Z"⟩
def RX9 : String := "GhostRooms"
def TX9 : u_T := fun k => match k with
  | 0 => ("GhostRooms", "reader", "LGhostRooms$Reader;", true)
  | 1 => ("GhostRooms", "deeds", "LGhostRooms$Deeds;", true)
  | 2 => ("GhostRooms", "seen", "LGhostRooms$Seen;", true)
  | 3 => ("GhostRooms", "rates", "LGhostRooms$Rates;", true)
  | 4 => ("GhostRooms", "images", "[LGhostRooms$Now;", true)
  | 5 => ("GhostRooms", "imagesKept", "I", false)
  | 6 => ("GhostRooms", "house", "LGhostRooms$House;", false)
  | _ => ("GhostRooms", "spare", "LGhostRooms$House;", false)
def tyX9 : Nat → FieldType := fun k => match k with
  | 0 => .object "GhostRooms$Reader"
  | 1 => .object "GhostRooms$Deeds"
  | 2 => .object "GhostRooms$Seen"
  | 3 => .object "GhostRooms$Rates"
  | 4 => .array (.object "GhostRooms$Now")
  | 5 => .int
  | 6 => .object "GhostRooms$House"
  | _ => .object "GhostRooms$House"
abbrev wsX90 : List Cond := u_ws RX9 TX9 8
theorem nmX9 : ∀ a, a < 8 → ∀ b, b < 8 → a ≠ b → (TX9 a).2.1 ≠ (TX9 b).2.1 := by decide +kernel
theorem tyX9_ok : ∀ k, k < 8 → parseFieldDescriptor (TX9 k).2.2.1 = some (tyX9 k) := by decide +kernel
abbrev cX9_init : ByteArray := prog_1_method_1_code
def yX9_init : MethodName := ⟨RX9, "<init>", "()V"⟩
abbrev cX9_type : ByteArray := prog_1_method_2_code
def yX9_type : MethodName := ⟨RX9, "type", "(I)I"⟩
abbrev cX9_clear : ByteArray := prog_1_method_3_code
def yX9_clear : MethodName := ⟨RX9, "clear", "()I"⟩
abbrev cX9_house : ByteArray := prog_1_method_4_code
def yX9_house : MethodName := ⟨RX9, "house", "()I"⟩
abbrev cX9_person : ByteArray := prog_1_method_5_code
def yX9_person : MethodName := ⟨RX9, "person", "(II)I"⟩
abbrev cX9_room : ByteArray := prog_1_method_6_code
def yX9_room : MethodName := ⟨RX9, "room", "(II)I"⟩
abbrev cX9_right : ByteArray := prog_1_method_7_code
def yX9_right : MethodName := ⟨RX9, "right", "(II)I"⟩
abbrev cX9_now : ByteArray := prog_1_method_8_code
def yX9_now : MethodName := ⟨RX9, "now", "(I)I"⟩
abbrev cX9_day : ByteArray := prog_1_method_9_code
def yX9_day : MethodName := ⟨RX9, "day", "()I"⟩
abbrev cX9_dies : ByteArray := prog_1_method_10_code
def yX9_dies : MethodName := ⟨RX9, "dies", "(I)I"⟩
abbrev cX9_grants : ByteArray := prog_1_method_11_code
def yX9_grants : MethodName := ⟨RX9, "grants", "(III)I"⟩
abbrev cX9_exchanges : ByteArray := prog_1_method_12_code
def yX9_exchanges : MethodName := ⟨RX9, "exchanges", "(II)I"⟩
abbrev cX9_wills : ByteArray := prog_1_method_13_code
def yX9_wills : MethodName := ⟨RX9, "wills", "(II)I"⟩
abbrev cX9_undo : ByteArray := prog_1_method_14_code
def yX9_undo : MethodName := ⟨RX9, "undo", "()I"⟩
abbrev cX9_fromWhen : ByteArray := prog_1_method_15_code
def yX9_fromWhen : MethodName := ⟨RX9, "fromWhen", "(I)I"⟩
abbrev cX9_needs : ByteArray := prog_1_method_16_code
def yX9_needs : MethodName := ⟨RX9, "needs", "(I)I"⟩
abbrev cX9_opens : ByteArray := prog_1_method_17_code
def yX9_opens : MethodName := ⟨RX9, "opens", "(I)I"⟩
abbrev cX9_exchange : ByteArray := prog_1_method_18_code
def yX9_exchange : MethodName := ⟨RX9, "exchange", "()I"⟩
abbrev cX9_holdsOut : ByteArray := prog_1_method_19_code
def yX9_holdsOut : MethodName := ⟨RX9, "holdsOut", "()I"⟩
abbrev cX9_dinner : ByteArray := prog_1_method_20_code
def yX9_dinner : MethodName := ⟨RX9, "dinner", "(II)I"⟩
abbrev cX9_seen : ByteArray := prog_1_method_21_code
def yX9_seen : MethodName := ⟨RX9, "seen", "(III)I"⟩
abbrev cX9_forget : ByteArray := prog_1_method_22_code
def yX9_forget : MethodName := ⟨RX9, "forget", "()I"⟩
abbrev cX9_said : ByteArray := prog_1_method_23_code
def yX9_said : MethodName := ⟨RX9, "said", "(I)I"⟩
abbrev cX9_last : ByteArray := prog_1_method_24_code
def yX9_last : MethodName := ⟨RX9, "last", "(I)I"⟩
abbrev cX9_waits : ByteArray := prog_1_method_25_code
def yX9_waits : MethodName := ⟨RX9, "waits", "(II)I"⟩
abbrev cX9_odds : ByteArray := prog_1_method_26_code
def yX9_odds : MethodName := ⟨RX9, "odds", "(III)I"⟩
abbrev cX9_rate : ByteArray := prog_1_method_27_code
def yX9_rate : MethodName := ⟨RX9, "rate", "(II)I"⟩
abbrev cX9_keep : ByteArray := prog_1_method_28_code
def yX9_keep : MethodName := ⟨RX9, "keep", "(I)I"⟩
abbrev cX9_back : ByteArray := prog_1_method_29_code
def yX9_back : MethodName := ⟨RX9, "back", "(I)I"⟩
abbrev cX9_count : ByteArray := prog_1_method_30_code
def yX9_count : MethodName := ⟨RX9, "count", "(I)I"⟩
abbrev cX9_trace : ByteArray := prog_1_method_31_code
def yX9_trace : MethodName := ⟨RX9, "trace", "()J"⟩
abbrev cX9_unlessAlive : ByteArray := prog_1_method_32_code
def yX9_unlessAlive : MethodName := ⟨RX9, "unlessAlive", "(I)I"⟩
def RX10 : String := "GhostRoomsModel"
def TX10 : u_T := fun k => match k with
  | 0 => ("GhostRoomsModel", "people", "I", false)
  | 1 => ("GhostRoomsModel", "rooms", "I", false)
  | 2 => ("GhostRoomsModel", "bed", "[I", true)
  | 3 => ("GhostRoomsModel", "wants", "[I", true)
  | 4 => ("GhostRoomsModel", "doors", "[I", true)
  | 5 => ("GhostRoomsModel", "st", "[I", true)
  | 6 => ("GhostRoomsModel", "was", "[I", true)
  | 7 => ("GhostRoomsModel", "known", "I", false)
  | 8 => ("GhostRoomsModel", "images", "[I", true)
  | 9 => ("GhostRoomsModel", "isKept", "[Z", true)
  | 10 => ("GhostRoomsModel", "seens", "I", false)
  | 11 => ("GhostRoomsModel", "seen", "[I", true)
  | 12 => ("GhostRoomsModel", "trace", "J", false)
  | 13 => ("GhostRoomsModel", "text", "[I", true)
  | 14 => ("GhostRoomsModel", "texted", "I", false)
  | 15 => ("GhostRoomsModel", "cursor", "I", false)
  | 16 => ("GhostRoomsModel", "start", "I", false)
  | 17 => ("GhostRoomsModel", "token", "I", false)
  | 18 => ("GhostRoomsModel", "number", "I", false)
  | 19 => ("GhostRoomsModel", "isWrong", "Z", false)
  | 20 => ("GhostRoomsModel", "saidPeople", "I", false)
  | 21 => ("GhostRoomsModel", "saidRooms", "I", false)
  | 22 => ("GhostRoomsModel", "saidBed", "[I", true)
  | 23 => ("GhostRoomsModel", "saidWants", "[I", true)
  | 24 => ("GhostRoomsModel", "saidDoors", "[I", true)
  | 25 => ("GhostRoomsModel", "said", "[I", true)
  | 26 => ("GhostRoomsModel", "now", "[I", true)
  | _ => ("GhostRoomsModel", "chain", "I", false)
def tyX10 : Nat → FieldType := fun k => match k with
  | 0 => .int
  | 1 => .int
  | 2 => .array .int
  | 3 => .array .int
  | 4 => .array .int
  | 5 => .array .int
  | 6 => .array .int
  | 7 => .int
  | 8 => .array .int
  | 9 => .array .boolean
  | 10 => .int
  | 11 => .array .int
  | 12 => .long
  | 13 => .array .int
  | 14 => .int
  | 15 => .int
  | 16 => .int
  | 17 => .int
  | 18 => .int
  | 19 => .boolean
  | 20 => .int
  | 21 => .int
  | 22 => .array .int
  | 23 => .array .int
  | 24 => .array .int
  | 25 => .array .int
  | 26 => .array .int
  | _ => .int
abbrev wsX100 : List Cond := u_ws RX10 TX10 28
theorem nmX10 : ∀ a, a < 28 → ∀ b, b < 28 → a ≠ b → (TX10 a).2.1 ≠ (TX10 b).2.1 := by decide +kernel
theorem tyX10_ok : ∀ k, k < 28 → parseFieldDescriptor (TX10 k).2.2.1 = some (tyX10 k) := by decide +kernel
abbrev cX10_init : ByteArray := prog_12_method_1_code
def yX10_init : MethodName := ⟨RX10, "<init>", "()V"⟩
abbrev cX10_in : ByteArray := prog_12_method_3_code
def yX10_in : MethodName := ⟨RX10, "in", "(III)Z"⟩
abbrev cX10_has : ByteArray := prog_12_method_4_code
def yX10_has : MethodName := ⟨RX10, "has", "(II)Z"⟩
abbrev cX10_bits : ByteArray := prog_12_method_5_code
def yX10_bits : MethodName := ⟨RX10, "bits", "(I)I"⟩
abbrev cX10_isPerson : ByteArray := prog_12_method_6_code
def yX10_isPerson : MethodName := ⟨RX10, "isPerson", "(I)Z"⟩
abbrev cX10_isRoom : ByteArray := prog_12_method_7_code
def yX10_isRoom : MethodName := ⟨RX10, "isRoom", "(I)Z"⟩
abbrev cX10_copy : ByteArray := prog_12_method_8_code
def yX10_copy : MethodName := ⟨RX10, "copy", "([II[II)V"⟩
abbrev cX10_type : ByteArray := prog_12_method_9_code
def yX10_type : MethodName := ⟨RX10, "type", "(I)I"⟩
abbrev cX10_clear : ByteArray := prog_12_method_10_code
def yX10_clear : MethodName := ⟨RX10, "clear", "()I"⟩
abbrev cX10_letterAt : ByteArray := prog_12_method_11_code
def yX10_letterAt : MethodName := ⟨RX10, "letterAt", "(I)I"⟩
abbrev cX10_isFigure : ByteArray := prog_12_method_12_code
def yX10_isFigure : MethodName := ⟨RX10, "isFigure", "(I)Z"⟩
abbrev cX10_next : ByteArray := prog_12_method_13_code
def yX10_next : MethodName := ⟨RX10, "next", "()V"⟩
abbrev cX10_takes : ByteArray := prog_12_method_14_code
def yX10_takes : MethodName := ⟨RX10, "takes", "(IIZ)I"⟩
abbrev cX10_readPerson : ByteArray := prog_12_method_15_code
def yX10_readPerson : MethodName := ⟨RX10, "readPerson", "()V"⟩
abbrev cX10_readRoom : ByteArray := prog_12_method_16_code
def yX10_readRoom : MethodName := ⟨RX10, "readRoom", "()V"⟩
abbrev cX10_readDoor : ByteArray := prog_12_method_17_code
def yX10_readDoor : MethodName := ⟨RX10, "readDoor", "()V"⟩
abbrev cX10_readPlace : ByteArray := prog_12_method_18_code
def yX10_readPlace : MethodName := ⟨RX10, "readPlace", "(I)V"⟩
abbrev cX10_grantsIn : ByteArray := prog_12_method_19_code
def yX10_grantsIn : MethodName := ⟨RX10, "grantsIn", "([IIII)V"⟩
abbrev cX10_readItem : ByteArray := prog_12_method_20_code
def yX10_readItem : MethodName := ⟨RX10, "readItem", "()V"⟩
abbrev cX10_house : ByteArray := prog_12_method_21_code
def yX10_house : MethodName := ⟨RX10, "house", "()I"⟩
abbrev cX10_asItIs : ByteArray := prog_12_method_22_code
def yX10_asItIs : MethodName := ⟨RX10, "asItIs", "()V"⟩
abbrev cX10_isAlive : ByteArray := prog_12_method_23_code
def yX10_isAlive : MethodName := ⟨RX10, "isAlive", "(I)Z"⟩
abbrev cX10_ownerOf : ByteArray := prog_12_method_24_code
def yX10_ownerOf : MethodName := ⟨RX10, "ownerOf", "(I)I"⟩
abbrev cX10_mayBe : ByteArray := prog_12_method_25_code
def yX10_mayBe : MethodName := ⟨RX10, "mayBe", "(II)Z"⟩
abbrev cX10_mayIn : ByteArray := prog_12_method_26_code
def yX10_mayIn : MethodName := ⟨RX10, "mayIn", "(I)I"⟩
abbrev cX10_whoMay : ByteArray := prog_12_method_27_code
def yX10_whoMay : MethodName := ⟨RX10, "whoMay", "(I)I"⟩
abbrev cX10_goesBy : ByteArray := prog_12_method_28_code
def yX10_goesBy : MethodName := ⟨RX10, "goesBy", "(II)I"⟩
abbrev cX10_isCutOffBy : ByteArray := prog_12_method_29_code
def yX10_isCutOffBy : MethodName := ⟨RX10, "isCutOffBy", "(II)Z"⟩
abbrev cX10_isCutOff : ByteArray := prog_12_method_30_code
def yX10_isCutOff : MethodName := ⟨RX10, "isCutOff", "(I)Z"⟩
abbrev cX10_cutOff : ByteArray := prog_12_method_31_code
def yX10_cutOff : MethodName := ⟨RX10, "cutOff", "()I"⟩
abbrev cX10_person : ByteArray := prog_12_method_32_code
def yX10_person : MethodName := ⟨RX10, "person", "(II)I"⟩
abbrev cX10_room : ByteArray := prog_12_method_33_code
def yX10_room : MethodName := ⟨RX10, "room", "(II)I"⟩
abbrev cX10_right : ByteArray := prog_12_method_34_code
def yX10_right : MethodName := ⟨RX10, "right", "(II)I"⟩
abbrev cX10_now : ByteArray := prog_12_method_35_code
def yX10_now : MethodName := ⟨RX10, "now", "(I)I"⟩
abbrev cX10_remembers : ByteArray := prog_12_method_36_code
def yX10_remembers : MethodName := ⟨RX10, "remembers", "()V"⟩
abbrev cX10_day : ByteArray := prog_12_method_37_code
def yX10_day : MethodName := ⟨RX10, "day", "()I"⟩
abbrev cX10_dies : ByteArray := prog_12_method_38_code
def yX10_dies : MethodName := ⟨RX10, "dies", "(I)I"⟩
abbrev cX10_grants : ByteArray := prog_12_method_39_code
def yX10_grants : MethodName := ⟨RX10, "grants", "(III)I"⟩
abbrev cX10_swap : ByteArray := prog_12_method_40_code
def yX10_swap : MethodName := ⟨RX10, "swap", "([III)V"⟩
abbrev cX10_exchanges : ByteArray := prog_12_method_41_code
def yX10_exchanges : MethodName := ⟨RX10, "exchanges", "(II)I"⟩
abbrev cX10_wills : ByteArray := prog_12_method_42_code
def yX10_wills : MethodName := ⟨RX10, "wills", "(II)I"⟩
abbrev cX10_undo : ByteArray := prog_12_method_43_code
def yX10_undo : MethodName := ⟨RX10, "undo", "()I"⟩
abbrev cX10_fromWhen : ByteArray := prog_12_method_44_code
def yX10_fromWhen : MethodName := ⟨RX10, "fromWhen", "(I)I"⟩
abbrev cX10_refused : ByteArray := prog_12_method_45_code
def yX10_refused : MethodName := ⟨RX10, "refused", "(IZ)I"⟩
abbrev cX10_needs : ByteArray := prog_12_method_46_code
def yX10_needs : MethodName := ⟨RX10, "needs", "(I)I"⟩
abbrev cX10_opens : ByteArray := prog_12_method_47_code
def yX10_opens : MethodName := ⟨RX10, "opens", "(I)I"⟩
abbrev cX10_exchange : ByteArray := prog_12_method_48_code
def yX10_exchange : MethodName := ⟨RX10, "exchange", "()I"⟩
abbrev cX10_holdsOut : ByteArray := prog_12_method_49_code
def yX10_holdsOut : MethodName := ⟨RX10, "holdsOut", "()I"⟩
abbrev cX10_dinner : ByteArray := prog_12_method_50_code
def yX10_dinner : MethodName := ⟨RX10, "dinner", "(II)I"⟩
abbrev cX10_seen : ByteArray := prog_12_method_51_code
def yX10_seen : MethodName := ⟨RX10, "seen", "(III)I"⟩
abbrev cX10_forget : ByteArray := prog_12_method_52_code
def yX10_forget : MethodName := ⟨RX10, "forget", "()I"⟩
abbrev cX10_said : ByteArray := prog_12_method_53_code
def yX10_said : MethodName := ⟨RX10, "said", "(I)I"⟩
abbrev cX10_last : ByteArray := prog_12_method_54_code
def yX10_last : MethodName := ⟨RX10, "last", "(I)I"⟩
abbrev cX10_waits : ByteArray := prog_12_method_55_code
def yX10_waits : MethodName := ⟨RX10, "waits", "(II)I"⟩
abbrev cX10_odds : ByteArray := prog_12_method_56_code
def yX10_odds : MethodName := ⟨RX10, "odds", "(III)I"⟩
abbrev cX10_roomRate : ByteArray := prog_12_method_57_code
def yX10_roomRate : MethodName := ⟨RX10, "roomRate", "(I)I"⟩
abbrev cX10_hallRate : ByteArray := prog_12_method_58_code
def yX10_hallRate : MethodName := ⟨RX10, "hallRate", "(I)I"⟩
abbrev cX10_stairRate : ByteArray := prog_12_method_59_code
def yX10_stairRate : MethodName := ⟨RX10, "stairRate", "(I)I"⟩
abbrev cX10_rate : ByteArray := prog_12_method_60_code
def yX10_rate : MethodName := ⟨RX10, "rate", "(II)I"⟩
abbrev cX10_keep : ByteArray := prog_12_method_61_code
def yX10_keep : MethodName := ⟨RX10, "keep", "(I)I"⟩
abbrev cX10_back : ByteArray := prog_12_method_62_code
def yX10_back : MethodName := ⟨RX10, "back", "(I)I"⟩
abbrev cX10_count : ByteArray := prog_12_method_63_code
def yX10_count : MethodName := ⟨RX10, "count", "(I)I"⟩
abbrev cX10_trace : ByteArray := prog_12_method_64_code
def yX10_trace : MethodName := ⟨RX10, "trace", "()J"⟩
def RJ6 : String := "java/lang/Integer"
abbrev cJ6_bitCount_0f7a4 : ByteArray := prog_13_method_49_code
def yJ6_bitCount_0f7a4 : MethodName := ⟨RJ6, "bitCount", "(I)I"⟩
def RJ10 : String := "java/lang/System"
def RL : String := "GhostRoomsLaw"
abbrev cL_law : ByteArray := code
def yL_law : MethodName := ⟨RL, "law", "([I)Z"⟩
