-- yX10_in
theorem dX10_in_0 : decode cX10_in 0 = .ok (.iload_n 0, 1) := by decide +kernel
theorem dX10_in_1 : decode cX10_in 1 = .ok (.iload_n 1, 1) := by decide +kernel
theorem dX10_in_2 : decode cX10_in 2 = .ok (.if_icmp .lt 12, 3) := by decide +kernel
theorem dX10_in_5 : decode cX10_in 5 = .ok (.iload_n 0, 1) := by decide +kernel
theorem dX10_in_6 : decode cX10_in 6 = .ok (.iload_n 2, 1) := by decide +kernel
theorem dX10_in_7 : decode cX10_in 7 = .ok (.if_icmp .gt 7, 3) := by decide +kernel
theorem dX10_in_10 : decode cX10_in 10 = .ok (.iconst 1, 1) := by decide +kernel
theorem dX10_in_11 : decode cX10_in 11 = .ok (.goto 4, 3) := by decide +kernel
theorem dX10_in_14 : decode cX10_in 14 = .ok (.iconst 0, 1) := by decide +kernel
theorem dX10_in_15 : decode cX10_in 15 = .ok (.ireturn, 1) := by decide +kernel
def r_X10_in : Room := { frames := 0, cells := 0, slots := 0, locals := 0 }
def f_X10_in (P : PH) (x0 : Int32) (x1 : Int32) (x2 : Int32) : Option Bool :=
  (if x0 < x1 then some false else (if x2 < x0 then some false else some true))
theorem w_X10_in {x : Fx} {E : Ev} (S : ZS x E r_X10_in cX10_in 3 RX10 (some .boolean)) (M : ZM x E) (P : PH) (x0 : Int32) (x1 : Int32) (x2 : Int32)  (r : Bool) (hf : f_X10_in P x0 x1 x2 = some r) : Wz x E 3 (QI E x (b2i r) P) P 0 [(0, .int x0), (1, .int x1), (2, .int x2)] [] := by
  unfold f_X10_in at hf
  refine z_iload_n S 0 dX10_in_0 rfl rfl ?_
  refine z_iload_n S 1 dX10_in_1 rfl rfl ?_
  refine z_icmp_lt (tgt := 14) S dX10_in_2 (by decide) hf (fun hf => ?_) (fun hf => ?_)
  · refine z_iconst (v := 0) S dX10_in_14 (by decide) ?_
    exact z_zretP (v := false) S M rfl dX10_in_15 hf
  · refine z_iload_n S 0 dX10_in_5 rfl rfl ?_
    refine z_iload_n S 2 dX10_in_6 rfl rfl ?_
    refine z_icmp_gt (tgt := 14) S dX10_in_7 (by decide) hf (fun hf => ?_) (fun hf => ?_)
    · refine z_iconst (v := 0) S dX10_in_14 (by decide) ?_
      exact z_zretP (v := false) S M rfl dX10_in_15 hf
    · refine z_iconst (v := 1) S dX10_in_10 (by decide) ?_
      refine z_goto (tgt := 15) S dX10_in_11 (by decide) ?_
      exact z_zretP (v := true) S M rfl dX10_in_15 hf
theorem m_X10_in (l : Launch) (E : Ev) (P : PH) (x0 : Int32) (x1 : Int32) (x2 : Int32)  (r : Bool) (hf : f_X10_in P x0 x1 x2 = some r) : CtI l E yX10_in cX10_in 3 (some .boolean) r_X10_in [.int x0, .int x1, .int x2] P (b2i r) P :=
  z_body (own := RX10) (by decide +kernel) rfl (Nat.le_of_ble_eq_true rfl) rfl (fun x _ S M => w_X10_in S M P x0 x1 x2  r hf)
-- yX10_has
theorem dX10_has_0 : decode cX10_has 0 = .ok (.iload_n 0, 1) := by decide +kernel
theorem dX10_has_1 : decode cX10_has 1 = .ok (.iload_n 1, 1) := by decide +kernel
theorem dX10_has_2 : decode cX10_has 2 = .ok (.ishr, 1) := by decide +kernel
theorem dX10_has_3 : decode cX10_has 3 = .ok (.iconst 1, 1) := by decide +kernel
theorem dX10_has_4 : decode cX10_has 4 = .ok (.iand, 1) := by decide +kernel
theorem dX10_has_5 : decode cX10_has 5 = .ok (.iconst 1, 1) := by decide +kernel
theorem dX10_has_6 : decode cX10_has 6 = .ok (.if_icmp .ne 7, 3) := by decide +kernel
theorem dX10_has_9 : decode cX10_has 9 = .ok (.iconst 1, 1) := by decide +kernel
theorem dX10_has_10 : decode cX10_has 10 = .ok (.goto 4, 3) := by decide +kernel
theorem dX10_has_13 : decode cX10_has 13 = .ok (.iconst 0, 1) := by decide +kernel
theorem dX10_has_14 : decode cX10_has 14 = .ok (.ireturn, 1) := by decide +kernel
def r_X10_has : Room := { frames := 0, cells := 0, slots := 0, locals := 0 }
def f_X10_has (P : PH) (x0 : Int32) (x1 : Int32) : Option Bool :=
  (if ((x0 >>> (x1 &&& 31)) &&& (1 : Int32)) = (1 : Int32) then some true else some false)
theorem w_X10_has {x : Fx} {E : Ev} (S : ZS x E r_X10_has cX10_has 2 RX10 (some .boolean)) (M : ZM x E) (P : PH) (x0 : Int32) (x1 : Int32)  (r : Bool) (hf : f_X10_has P x0 x1 = some r) : Wz x E 2 (QI E x (b2i r) P) P 0 [(0, .int x0), (1, .int x1)] [] := by
  unfold f_X10_has at hf
  refine z_iload_n S 0 dX10_has_0 rfl rfl ?_
  refine z_iload_n S 1 dX10_has_1 rfl rfl ?_
  refine z_ishr S dX10_has_2 ?_
  refine z_iconst (v := 1) S dX10_has_3 (by decide) ?_
  refine z_iand S dX10_has_4 ?_
  refine z_iconst (v := 1) S dX10_has_5 (by decide) ?_
  refine z_icmp_ne (tgt := 13) S dX10_has_6 (by decide) hf (fun hf => ?_) (fun hf => ?_)
  · refine z_iconst (v := 1) S dX10_has_9 (by decide) ?_
    refine z_goto (tgt := 14) S dX10_has_10 (by decide) ?_
    exact z_zretP (v := true) S M rfl dX10_has_14 hf
  · refine z_iconst (v := 0) S dX10_has_13 (by decide) ?_
    exact z_zretP (v := false) S M rfl dX10_has_14 hf
theorem m_X10_has (l : Launch) (E : Ev) (P : PH) (x0 : Int32) (x1 : Int32)  (r : Bool) (hf : f_X10_has P x0 x1 = some r) : CtI l E yX10_has cX10_has 2 (some .boolean) r_X10_has [.int x0, .int x1] P (b2i r) P :=
  z_body (own := RX10) (by decide +kernel) rfl (Nat.le_of_ble_eq_true rfl) rfl (fun x _ S M => w_X10_has S M P x0 x1  r hf)
-- yX10_bits
theorem dX10_bits_0 : decode cX10_bits 0 = .ok (.iconst 0, 1) := by decide +kernel
theorem dX10_bits_1 : decode cX10_bits 1 = .ok (.istore_n 1, 1) := by decide +kernel
theorem dX10_bits_2 : decode cX10_bits 2 = .ok (.iconst 0, 1) := by decide +kernel
theorem dX10_bits_3 : decode cX10_bits 3 = .ok (.istore_n 2, 1) := by decide +kernel
theorem dX10_bits_4 : decode cX10_bits 4 = .ok (.iload_n 2, 1) := by decide +kernel
theorem dX10_bits_5 : decode cX10_bits 5 = .ok (.bipush 7, 2) := by decide +kernel
theorem dX10_bits_7 : decode cX10_bits 7 = .ok (.if_icmp .ge 17, 3) := by decide +kernel
theorem dX10_bits_10 : decode cX10_bits 10 = .ok (.iload_n 1, 1) := by decide +kernel
theorem dX10_bits_11 : decode cX10_bits 11 = .ok (.iload_n 0, 1) := by decide +kernel
theorem dX10_bits_12 : decode cX10_bits 12 = .ok (.iload_n 2, 1) := by decide +kernel
theorem dX10_bits_13 : decode cX10_bits 13 = .ok (.ishr, 1) := by decide +kernel
theorem dX10_bits_14 : decode cX10_bits 14 = .ok (.iconst 1, 1) := by decide +kernel
theorem dX10_bits_15 : decode cX10_bits 15 = .ok (.iand, 1) := by decide +kernel
theorem dX10_bits_16 : decode cX10_bits 16 = .ok (.iadd, 1) := by decide +kernel
theorem dX10_bits_17 : decode cX10_bits 17 = .ok (.istore_n 1, 1) := by decide +kernel
theorem dX10_bits_18 : decode cX10_bits 18 = .ok (.iinc 2 1, 3) := by decide +kernel
theorem dX10_bits_21 : decode cX10_bits 21 = .ok (.goto (-17), 3) := by decide +kernel
theorem dX10_bits_24 : decode cX10_bits 24 = .ok (.iload_n 1, 1) := by decide +kernel
theorem dX10_bits_25 : decode cX10_bits 25 = .ok (.ireturn, 1) := by decide +kernel
def r_X10_bits : Room := { frames := 0, cells := 0, slots := 0, locals := 0 }
def f_X10_bits_L4 (K : Int32 → Option Int32) (P : PH) (x0 : Int32) : Nat → Int32 → Int32 → Option Int32
  | 0, _, _ => none
  | n + 1, x1, x2 =>
    (if (7 : Int32) ≤ x2 then K x1 else f_X10_bits_L4 K P x0 n (x1 + ((x0 >>> (x2 &&& 31)) &&& (1 : Int32))) (x2 + (1 : Int32)))
theorem w_X10_bits_L4 {x : Fx} {E : Ev} (S : ZS x E r_X10_bits cX10_bits 3 RX10 (some .int)) (M : ZM x E) {K : Int32 → Option Int32} (P : PH) (x0 : Int32)  (r : Int32) (hK : ∀ (y1 : Int32), K y1 = some r → Wz x E 3 (QI E x r P) P 24 [(1, .int y1)] []) : ∀ (n : Nat) (x1 : Int32) (x2 : Int32), f_X10_bits_L4 K P x0 n x1 x2 = some r → Wz x E 3 (QI E x r P) P 4 [(0, .int x0), (1, .int x1), (2, .int x2)] [] := by
  intro n
  induction n with
  | zero => intro x1 x2 hf; cases hf
  | succ n ih =>
    intro x1 x2 hf
    unfold f_X10_bits_L4 at hf
    refine z_iload_n S 2 dX10_bits_4 rfl rfl ?_
    refine z_bipush (v := 7) S dX10_bits_5 (by decide) ?_
    refine z_icmp_ge (tgt := 24) S dX10_bits_7 (by decide) hf (fun hf => ?_) (fun hf => ?_)
    · refine z_sub [1] rfl ?_
      exact hK x1 hf
    · refine z_iload_n S 1 dX10_bits_10 rfl rfl ?_
      refine z_iload_n S 0 dX10_bits_11 rfl rfl ?_
      refine z_iload_n S 2 dX10_bits_12 rfl rfl ?_
      refine z_ishr S dX10_bits_13 ?_
      refine z_iconst (v := 1) S dX10_bits_14 (by decide) ?_
      refine z_iand S dX10_bits_15 ?_
      refine z_iadd S dX10_bits_16 ?_
      refine z_istore_n (lv' := [(1, .int (x1 + ((x0 >>> (x2 &&& 31)) &&& (1 : Int32)))), (0, .int x0), (2, .int x2)]) S dX10_bits_17 rfl (by decide) rfl ?_
      refine z_iinc (v := (x2 + (1 : Int32))) (lv' := [(2, .int (x2 + (1 : Int32))), (1, .int (x1 + ((x0 >>> (x2 &&& 31)) &&& (1 : Int32)))), (0, .int x0)]) S 2 dX10_bits_18 rfl (by rfl) (by decide) rfl ?_
      refine z_goto (tgt := 4) S dX10_bits_21 (by decide) ?_
      refine z_sub [2, 1, 0] rfl ?_
      exact ih (x1 + ((x0 >>> (x2 &&& 31)) &&& (1 : Int32))) (x2 + (1 : Int32)) hf
def f_X10_bits (P : PH) (x0 : Int32) : Option Int32 :=
  f_X10_bits_L4 (fun v1 => some v1) P x0 1000 (0 : Int32) (0 : Int32)
theorem w_X10_bits {x : Fx} {E : Ev} (S : ZS x E r_X10_bits cX10_bits 3 RX10 (some .int)) (M : ZM x E) (P : PH) (x0 : Int32)  (r : Int32) (hf : f_X10_bits P x0 = some r) : Wz x E 3 (QI E x r P) P 0 [(0, .int x0)] [] := by
  unfold f_X10_bits at hf
  refine z_iconst (v := 0) S dX10_bits_0 (by decide) ?_
  refine z_istore_n (lv' := [(1, .int (0 : Int32)), (0, .int x0)]) S dX10_bits_1 rfl (by decide) rfl ?_
  refine z_iconst (v := 0) S dX10_bits_2 (by decide) ?_
  refine z_istore_n (lv' := [(2, .int (0 : Int32)), (1, .int (0 : Int32)), (0, .int x0)]) S dX10_bits_3 rfl (by decide) rfl ?_
  refine z_sub [2, 1, 0] rfl ?_
  refine w_X10_bits_L4 S M _ x0  r (fun v1 hf => ?_) 1000 (0 : Int32) (0 : Int32) hf
  refine z_iload_n S 0 dX10_bits_24 rfl rfl ?_
  exact z_iretP (v := v1) S M rfl dX10_bits_25 hf
theorem m_X10_bits (l : Launch) (E : Ev) (P : PH) (x0 : Int32)  (r : Int32) (hf : f_X10_bits P x0 = some r) : CtI l E yX10_bits cX10_bits 3 (some .int) r_X10_bits [.int x0] P r P :=
  z_body (own := RX10) (by decide +kernel) rfl (Nat.le_of_ble_eq_true rfl) rfl (fun x _ S M => w_X10_bits S M P x0  r hf)
-- yX10_isPerson
theorem dX10_isPerson_0 : decode cX10_isPerson 0 = .ok (.iload_n 1, 1) := by decide +kernel
theorem dX10_isPerson_1 : decode cX10_isPerson 1 = .ok (.iconst 0, 1) := by decide +kernel
theorem dX10_isPerson_2 : decode cX10_isPerson 2 = .ok (.aload_n 0, 1) := by decide +kernel
theorem dX10_isPerson_3 : decode cX10_isPerson 3 = .ok (.getfield 53, 3) := by decide +kernel
theorem dX10_isPerson_6 : decode cX10_isPerson 6 = .ok (.iconst 1, 1) := by decide +kernel
theorem dX10_isPerson_7 : decode cX10_isPerson 7 = .ok (.isub, 1) := by decide +kernel
theorem dX10_isPerson_8 : decode cX10_isPerson 8 = .ok (.invokestatic 57, 3) := by decide +kernel
theorem dX10_isPerson_11 : decode cX10_isPerson 11 = .ok (.ireturn, 1) := by decide +kernel
def r_X10_isPerson : Room := { frames := 1, cells := 0, slots := 0, locals := 22 }
def f_X10_isPerson (P : PH) (x0 : Nat) (x1 : Int32) : Option Bool :=
  ((f_X10_in P x1 (0 : Int32) ((P.1 x0 0) - (1 : Int32))).bind fun q1 => some q1)
theorem w_X10_isPerson {x : Fx} {E : Ev} (S : ZS x E r_X10_isPerson cX10_isPerson 2 RX10 (some .boolean)) (M : ZM x E) (P : PH) (x0 : Nat) (x1 : Int32) (h_x0 : ok x0 8 0) (r : Bool) (hf : f_X10_isPerson P x0 x1 = some r) : Wz x E 2 (QI E x (b2i r) P) P 0 [(0, .ref (ad E x0)), (1, .int x1)] [] := by
  unfold f_X10_isPerson at hf
  refine z_iload_n S 1 dX10_isPerson_0 rfl rfl ?_
  refine z_iconst (v := 0) S dX10_isPerson_1 (by decide) ?_
  refine z_aload_n S 0 dX10_isPerson_2 rfl rfl ?_
  refine z_getI S cf_8 h_x0 0 (by decide) rfl wd667 dX10_isPerson_3 ?_
  refine z_iconst (v := 1) S dX10_isPerson_6 (by decide) ?_
  refine z_isub S dX10_isPerson_7 ?_
  refine z_callSI (rc := r_X10_in) [.int x1, .int (0 : Int32), .int ((P.1 x0 0) - (1 : Int32))] S mo_X10_in wd758 wd757 rfl rfl (by decide) (z_room0 S M (by rfl) (by rfl)) rfl (Nat.le_of_ble_eq_true rfl) rfl dX10_isPerson_8 (fun q => b2i q) (fun _ => P) (fun q hq => m_X10_in (xl x) E _ _ _ _  q hq) hf (fun q1 hf => ?_)
  exact z_zretP (v := q1) S M rfl dX10_isPerson_11 hf
theorem m_X10_isPerson (l : Launch) (E : Ev) (P : PH) (x0 : Nat) (x1 : Int32) (h_x0 : ok x0 8 0) (r : Bool) (hf : f_X10_isPerson P x0 x1 = some r) : CtI l E yX10_isPerson cX10_isPerson 2 (some .boolean) r_X10_isPerson [.ref (ad E x0), .int x1] P (b2i r) P :=
  z_body (own := RX10) (by decide +kernel) rfl (Nat.le_of_ble_eq_true rfl) rfl (fun x _ S M => w_X10_isPerson S M P x0 x1 h_x0 r hf)
-- yX10_isRoom
theorem dX10_isRoom_0 : decode cX10_isRoom 0 = .ok (.iload_n 1, 1) := by decide +kernel
theorem dX10_isRoom_1 : decode cX10_isRoom 1 = .ok (.iconst 0, 1) := by decide +kernel
theorem dX10_isRoom_2 : decode cX10_isRoom 2 = .ok (.aload_n 0, 1) := by decide +kernel
theorem dX10_isRoom_3 : decode cX10_isRoom 3 = .ok (.getfield 61, 3) := by decide +kernel
theorem dX10_isRoom_6 : decode cX10_isRoom 6 = .ok (.iconst 1, 1) := by decide +kernel
theorem dX10_isRoom_7 : decode cX10_isRoom 7 = .ok (.isub, 1) := by decide +kernel
theorem dX10_isRoom_8 : decode cX10_isRoom 8 = .ok (.invokestatic 57, 3) := by decide +kernel
theorem dX10_isRoom_11 : decode cX10_isRoom 11 = .ok (.ireturn, 1) := by decide +kernel
def r_X10_isRoom : Room := { frames := 1, cells := 0, slots := 0, locals := 22 }
def f_X10_isRoom (P : PH) (x0 : Nat) (x1 : Int32) : Option Bool :=
  ((f_X10_in P x1 (0 : Int32) ((P.1 x0 1) - (1 : Int32))).bind fun q1 => some q1)
theorem w_X10_isRoom {x : Fx} {E : Ev} (S : ZS x E r_X10_isRoom cX10_isRoom 2 RX10 (some .boolean)) (M : ZM x E) (P : PH) (x0 : Nat) (x1 : Int32) (h_x0 : ok x0 8 0) (r : Bool) (hf : f_X10_isRoom P x0 x1 = some r) : Wz x E 2 (QI E x (b2i r) P) P 0 [(0, .ref (ad E x0)), (1, .int x1)] [] := by
  unfold f_X10_isRoom at hf
  refine z_iload_n S 1 dX10_isRoom_0 rfl rfl ?_
  refine z_iconst (v := 0) S dX10_isRoom_1 (by decide) ?_
  refine z_aload_n S 0 dX10_isRoom_2 rfl rfl ?_
  refine z_getI S cf_8 h_x0 1 (by decide) rfl wd668 dX10_isRoom_3 ?_
  refine z_iconst (v := 1) S dX10_isRoom_6 (by decide) ?_
  refine z_isub S dX10_isRoom_7 ?_
  refine z_callSI (rc := r_X10_in) [.int x1, .int (0 : Int32), .int ((P.1 x0 1) - (1 : Int32))] S mo_X10_in wd758 wd757 rfl rfl (by decide) (z_room0 S M (by rfl) (by rfl)) rfl (Nat.le_of_ble_eq_true rfl) rfl dX10_isRoom_8 (fun q => b2i q) (fun _ => P) (fun q hq => m_X10_in (xl x) E _ _ _ _  q hq) hf (fun q1 hf => ?_)
  exact z_zretP (v := q1) S M rfl dX10_isRoom_11 hf
theorem m_X10_isRoom (l : Launch) (E : Ev) (P : PH) (x0 : Nat) (x1 : Int32) (h_x0 : ok x0 8 0) (r : Bool) (hf : f_X10_isRoom P x0 x1 = some r) : CtI l E yX10_isRoom cX10_isRoom 2 (some .boolean) r_X10_isRoom [.ref (ad E x0), .int x1] P (b2i r) P :=
  z_body (own := RX10) (by decide +kernel) rfl (Nat.le_of_ble_eq_true rfl) rfl (fun x _ S M => w_X10_isRoom S M P x0 x1 h_x0 r hf)
-- yX10_copy
theorem dX10_copy_0 : decode cX10_copy 0 = .ok (.iconst 0, 1) := by decide +kernel
theorem dX10_copy_1 : decode cX10_copy 1 = .ok (.istore 4, 2) := by decide +kernel
theorem dX10_copy_3 : decode cX10_copy 3 = .ok (.iload 4, 2) := by decide +kernel
theorem dX10_copy_5 : decode cX10_copy 5 = .ok (.bipush 46, 2) := by decide +kernel
theorem dX10_copy_7 : decode cX10_copy 7 = .ok (.if_icmp .ge 21, 3) := by decide +kernel
theorem dX10_copy_10 : decode cX10_copy 10 = .ok (.aload_n 0, 1) := by decide +kernel
theorem dX10_copy_11 : decode cX10_copy 11 = .ok (.iload_n 1, 1) := by decide +kernel
theorem dX10_copy_12 : decode cX10_copy 12 = .ok (.iload 4, 2) := by decide +kernel
theorem dX10_copy_14 : decode cX10_copy 14 = .ok (.iadd, 1) := by decide +kernel
theorem dX10_copy_15 : decode cX10_copy 15 = .ok (.aload_n 2, 1) := by decide +kernel
theorem dX10_copy_16 : decode cX10_copy 16 = .ok (.iload_n 3, 1) := by decide +kernel
theorem dX10_copy_17 : decode cX10_copy 17 = .ok (.iload 4, 2) := by decide +kernel
theorem dX10_copy_19 : decode cX10_copy 19 = .ok (.iadd, 1) := by decide +kernel
theorem dX10_copy_20 : decode cX10_copy 20 = .ok (.iaload, 1) := by decide +kernel
theorem dX10_copy_21 : decode cX10_copy 21 = .ok (.iastore, 1) := by decide +kernel
theorem dX10_copy_22 : decode cX10_copy 22 = .ok (.iinc 4 1, 3) := by decide +kernel
theorem dX10_copy_25 : decode cX10_copy 25 = .ok (.goto (-22), 3) := by decide +kernel
theorem dX10_copy_28 : decode cX10_copy 28 = .ok (.return_, 1) := by decide +kernel
def r_X10_copy : Room := { frames := 0, cells := 0, slots := 0, locals := 0 }
def f_X10_copy_L3 (n0 n2 : Nat) (K : PH → Option PH) (x0 : Nat) (x1 : Int32) (x2 : Nat) (x3 : Int32) : Nat → PH → Int32 → Option PH
  | 0, _, _ => none
  | n + 1, P, x4 =>
    (if (46 : Int32) ≤ x4 then K P else (if ((x3 + x4) < 0 ∨ n2 ≤ (x3 + x4).toNatClampNeg) then none else (if ((x1 + x4) < 0 ∨ n0 ≤ (x1 + x4).toNatClampNeg) then none else ((some (sI P x0 (x1 + x4).toNatClampNeg (P.1 x2 (x3 + x4).toNatClampNeg))).bind fun P1 => f_X10_copy_L3 n0 n2 K x0 x1 x2 x3 n P1 (x4 + (1 : Int32))))))
theorem w_X10_copy_L3 {x : Fx} {E : Ev} (S : ZS x E r_X10_copy cX10_copy 5 RX10 none) (M : ZM x E) (n0 n2 : Nat) {K : PH → Option PH} (x0 : Nat) (x1 : Int32) (x2 : Nat) (x3 : Int32) (h_x0 : ok x0 9 n0) (h_x2 : ok x2 9 n2) (r : PH) (hK : ∀ (P1 : PH) , K P1 = some r → Wz x E 5 (QV E x r) P1 28 [] []) : ∀ (n : Nat) (P : PH) (x4 : Int32), f_X10_copy_L3 n0 n2 K x0 x1 x2 x3 n P x4 = some r → Wz x E 5 (QV E x r) P 3 [(0, .ref (ad E x0)), (1, .int x1), (2, .ref (ad E x2)), (3, .int x3), (4, .int x4)] [] := by
  intro n
  induction n with
  | zero => intro P x4 hf; cases hf
  | succ n ih =>
    intro P x4 hf
    unfold f_X10_copy_L3 at hf
    refine z_iload S 4 dX10_copy_3 rfl ?_
    refine z_bipush (v := 46) S dX10_copy_5 (by decide) ?_
    refine z_icmp_ge (tgt := 28) S dX10_copy_7 (by decide) hf (fun hf => ?_) (fun hf => ?_)
    · refine z_sub [] rfl ?_
      exact hK P hf
    · refine z_aload_n S 0 dX10_copy_10 rfl rfl ?_
      refine z_iload_n S 1 dX10_copy_11 rfl rfl ?_
      refine z_iload S 4 dX10_copy_12 rfl ?_
      refine z_iadd S dX10_copy_14 ?_
      refine z_aload_n S 2 dX10_copy_15 rfl rfl ?_
      refine z_iload_n S 3 dX10_copy_16 rfl rfl ?_
      refine z_iload S 4 dX10_copy_17 rfl ?_
      refine z_iadd S dX10_copy_19 ?_
      refine z_iald S h_x2 dX10_copy_20 hf (fun hf => ?_)
      refine z_iast S h_x0 dX10_copy_21 hf (fun hf => ?_)
      refine z_nmP hf (fun P1 hf => ?_)
      refine z_iinc (v := (x4 + (1 : Int32))) (lv' := [(4, .int (x4 + (1 : Int32))), (0, .ref (ad E x0)), (1, .int x1), (2, .ref (ad E x2)), (3, .int x3)]) S 4 dX10_copy_22 rfl (by rfl) (by decide) rfl ?_
      refine z_goto (tgt := 3) S dX10_copy_25 (by decide) ?_
      refine z_sub [1, 2, 3, 4, 0] rfl ?_
      exact ih P1 (x4 + (1 : Int32)) hf
def f_X10_copy (n0 n2 : Nat) (P : PH) (x0 : Nat) (x1 : Int32) (x2 : Nat) (x3 : Int32) : Option PH :=
  f_X10_copy_L3 n0 n2 (fun P2 => some P2) x0 x1 x2 x3 1000 P (0 : Int32)
theorem w_X10_copy {x : Fx} {E : Ev} (S : ZS x E r_X10_copy cX10_copy 5 RX10 none) (M : ZM x E) (n0 n2 : Nat) (P : PH) (x0 : Nat) (x1 : Int32) (x2 : Nat) (x3 : Int32) (h_x0 : ok x0 9 n0) (h_x2 : ok x2 9 n2) (r : PH) (hf : f_X10_copy n0 n2 P x0 x1 x2 x3 = some r) : Wz x E 5 (QV E x r) P 0 [(0, .ref (ad E x0)), (1, .int x1), (2, .ref (ad E x2)), (3, .int x3)] [] := by
  unfold f_X10_copy at hf
  refine z_iconst (v := 0) S dX10_copy_0 (by decide) ?_
  refine z_istore (lv' := [(4, .int (0 : Int32)), (0, .ref (ad E x0)), (1, .int x1), (2, .ref (ad E x2)), (3, .int x3)]) S dX10_copy_1 (by decide) rfl ?_
  refine z_sub [1, 2, 3, 4, 0] rfl ?_
  refine w_X10_copy_L3 S M n0 n2 x0 x1 x2 x3 h_x0 h_x2 r (fun P2 hf => ?_) 1000 P (0 : Int32) hf
  exact z_vretI S M rfl dX10_copy_28 hf
theorem m_X10_copy (l : Launch) (E : Ev) (n0 n2 : Nat) (P : PH) (x0 : Nat) (x1 : Int32) (x2 : Nat) (x3 : Int32) (h_x0 : ok x0 9 n0) (h_x2 : ok x2 9 n2) (r : PH) (hf : f_X10_copy n0 n2 P x0 x1 x2 x3 = some r) : CtV l E yX10_copy cX10_copy 5 none r_X10_copy [.ref (ad E x0), .int x1, .ref (ad E x2), .int x3] P r :=
  z_body (own := RX10) (by decide +kernel) rfl (Nat.le_of_ble_eq_true rfl) rfl (fun x _ S M => w_X10_copy S M n0 n2 P x0 x1 x2 x3 h_x0 h_x2 r hf)
-- yX10_type
theorem dX10_type_0 : decode cX10_type 0 = .ok (.iload_n 1, 1) := by decide +kernel
theorem dX10_type_1 : decode cX10_type 1 = .ok (.iconst 0, 1) := by decide +kernel
theorem dX10_type_2 : decode cX10_type 2 = .ok (.sipush 255, 3) := by decide +kernel
theorem dX10_type_5 : decode cX10_type 5 = .ok (.invokestatic 57, 3) := by decide +kernel
theorem dX10_type_8 : decode cX10_type 8 = .ok (.ifCond .ne 5, 3) := by decide +kernel
theorem dX10_type_11 : decode cX10_type 11 = .ok (.iconst (-1), 1) := by decide +kernel
theorem dX10_type_12 : decode cX10_type 12 = .ok (.ireturn, 1) := by decide +kernel
theorem dX10_type_13 : decode cX10_type 13 = .ok (.aload_n 0, 1) := by decide +kernel
theorem dX10_type_14 : decode cX10_type 14 = .ok (.getfield 64, 3) := by decide +kernel
theorem dX10_type_17 : decode cX10_type 17 = .ok (.sipush 200, 3) := by decide +kernel
theorem dX10_type_20 : decode cX10_type 20 = .ok (.if_icmp .ne 6, 3) := by decide +kernel
theorem dX10_type_23 : decode cX10_type 23 = .ok (.bipush (-3), 2) := by decide +kernel
theorem dX10_type_25 : decode cX10_type 25 = .ok (.ireturn, 1) := by decide +kernel
theorem dX10_type_26 : decode cX10_type 26 = .ok (.aload_n 0, 1) := by decide +kernel
theorem dX10_type_27 : decode cX10_type 27 = .ok (.getfield 35, 3) := by decide +kernel
theorem dX10_type_30 : decode cX10_type 30 = .ok (.aload_n 0, 1) := by decide +kernel
theorem dX10_type_31 : decode cX10_type 31 = .ok (.getfield 64, 3) := by decide +kernel
theorem dX10_type_34 : decode cX10_type 34 = .ok (.iload_n 1, 1) := by decide +kernel
theorem dX10_type_35 : decode cX10_type 35 = .ok (.iastore, 1) := by decide +kernel
theorem dX10_type_36 : decode cX10_type 36 = .ok (.aload_n 0, 1) := by decide +kernel
theorem dX10_type_37 : decode cX10_type 37 = .ok (.dup, 1) := by decide +kernel
theorem dX10_type_38 : decode cX10_type 38 = .ok (.getfield 64, 3) := by decide +kernel
theorem dX10_type_41 : decode cX10_type 41 = .ok (.iconst 1, 1) := by decide +kernel
theorem dX10_type_42 : decode cX10_type 42 = .ok (.iadd, 1) := by decide +kernel
theorem dX10_type_43 : decode cX10_type 43 = .ok (.putfield 64, 3) := by decide +kernel
theorem dX10_type_46 : decode cX10_type 46 = .ok (.aload_n 0, 1) := by decide +kernel
theorem dX10_type_47 : decode cX10_type 47 = .ok (.getfield 64, 3) := by decide +kernel
theorem dX10_type_50 : decode cX10_type 50 = .ok (.ireturn, 1) := by decide +kernel
def r_X10_type : Room := { frames := 1, cells := 0, slots := 0, locals := 22 }
def f_X10_type (P : PH) (x0 : Nat) (x1 : Int32) : Option (Int32 × PH) :=
  ((f_X10_in P x1 (0 : Int32) (255 : Int32)).bind fun q1 => (if (b2i q1) = 0 then some ((-1 : Int32), P) else (if (P.1 x0 14) = (200 : Int32) then some ((-3 : Int32), P) else (if ((P.1 x0 14) < 0 ∨ 200 ≤ (P.1 x0 14).toNatClampNeg) then none else ((some (sI P (P.2.2 x0 13) (P.1 x0 14).toNatClampNeg x1)).bind fun P3 => ((some (sI P3 x0 14 ((P3.1 x0 14) + (1 : Int32)))).bind fun P4 => some ((P4.1 x0 14), P4)))))))
theorem w_X10_type {x : Fx} {E : Ev} (S : ZS x E r_X10_type cX10_type 2 RX10 (some .int)) (M : ZM x E) (P : PH) (x0 : Nat) (x1 : Int32) (h_x0 : ok x0 8 0) (r : (Int32 × PH)) (hf : f_X10_type P x0 x1 = some r) : Wz x E 2 (QI E x r.1 r.2) P 0 [(0, .ref (ad E x0)), (1, .int x1)] [] := by
  unfold f_X10_type at hf
  refine z_iload_n S 1 dX10_type_0 rfl rfl ?_
  refine z_iconst (v := 0) S dX10_type_1 (by decide) ?_
  refine z_sipush (v := 255) S dX10_type_2 (by decide) ?_
  refine z_callSI (rc := r_X10_in) [.int x1, .int (0 : Int32), .int (255 : Int32)] S mo_X10_in wd758 wd757 rfl rfl (by decide) (z_room0 S M (by rfl) (by rfl)) rfl (Nat.le_of_ble_eq_true rfl) rfl dX10_type_5 (fun q => b2i q) (fun _ => P) (fun q hq => m_X10_in (xl x) E _ _ _ _  q hq) hf (fun q1 hf => ?_)
  refine z_if_ne (tgt := 13) S dX10_type_8 (by decide) hf (fun hf => ?_) (fun hf => ?_)
  · refine z_iconst (v := (-1 : Int32)) S dX10_type_11 (by decide) ?_
    exact z_iretI (v := (-1 : Int32)) S M rfl dX10_type_12 hf
  · refine z_aload_n S 0 dX10_type_13 rfl rfl ?_
    refine z_getI S cf_8 h_x0 14 (by decide) rfl wd681 dX10_type_14 ?_
    refine z_sipush (v := 200) S dX10_type_17 (by decide) ?_
    refine z_icmp_ne (tgt := 26) S dX10_type_20 (by decide) hf (fun hf => ?_) (fun hf => ?_)
    · refine z_bipush (v := (-3 : Int32)) S dX10_type_23 (by decide) ?_
      exact z_iretI (v := (-3 : Int32)) S M rfl dX10_type_25 hf
    · refine z_aload_n S 0 dX10_type_26 rfl rfl ?_
      refine z_getR (K' := 9) (n' := 200) S cf_8 h_x0 13 (by decide) rfl rfl rfl wd680 dX10_type_27 (fun h2 => ?_)
      refine z_aload_n S 0 dX10_type_30 rfl rfl ?_
      refine z_getI S cf_8 h_x0 14 (by decide) rfl wd681 dX10_type_31 ?_
      refine z_iload_n S 1 dX10_type_34 rfl rfl ?_
      refine z_iast S h2 dX10_type_35 hf (fun hf => ?_)
      refine z_nmP hf (fun P3 hf => ?_)
      refine z_aload_n S 0 dX10_type_36 rfl rfl ?_
      refine z_dup S dX10_type_37 rfl ?_
      refine z_getI S cf_8 h_x0 14 (by decide) rfl wd681 dX10_type_38 ?_
      refine z_iconst (v := 1) S dX10_type_41 (by decide) ?_
      refine z_iadd S dX10_type_42 ?_
      refine z_putI S cf_8 h_x0 14 (by decide) rfl rfl rfl rfl wd681 dX10_type_43 ?_
      refine z_nmP hf (fun P4 hf => ?_)
      refine z_aload_n S 0 dX10_type_46 rfl rfl ?_
      refine z_getI S cf_8 h_x0 14 (by decide) rfl wd681 dX10_type_47 ?_
      exact z_iretI (v := (P4.1 x0 14)) S M rfl dX10_type_50 hf
theorem m_X10_type (l : Launch) (E : Ev) (P : PH) (x0 : Nat) (x1 : Int32) (h_x0 : ok x0 8 0) (r : (Int32 × PH)) (hf : f_X10_type P x0 x1 = some r) : CtI l E yX10_type cX10_type 2 (some .int) r_X10_type [.ref (ad E x0), .int x1] P r.1 r.2 :=
  z_body (own := RX10) (by decide +kernel) rfl (Nat.le_of_ble_eq_true rfl) rfl (fun x _ S M => w_X10_type S M P x0 x1 h_x0 r hf)
-- yX10_clear
theorem dX10_clear_0 : decode cX10_clear 0 = .ok (.aload_n 0, 1) := by decide +kernel
theorem dX10_clear_1 : decode cX10_clear 1 = .ok (.getfield 64, 3) := by decide +kernel
theorem dX10_clear_4 : decode cX10_clear 4 = .ok (.istore_n 1, 1) := by decide +kernel
theorem dX10_clear_5 : decode cX10_clear 5 = .ok (.aload_n 0, 1) := by decide +kernel
theorem dX10_clear_6 : decode cX10_clear 6 = .ok (.iconst 0, 1) := by decide +kernel
theorem dX10_clear_7 : decode cX10_clear 7 = .ok (.putfield 64, 3) := by decide +kernel
theorem dX10_clear_10 : decode cX10_clear 10 = .ok (.iload_n 1, 1) := by decide +kernel
theorem dX10_clear_11 : decode cX10_clear 11 = .ok (.ireturn, 1) := by decide +kernel
def r_X10_clear : Room := { frames := 0, cells := 0, slots := 0, locals := 0 }
def f_X10_clear (P : PH) (x0 : Nat) : Option (Int32 × PH) :=
  some ((P.1 x0 14), (sI P x0 14 (0 : Int32)))
theorem w_X10_clear {x : Fx} {E : Ev} (S : ZS x E r_X10_clear cX10_clear 2 RX10 (some .int)) (M : ZM x E) (P : PH) (x0 : Nat) (h_x0 : ok x0 8 0) (r : (Int32 × PH)) (hf : f_X10_clear P x0 = some r) : Wz x E 2 (QI E x r.1 r.2) P 0 [(0, .ref (ad E x0))] [] := by
  unfold f_X10_clear at hf
  refine z_aload_n S 0 dX10_clear_0 rfl rfl ?_
  refine z_getI S cf_8 h_x0 14 (by decide) rfl wd681 dX10_clear_1 ?_
  refine z_istore_n (lv' := [(1, .int (P.1 x0 14)), (0, .ref (ad E x0))]) S dX10_clear_4 rfl (by decide) rfl ?_
  refine z_aload_n S 1 dX10_clear_5 rfl rfl ?_
  refine z_iconst (v := 0) S dX10_clear_6 (by decide) ?_
  refine z_putI S cf_8 h_x0 14 (by decide) rfl rfl rfl rfl wd681 dX10_clear_7 ?_
  refine z_iload_n S 0 dX10_clear_10 rfl rfl ?_
  exact z_iretI (v := (P.1 x0 14)) S M rfl dX10_clear_11 hf
theorem m_X10_clear (l : Launch) (E : Ev) (P : PH) (x0 : Nat) (h_x0 : ok x0 8 0) (r : (Int32 × PH)) (hf : f_X10_clear P x0 = some r) : CtI l E yX10_clear cX10_clear 2 (some .int) r_X10_clear [.ref (ad E x0)] P r.1 r.2 :=
  z_body (own := RX10) (by decide +kernel) rfl (Nat.le_of_ble_eq_true rfl) rfl (fun x _ S M => w_X10_clear S M P x0 h_x0 r hf)
-- yX10_letterAt
theorem dX10_letterAt_0 : decode cX10_letterAt 0 = .ok (.iload_n 1, 1) := by decide +kernel
theorem dX10_letterAt_1 : decode cX10_letterAt 1 = .ok (.aload_n 0, 1) := by decide +kernel
theorem dX10_letterAt_2 : decode cX10_letterAt 2 = .ok (.getfield 64, 3) := by decide +kernel
theorem dX10_letterAt_5 : decode cX10_letterAt 5 = .ok (.if_icmp .ge 12, 3) := by decide +kernel
theorem dX10_letterAt_8 : decode cX10_letterAt 8 = .ok (.aload_n 0, 1) := by decide +kernel
theorem dX10_letterAt_9 : decode cX10_letterAt 9 = .ok (.getfield 35, 3) := by decide +kernel
theorem dX10_letterAt_12 : decode cX10_letterAt 12 = .ok (.iload_n 1, 1) := by decide +kernel
theorem dX10_letterAt_13 : decode cX10_letterAt 13 = .ok (.iaload, 1) := by decide +kernel
theorem dX10_letterAt_14 : decode cX10_letterAt 14 = .ok (.goto 4, 3) := by decide +kernel
theorem dX10_letterAt_17 : decode cX10_letterAt 17 = .ok (.iconst (-1), 1) := by decide +kernel
theorem dX10_letterAt_18 : decode cX10_letterAt 18 = .ok (.ireturn, 1) := by decide +kernel
def r_X10_letterAt : Room := { frames := 0, cells := 0, slots := 0, locals := 0 }
def f_X10_letterAt (P : PH) (x0 : Nat) (x1 : Int32) : Option Int32 :=
  (if (P.1 x0 14) ≤ x1 then some (-1 : Int32) else (if (x1 < 0 ∨ 200 ≤ x1.toNatClampNeg) then none else some (P.1 (P.2.2 x0 13) x1.toNatClampNeg)))
theorem w_X10_letterAt {x : Fx} {E : Ev} (S : ZS x E r_X10_letterAt cX10_letterAt 2 RX10 (some .int)) (M : ZM x E) (P : PH) (x0 : Nat) (x1 : Int32) (h_x0 : ok x0 8 0) (r : Int32) (hf : f_X10_letterAt P x0 x1 = some r) : Wz x E 2 (QI E x r P) P 0 [(0, .ref (ad E x0)), (1, .int x1)] [] := by
  unfold f_X10_letterAt at hf
  refine z_iload_n S 1 dX10_letterAt_0 rfl rfl ?_
  refine z_aload_n S 0 dX10_letterAt_1 rfl rfl ?_
  refine z_getI S cf_8 h_x0 14 (by decide) rfl wd681 dX10_letterAt_2 ?_
  refine z_icmp_ge (tgt := 17) S dX10_letterAt_5 (by decide) hf (fun hf => ?_) (fun hf => ?_)
  · refine z_iconst (v := (-1 : Int32)) S dX10_letterAt_17 (by decide) ?_
    exact z_iretP (v := (-1 : Int32)) S M rfl dX10_letterAt_18 hf
  · refine z_aload_n S 0 dX10_letterAt_8 rfl rfl ?_
    refine z_getR (K' := 9) (n' := 200) S cf_8 h_x0 13 (by decide) rfl rfl rfl wd680 dX10_letterAt_9 (fun h1 => ?_)
    refine z_iload_n S 1 dX10_letterAt_12 rfl rfl ?_
    refine z_iald S h1 dX10_letterAt_13 hf (fun hf => ?_)
    refine z_goto (tgt := 18) S dX10_letterAt_14 (by decide) ?_
    exact z_iretP (v := (P.1 (P.2.2 x0 13) x1.toNatClampNeg)) S M rfl dX10_letterAt_18 hf
theorem m_X10_letterAt (l : Launch) (E : Ev) (P : PH) (x0 : Nat) (x1 : Int32) (h_x0 : ok x0 8 0) (r : Int32) (hf : f_X10_letterAt P x0 x1 = some r) : CtI l E yX10_letterAt cX10_letterAt 2 (some .int) r_X10_letterAt [.ref (ad E x0), .int x1] P r P :=
  z_body (own := RX10) (by decide +kernel) rfl (Nat.le_of_ble_eq_true rfl) rfl (fun x _ S M => w_X10_letterAt S M P x0 x1 h_x0 r hf)
-- yX10_isFigure
theorem dX10_isFigure_0 : decode cX10_isFigure 0 = .ok (.iload_n 0, 1) := by decide +kernel
theorem dX10_isFigure_1 : decode cX10_isFigure 1 = .ok (.bipush 48, 2) := by decide +kernel
theorem dX10_isFigure_3 : decode cX10_isFigure 3 = .ok (.bipush 57, 2) := by decide +kernel
theorem dX10_isFigure_5 : decode cX10_isFigure 5 = .ok (.invokestatic 57, 3) := by decide +kernel
theorem dX10_isFigure_8 : decode cX10_isFigure 8 = .ok (.ireturn, 1) := by decide +kernel
def r_X10_isFigure : Room := { frames := 1, cells := 0, slots := 0, locals := 22 }
def f_X10_isFigure (P : PH) (x0 : Int32) : Option Bool :=
  ((f_X10_in P x0 (48 : Int32) (57 : Int32)).bind fun q1 => some q1)
theorem w_X10_isFigure {x : Fx} {E : Ev} (S : ZS x E r_X10_isFigure cX10_isFigure 1 RX10 (some .boolean)) (M : ZM x E) (P : PH) (x0 : Int32)  (r : Bool) (hf : f_X10_isFigure P x0 = some r) : Wz x E 1 (QI E x (b2i r) P) P 0 [(0, .int x0)] [] := by
  unfold f_X10_isFigure at hf
  refine z_iload_n S 0 dX10_isFigure_0 rfl rfl ?_
  refine z_bipush (v := 48) S dX10_isFigure_1 (by decide) ?_
  refine z_bipush (v := 57) S dX10_isFigure_3 (by decide) ?_
  refine z_callSI (rc := r_X10_in) [.int x0, .int (48 : Int32), .int (57 : Int32)] S mo_X10_in wd758 wd757 rfl rfl (by decide) (z_room0 S M (by rfl) (by rfl)) rfl (Nat.le_of_ble_eq_true rfl) rfl dX10_isFigure_5 (fun q => b2i q) (fun _ => P) (fun q hq => m_X10_in (xl x) E _ _ _ _  q hq) hf (fun q1 hf => ?_)
  exact z_zretP (v := q1) S M rfl dX10_isFigure_8 hf
theorem m_X10_isFigure (l : Launch) (E : Ev) (P : PH) (x0 : Int32)  (r : Bool) (hf : f_X10_isFigure P x0 = some r) : CtI l E yX10_isFigure cX10_isFigure 1 (some .boolean) r_X10_isFigure [.int x0] P (b2i r) P :=
  z_body (own := RX10) (by decide +kernel) rfl (Nat.le_of_ble_eq_true rfl) rfl (fun x _ S M => w_X10_isFigure S M P x0  r hf)
-- yX10_next
theorem dX10_next_0 : decode cX10_next 0 = .ok (.aload_n 0, 1) := by decide +kernel
theorem dX10_next_1 : decode cX10_next 1 = .ok (.aload_n 0, 1) := by decide +kernel
theorem dX10_next_2 : decode cX10_next 2 = .ok (.getfield 67, 3) := by decide +kernel
theorem dX10_next_5 : decode cX10_next 5 = .ok (.invokevirtual 70, 3) := by decide +kernel
theorem dX10_next_8 : decode cX10_next 8 = .ok (.bipush 32, 2) := by decide +kernel
theorem dX10_next_10 : decode cX10_next 10 = .ok (.if_icmp .ne 16, 3) := by decide +kernel
theorem dX10_next_13 : decode cX10_next 13 = .ok (.aload_n 0, 1) := by decide +kernel
theorem dX10_next_14 : decode cX10_next 14 = .ok (.dup, 1) := by decide +kernel
theorem dX10_next_15 : decode cX10_next 15 = .ok (.getfield 67, 3) := by decide +kernel
theorem dX10_next_18 : decode cX10_next 18 = .ok (.iconst 1, 1) := by decide +kernel
theorem dX10_next_19 : decode cX10_next 19 = .ok (.iadd, 1) := by decide +kernel
theorem dX10_next_20 : decode cX10_next 20 = .ok (.putfield 67, 3) := by decide +kernel
theorem dX10_next_23 : decode cX10_next 23 = .ok (.goto (-23), 3) := by decide +kernel
theorem dX10_next_26 : decode cX10_next 26 = .ok (.aload_n 0, 1) := by decide +kernel
theorem dX10_next_27 : decode cX10_next 27 = .ok (.aload_n 0, 1) := by decide +kernel
theorem dX10_next_28 : decode cX10_next 28 = .ok (.getfield 67, 3) := by decide +kernel
theorem dX10_next_31 : decode cX10_next 31 = .ok (.putfield 74, 3) := by decide +kernel
theorem dX10_next_34 : decode cX10_next 34 = .ok (.aload_n 0, 1) := by decide +kernel
theorem dX10_next_35 : decode cX10_next 35 = .ok (.aload_n 0, 1) := by decide +kernel
theorem dX10_next_36 : decode cX10_next 36 = .ok (.getfield 67, 3) := by decide +kernel
theorem dX10_next_39 : decode cX10_next 39 = .ok (.invokevirtual 70, 3) := by decide +kernel
theorem dX10_next_42 : decode cX10_next 42 = .ok (.istore_n 1, 1) := by decide +kernel
theorem dX10_next_43 : decode cX10_next 43 = .ok (.aload_n 0, 1) := by decide +kernel
theorem dX10_next_44 : decode cX10_next 44 = .ok (.iconst 0, 1) := by decide +kernel
theorem dX10_next_45 : decode cX10_next 45 = .ok (.putfield 77, 3) := by decide +kernel
theorem dX10_next_48 : decode cX10_next 48 = .ok (.iload_n 1, 1) := by decide +kernel
theorem dX10_next_49 : decode cX10_next 49 = .ok (.ifCond .ge 11, 3) := by decide +kernel
theorem dX10_next_52 : decode cX10_next 52 = .ok (.aload_n 0, 1) := by decide +kernel
theorem dX10_next_53 : decode cX10_next 53 = .ok (.iconst 0, 1) := by decide +kernel
theorem dX10_next_54 : decode cX10_next 54 = .ok (.putfield 80, 3) := by decide +kernel
theorem dX10_next_57 : decode cX10_next 57 = .ok (.goto 196, 3) := by decide +kernel
theorem dX10_next_60 : decode cX10_next 60 = .ok (.iload_n 1, 1) := by decide +kernel
theorem dX10_next_61 : decode cX10_next 61 = .ok (.invokestatic 83, 3) := by decide +kernel
theorem dX10_next_64 : decode cX10_next 64 = .ok (.ifCond .eq 109, 3) := by decide +kernel
theorem dX10_next_67 : decode cX10_next 67 = .ok (.aload_n 0, 1) := by decide +kernel
theorem dX10_next_68 : decode cX10_next 68 = .ok (.aload_n 0, 1) := by decide +kernel
theorem dX10_next_69 : decode cX10_next 69 = .ok (.getfield 67, 3) := by decide +kernel
theorem dX10_next_72 : decode cX10_next 72 = .ok (.invokevirtual 70, 3) := by decide +kernel
theorem dX10_next_75 : decode cX10_next 75 = .ok (.invokestatic 83, 3) := by decide +kernel
theorem dX10_next_78 : decode cX10_next 78 = .ok (.ifCond .eq 55, 3) := by decide +kernel
theorem dX10_next_81 : decode cX10_next 81 = .ok (.aload_n 0, 1) := by decide +kernel
theorem dX10_next_82 : decode cX10_next 82 = .ok (.aload_n 0, 1) := by decide +kernel
theorem dX10_next_83 : decode cX10_next 83 = .ok (.getfield 77, 3) := by decide +kernel
theorem dX10_next_86 : decode cX10_next 86 = .ok (.bipush 99, 2) := by decide +kernel
theorem dX10_next_88 : decode cX10_next 88 = .ok (.if_icmp .le 10, 3) := by decide +kernel
theorem dX10_next_91 : decode cX10_next 91 = .ok (.aload_n 0, 1) := by decide +kernel
theorem dX10_next_92 : decode cX10_next 92 = .ok (.getfield 77, 3) := by decide +kernel
theorem dX10_next_95 : decode cX10_next 95 = .ok (.goto 22, 3) := by decide +kernel
theorem dX10_next_98 : decode cX10_next 98 = .ok (.bipush 10, 2) := by decide +kernel
theorem dX10_next_100 : decode cX10_next 100 = .ok (.aload_n 0, 1) := by decide +kernel
theorem dX10_next_101 : decode cX10_next 101 = .ok (.getfield 77, 3) := by decide +kernel
theorem dX10_next_104 : decode cX10_next 104 = .ok (.imul, 1) := by decide +kernel
theorem dX10_next_105 : decode cX10_next 105 = .ok (.aload_n 0, 1) := by decide +kernel
theorem dX10_next_106 : decode cX10_next 106 = .ok (.aload_n 0, 1) := by decide +kernel
theorem dX10_next_107 : decode cX10_next 107 = .ok (.getfield 67, 3) := by decide +kernel
theorem dX10_next_110 : decode cX10_next 110 = .ok (.invokevirtual 70, 3) := by decide +kernel
theorem dX10_next_113 : decode cX10_next 113 = .ok (.iadd, 1) := by decide +kernel
theorem dX10_next_114 : decode cX10_next 114 = .ok (.bipush 48, 2) := by decide +kernel
theorem dX10_next_116 : decode cX10_next 116 = .ok (.isub, 1) := by decide +kernel
theorem dX10_next_117 : decode cX10_next 117 = .ok (.putfield 77, 3) := by decide +kernel
theorem dX10_next_120 : decode cX10_next 120 = .ok (.aload_n 0, 1) := by decide +kernel
theorem dX10_next_121 : decode cX10_next 121 = .ok (.dup, 1) := by decide +kernel
theorem dX10_next_122 : decode cX10_next 122 = .ok (.getfield 67, 3) := by decide +kernel
theorem dX10_next_125 : decode cX10_next 125 = .ok (.iconst 1, 1) := by decide +kernel
theorem dX10_next_126 : decode cX10_next 126 = .ok (.iadd, 1) := by decide +kernel
theorem dX10_next_127 : decode cX10_next 127 = .ok (.putfield 67, 3) := by decide +kernel
theorem dX10_next_130 : decode cX10_next 130 = .ok (.goto (-63), 3) := by decide +kernel
theorem dX10_next_133 : decode cX10_next 133 = .ok (.aload_n 0, 1) := by decide +kernel
theorem dX10_next_134 : decode cX10_next 134 = .ok (.aload_n 0, 1) := by decide +kernel
theorem dX10_next_135 : decode cX10_next 135 = .ok (.getfield 77, 3) := by decide +kernel
theorem dX10_next_138 : decode cX10_next 138 = .ok (.bipush 99, 2) := by decide +kernel
theorem dX10_next_140 : decode cX10_next 140 = .ok (.if_icmp .gt 22, 3) := by decide +kernel
theorem dX10_next_143 : decode cX10_next 143 = .ok (.iload_n 1, 1) := by decide +kernel
theorem dX10_next_144 : decode cX10_next 144 = .ok (.bipush 48, 2) := by decide +kernel
theorem dX10_next_146 : decode cX10_next 146 = .ok (.if_icmp .ne 20, 3) := by decide +kernel
theorem dX10_next_149 : decode cX10_next 149 = .ok (.aload_n 0, 1) := by decide +kernel
theorem dX10_next_150 : decode cX10_next 150 = .ok (.getfield 67, 3) := by decide +kernel
theorem dX10_next_153 : decode cX10_next 153 = .ok (.aload_n 0, 1) := by decide +kernel
theorem dX10_next_154 : decode cX10_next 154 = .ok (.getfield 74, 3) := by decide +kernel
theorem dX10_next_157 : decode cX10_next 157 = .ok (.isub, 1) := by decide +kernel
theorem dX10_next_158 : decode cX10_next 158 = .ok (.iconst 1, 1) := by decide +kernel
theorem dX10_next_159 : decode cX10_next 159 = .ok (.if_icmp .le 7, 3) := by decide +kernel
theorem dX10_next_162 : decode cX10_next 162 = .ok (.iconst 4, 1) := by decide +kernel
theorem dX10_next_163 : decode cX10_next 163 = .ok (.goto 4, 3) := by decide +kernel
theorem dX10_next_166 : decode cX10_next 166 = .ok (.iconst 2, 1) := by decide +kernel
theorem dX10_next_167 : decode cX10_next 167 = .ok (.putfield 80, 3) := by decide +kernel
theorem dX10_next_170 : decode cX10_next 170 = .ok (.goto 83, 3) := by decide +kernel
theorem dX10_next_173 : decode cX10_next 173 = .ok (.iload_n 1, 1) := by decide +kernel
theorem dX10_next_174 : decode cX10_next 174 = .ok (.bipush 112, 2) := by decide +kernel
theorem dX10_next_176 : decode cX10_next 176 = .ok (.if_icmp .eq 33, 3) := by decide +kernel
theorem dX10_next_179 : decode cX10_next 179 = .ok (.iload_n 1, 1) := by decide +kernel
theorem dX10_next_180 : decode cX10_next 180 = .ok (.bipush 114, 2) := by decide +kernel
theorem dX10_next_182 : decode cX10_next 182 = .ok (.if_icmp .eq 27, 3) := by decide +kernel
theorem dX10_next_185 : decode cX10_next 185 = .ok (.iload_n 1, 1) := by decide +kernel
theorem dX10_next_186 : decode cX10_next 186 = .ok (.bipush 100, 2) := by decide +kernel
theorem dX10_next_188 : decode cX10_next 188 = .ok (.if_icmp .eq 21, 3) := by decide +kernel
theorem dX10_next_191 : decode cX10_next 191 = .ok (.iload_n 1, 1) := by decide +kernel
theorem dX10_next_192 : decode cX10_next 192 = .ok (.bipush 98, 2) := by decide +kernel
theorem dX10_next_194 : decode cX10_next 194 = .ok (.if_icmp .eq 15, 3) := by decide +kernel
theorem dX10_next_197 : decode cX10_next 197 = .ok (.iload_n 1, 1) := by decide +kernel
theorem dX10_next_198 : decode cX10_next 198 = .ok (.bipush 119, 2) := by decide +kernel
theorem dX10_next_200 : decode cX10_next 200 = .ok (.if_icmp .eq 9, 3) := by decide +kernel
theorem dX10_next_203 : decode cX10_next 203 = .ok (.iload_n 1, 1) := by decide +kernel
theorem dX10_next_204 : decode cX10_next 204 = .ok (.bipush 120, 2) := by decide +kernel
theorem dX10_next_206 : decode cX10_next 206 = .ok (.if_icmp .ne 7, 3) := by decide +kernel
theorem dX10_next_209 : decode cX10_next 209 = .ok (.iconst 1, 1) := by decide +kernel
theorem dX10_next_210 : decode cX10_next 210 = .ok (.goto 4, 3) := by decide +kernel
theorem dX10_next_213 : decode cX10_next 213 = .ok (.iconst 0, 1) := by decide +kernel
theorem dX10_next_214 : decode cX10_next 214 = .ok (.istore_n 2, 1) := by decide +kernel
theorem dX10_next_215 : decode cX10_next 215 = .ok (.aload_n 0, 1) := by decide +kernel
theorem dX10_next_216 : decode cX10_next 216 = .ok (.iload_n 2, 1) := by decide +kernel
theorem dX10_next_217 : decode cX10_next 217 = .ok (.ifCond .eq 7, 3) := by decide +kernel
theorem dX10_next_220 : decode cX10_next 220 = .ok (.iconst 1, 1) := by decide +kernel
theorem dX10_next_221 : decode cX10_next 221 = .ok (.goto 14, 3) := by decide +kernel
theorem dX10_next_224 : decode cX10_next 224 = .ok (.iload_n 1, 1) := by decide +kernel
theorem dX10_next_225 : decode cX10_next 225 = .ok (.bipush 59, 2) := by decide +kernel
theorem dX10_next_227 : decode cX10_next 227 = .ok (.if_icmp .ne 7, 3) := by decide +kernel
theorem dX10_next_230 : decode cX10_next 230 = .ok (.iconst 3, 1) := by decide +kernel
theorem dX10_next_231 : decode cX10_next 231 = .ok (.goto 4, 3) := by decide +kernel
theorem dX10_next_234 : decode cX10_next 234 = .ok (.iconst 4, 1) := by decide +kernel
theorem dX10_next_235 : decode cX10_next 235 = .ok (.putfield 80, 3) := by decide +kernel
theorem dX10_next_238 : decode cX10_next 238 = .ok (.aload_n 0, 1) := by decide +kernel
theorem dX10_next_239 : decode cX10_next 239 = .ok (.iload_n 1, 1) := by decide +kernel
theorem dX10_next_240 : decode cX10_next 240 = .ok (.putfield 77, 3) := by decide +kernel
theorem dX10_next_243 : decode cX10_next 243 = .ok (.aload_n 0, 1) := by decide +kernel
theorem dX10_next_244 : decode cX10_next 244 = .ok (.dup, 1) := by decide +kernel
theorem dX10_next_245 : decode cX10_next 245 = .ok (.getfield 67, 3) := by decide +kernel
theorem dX10_next_248 : decode cX10_next 248 = .ok (.iconst 1, 1) := by decide +kernel
theorem dX10_next_249 : decode cX10_next 249 = .ok (.iadd, 1) := by decide +kernel
theorem dX10_next_250 : decode cX10_next 250 = .ok (.putfield 67, 3) := by decide +kernel
theorem dX10_next_253 : decode cX10_next 253 = .ok (.return_, 1) := by decide +kernel
def r_X10_next : Room := { frames := 2, cells := 0, slots := 0, locals := 42 }
def f_X10_next_J214 (P : PH) (x0 : Nat) (x1 : Int32) (s0 : Bool) : Option PH :=
  (if (b2i s0) = 0 then (if x1 = (59 : Int32) then ((some (sI (sI (sI P x0 17 (3 : Int32)) x0 18 x1) x0 15 (((sI (sI P x0 17 (3 : Int32)) x0 18 x1).1 x0 15) + (1 : Int32)))).bind fun P1 => some P1) else ((some (sI (sI (sI P x0 17 (4 : Int32)) x0 18 x1) x0 15 (((sI (sI P x0 17 (4 : Int32)) x0 18 x1).1 x0 15) + (1 : Int32)))).bind fun P2 => some P2)) else ((some (sI (sI (sI P x0 17 (1 : Int32)) x0 18 x1) x0 15 (((sI (sI P x0 17 (1 : Int32)) x0 18 x1).1 x0 15) + (1 : Int32)))).bind fun P3 => some P3))
theorem w_X10_next_J214 {x : Fx} {E : Ev} (S : ZS x E r_X10_next cX10_next 3 RX10 none) (M : ZM x E) (P : PH) (x0 : Nat) (x1 : Int32) (s0 : Bool) (h_x0 : ok x0 8 0) (r : PH) (hf : f_X10_next_J214 P x0 x1 s0 = some r) : Wz x E 3 (QV E x r) P 214 [(0, .ref (ad E x0)), (1, .int x1)] [.int (b2i s0)] := by
  unfold f_X10_next_J214 at hf
  refine z_istore_n (lv' := [(2, .int (b2i s0)), (0, .ref (ad E x0)), (1, .int x1)]) S dX10_next_214 rfl (by decide) rfl ?_
  refine z_aload_n S 1 dX10_next_215 rfl rfl ?_
  refine z_iload_n S 0 dX10_next_216 rfl rfl ?_
  refine z_if_eq (tgt := 224) S dX10_next_217 (by decide) hf (fun hf => ?_) (fun hf => ?_)
  · refine z_iload_n S 2 dX10_next_224 rfl rfl ?_
    refine z_bipush (v := 59) S dX10_next_225 (by decide) ?_
    refine z_icmp_ne (tgt := 234) S dX10_next_227 (by decide) hf (fun hf => ?_) (fun hf => ?_)
    · refine z_iconst (v := 3) S dX10_next_230 (by decide) ?_
      refine z_goto (tgt := 235) S dX10_next_231 (by decide) ?_
      refine z_putI S cf_8 h_x0 17 (by decide) rfl rfl rfl rfl wd684 dX10_next_235 ?_
      refine z_aload_n S 1 dX10_next_238 rfl rfl ?_
      refine z_iload_n S 2 dX10_next_239 rfl rfl ?_
      refine z_putI S cf_8 h_x0 18 (by decide) rfl rfl rfl rfl wd685 dX10_next_240 ?_
      refine z_aload_n S 1 dX10_next_243 rfl rfl ?_
      refine z_dup S dX10_next_244 rfl ?_
      refine z_getI S cf_8 h_x0 15 (by decide) rfl wd682 dX10_next_245 ?_
      refine z_iconst (v := 1) S dX10_next_248 (by decide) ?_
      refine z_iadd S dX10_next_249 ?_
      refine z_putI S cf_8 h_x0 15 (by decide) rfl rfl rfl rfl wd682 dX10_next_250 ?_
      refine z_nmP hf (fun P1 hf => ?_)
      exact z_vretI S M rfl dX10_next_253 hf
    · refine z_iconst (v := 4) S dX10_next_234 (by decide) ?_
      refine z_putI S cf_8 h_x0 17 (by decide) rfl rfl rfl rfl wd684 dX10_next_235 ?_
      refine z_aload_n S 1 dX10_next_238 rfl rfl ?_
      refine z_iload_n S 2 dX10_next_239 rfl rfl ?_
      refine z_putI S cf_8 h_x0 18 (by decide) rfl rfl rfl rfl wd685 dX10_next_240 ?_
      refine z_aload_n S 1 dX10_next_243 rfl rfl ?_
      refine z_dup S dX10_next_244 rfl ?_
      refine z_getI S cf_8 h_x0 15 (by decide) rfl wd682 dX10_next_245 ?_
      refine z_iconst (v := 1) S dX10_next_248 (by decide) ?_
      refine z_iadd S dX10_next_249 ?_
      refine z_putI S cf_8 h_x0 15 (by decide) rfl rfl rfl rfl wd682 dX10_next_250 ?_
      refine z_nmP hf (fun P2 hf => ?_)
      exact z_vretI S M rfl dX10_next_253 hf
  · refine z_iconst (v := 1) S dX10_next_220 (by decide) ?_
    refine z_goto (tgt := 235) S dX10_next_221 (by decide) ?_
    refine z_putI S cf_8 h_x0 17 (by decide) rfl rfl rfl rfl wd684 dX10_next_235 ?_
    refine z_aload_n S 1 dX10_next_238 rfl rfl ?_
    refine z_iload_n S 2 dX10_next_239 rfl rfl ?_
    refine z_putI S cf_8 h_x0 18 (by decide) rfl rfl rfl rfl wd685 dX10_next_240 ?_
    refine z_aload_n S 1 dX10_next_243 rfl rfl ?_
    refine z_dup S dX10_next_244 rfl ?_
    refine z_getI S cf_8 h_x0 15 (by decide) rfl wd682 dX10_next_245 ?_
    refine z_iconst (v := 1) S dX10_next_248 (by decide) ?_
    refine z_iadd S dX10_next_249 ?_
    refine z_putI S cf_8 h_x0 15 (by decide) rfl rfl rfl rfl wd682 dX10_next_250 ?_
    refine z_nmP hf (fun P3 hf => ?_)
    exact z_vretI S M rfl dX10_next_253 hf
def f_X10_next_J209 (P : PH) (x0 : Nat) (x1 : Int32) : Option PH :=
  f_X10_next_J214 P x0 x1 true
theorem w_X10_next_J209 {x : Fx} {E : Ev} (S : ZS x E r_X10_next cX10_next 3 RX10 none) (M : ZM x E) (P : PH) (x0 : Nat) (x1 : Int32) (h_x0 : ok x0 8 0) (r : PH) (hf : f_X10_next_J209 P x0 x1 = some r) : Wz x E 3 (QV E x r) P 209 [(0, .ref (ad E x0)), (1, .int x1)] [] := by
  unfold f_X10_next_J209 at hf
  refine z_iconst (v := 1) S dX10_next_209 (by decide) ?_
  refine z_goto (tgt := 214) S dX10_next_210 (by decide) ?_
  exact w_X10_next_J214 S M P x0 x1 true h_x0 r hf
def f_X10_next_L67 (K : PH → Option PH) (x0 : Nat) (x1 : Int32) : Nat → PH → Option PH
  | 0, _ => none
  | n + 1, P =>
    ((f_X10_letterAt P x0 (P.1 x0 15)).bind fun q4 => ((f_X10_isFigure P q4).bind fun q5 => (if (b2i q5) = 0 then K P else (if (P.1 x0 18) ≤ (99 : Int32) then ((f_X10_letterAt P x0 (P.1 x0 15)).bind fun q6 => ((some (sI P x0 18 ((((10 : Int32) * (P.1 x0 18)) + q6) - (48 : Int32)))).bind fun P7 => ((some (sI P7 x0 15 ((P7.1 x0 15) + (1 : Int32)))).bind fun P8 => f_X10_next_L67 K x0 x1 n P8))) else ((some (sI (sI P x0 18 (P.1 x0 18)) x0 15 (((sI P x0 18 (P.1 x0 18)).1 x0 15) + (1 : Int32)))).bind fun P9 => f_X10_next_L67 K x0 x1 n P9)))))
theorem w_X10_next_L67 {x : Fx} {E : Ev} (S : ZS x E r_X10_next cX10_next 3 RX10 none) (M : ZM x E) {K : PH → Option PH} (x0 : Nat) (x1 : Int32) (h_x0 : ok x0 8 0) (r : PH) (hK : ∀ (P1 : PH) , K P1 = some r → Wz x E 3 (QV E x r) P1 133 [(0, .ref (ad E x0)), (1, .int x1)] []) : ∀ (n : Nat) (P : PH), f_X10_next_L67 K x0 x1 n P = some r → Wz x E 3 (QV E x r) P 67 [(0, .ref (ad E x0)), (1, .int x1)] [] := by
  intro n
  induction n with
  | zero => intro P hf; cases hf
  | succ n ih =>
    intro P hf
    unfold f_X10_next_L67 at hf
    refine z_aload_n S 0 dX10_next_67 rfl rfl ?_
    refine z_aload_n S 0 dX10_next_68 rfl rfl ?_
    refine z_getI S cf_8 h_x0 15 (by decide) rfl wd682 dX10_next_69 ?_
    refine z_callVI (rc := r_X10_letterAt) [.int (P.1 x0 15)] S mo_X10_letterAt wd774 wd9 wd772 h_x0 (by decide) cl_8 rfl rfl (by decide) (z_room0 S M (by rfl) (by rfl)) rfl (Nat.le_of_ble_eq_true rfl) rfl dX10_next_72 (fun q => q) (fun _ => P) (fun q hq => m_X10_letterAt (xl x) E _ _ _ h_x0 q hq) hf (fun q4 hf => ?_)
    refine z_callSI (rc := r_X10_isFigure) [.int q4] S mo_X10_isFigure wd777 wd776 rfl rfl (by decide) (z_room0 S M (by rfl) (by rfl)) rfl (Nat.le_of_ble_eq_true rfl) rfl dX10_next_75 (fun q => b2i q) (fun _ => P) (fun q hq => m_X10_isFigure (xl x) E _ _  q hq) hf (fun q5 hf => ?_)
    refine z_if_eq (tgt := 133) S dX10_next_78 (by decide) hf (fun hf => ?_) (fun hf => ?_)
    · exact hK P hf
    · refine z_aload_n S 0 dX10_next_81 rfl rfl ?_
      refine z_aload_n S 0 dX10_next_82 rfl rfl ?_
      refine z_getI S cf_8 h_x0 18 (by decide) rfl wd685 dX10_next_83 ?_
      refine z_bipush (v := 99) S dX10_next_86 (by decide) ?_
      refine z_icmp_le (tgt := 98) S dX10_next_88 (by decide) hf (fun hf => ?_) (fun hf => ?_)
      · refine z_bipush (v := 10) S dX10_next_98 (by decide) ?_
        refine z_aload_n S 0 dX10_next_100 rfl rfl ?_
        refine z_getI S cf_8 h_x0 18 (by decide) rfl wd685 dX10_next_101 ?_
        refine z_imul S dX10_next_104 ?_
        refine z_aload_n S 0 dX10_next_105 rfl rfl ?_
        refine z_aload_n S 0 dX10_next_106 rfl rfl ?_
        refine z_getI S cf_8 h_x0 15 (by decide) rfl wd682 dX10_next_107 ?_
        refine z_callVI (rc := r_X10_letterAt) [.int (P.1 x0 15)] S mo_X10_letterAt wd774 wd9 wd772 h_x0 (by decide) cl_8 rfl rfl (by decide) (z_room0 S M (by rfl) (by rfl)) rfl (Nat.le_of_ble_eq_true rfl) rfl dX10_next_110 (fun q => q) (fun _ => P) (fun q hq => m_X10_letterAt (xl x) E _ _ _ h_x0 q hq) hf (fun q6 hf => ?_)
        refine z_iadd S dX10_next_113 ?_
        refine z_bipush (v := 48) S dX10_next_114 (by decide) ?_
        refine z_isub S dX10_next_116 ?_
        refine z_putI S cf_8 h_x0 18 (by decide) rfl rfl rfl rfl wd685 dX10_next_117 ?_
        refine z_nmP hf (fun P7 hf => ?_)
        refine z_aload_n S 0 dX10_next_120 rfl rfl ?_
        refine z_dup S dX10_next_121 rfl ?_
        refine z_getI S cf_8 h_x0 15 (by decide) rfl wd682 dX10_next_122 ?_
        refine z_iconst (v := 1) S dX10_next_125 (by decide) ?_
        refine z_iadd S dX10_next_126 ?_
        refine z_putI S cf_8 h_x0 15 (by decide) rfl rfl rfl rfl wd682 dX10_next_127 ?_
        refine z_nmP hf (fun P8 hf => ?_)
        refine z_goto (tgt := 67) S dX10_next_130 (by decide) ?_
        exact ih P8 hf
      · refine z_aload_n S 0 dX10_next_91 rfl rfl ?_
        refine z_getI S cf_8 h_x0 18 (by decide) rfl wd685 dX10_next_92 ?_
        refine z_goto (tgt := 117) S dX10_next_95 (by decide) ?_
        refine z_putI S cf_8 h_x0 18 (by decide) rfl rfl rfl rfl wd685 dX10_next_117 ?_
        refine z_aload_n S 0 dX10_next_120 rfl rfl ?_
        refine z_dup S dX10_next_121 rfl ?_
        refine z_getI S cf_8 h_x0 15 (by decide) rfl wd682 dX10_next_122 ?_
        refine z_iconst (v := 1) S dX10_next_125 (by decide) ?_
        refine z_iadd S dX10_next_126 ?_
        refine z_putI S cf_8 h_x0 15 (by decide) rfl rfl rfl rfl wd682 dX10_next_127 ?_
        refine z_nmP hf (fun P9 hf => ?_)
        refine z_goto (tgt := 67) S dX10_next_130 (by decide) ?_
        exact ih P9 hf
def f_X10_next_L0 (K : PH → Option PH) (x0 : Nat) : Nat → PH → Option PH
  | 0, _ => none
  | n + 1, P =>
    ((f_X10_letterAt P x0 (P.1 x0 15)).bind fun q10 => (if q10 = (32 : Int32) then f_X10_next_L0 K x0 n (sI P x0 15 ((P.1 x0 15) + (1 : Int32))) else K P))
theorem w_X10_next_L0 {x : Fx} {E : Ev} (S : ZS x E r_X10_next cX10_next 3 RX10 none) (M : ZM x E) {K : PH → Option PH} (x0 : Nat) (h_x0 : ok x0 8 0) (r : PH) (hK : ∀ (P1 : PH) , K P1 = some r → Wz x E 3 (QV E x r) P1 26 [(0, .ref (ad E x0))] []) : ∀ (n : Nat) (P : PH), f_X10_next_L0 K x0 n P = some r → Wz x E 3 (QV E x r) P 0 [(0, .ref (ad E x0))] [] := by
  intro n
  induction n with
  | zero => intro P hf; cases hf
  | succ n ih =>
    intro P hf
    unfold f_X10_next_L0 at hf
    refine z_aload_n S 0 dX10_next_0 rfl rfl ?_
    refine z_aload_n S 0 dX10_next_1 rfl rfl ?_
    refine z_getI S cf_8 h_x0 15 (by decide) rfl wd682 dX10_next_2 ?_
    refine z_callVI (rc := r_X10_letterAt) [.int (P.1 x0 15)] S mo_X10_letterAt wd774 wd9 wd772 h_x0 (by decide) cl_8 rfl rfl (by decide) (z_room0 S M (by rfl) (by rfl)) rfl (Nat.le_of_ble_eq_true rfl) rfl dX10_next_5 (fun q => q) (fun _ => P) (fun q hq => m_X10_letterAt (xl x) E _ _ _ h_x0 q hq) hf (fun q10 hf => ?_)
    refine z_bipush (v := 32) S dX10_next_8 (by decide) ?_
    refine z_icmp_ne (tgt := 26) S dX10_next_10 (by decide) hf (fun hf => ?_) (fun hf => ?_)
    · refine z_aload_n S 0 dX10_next_13 rfl rfl ?_
      refine z_dup S dX10_next_14 rfl ?_
      refine z_getI S cf_8 h_x0 15 (by decide) rfl wd682 dX10_next_15 ?_
      refine z_iconst (v := 1) S dX10_next_18 (by decide) ?_
      refine z_iadd S dX10_next_19 ?_
      refine z_putI S cf_8 h_x0 15 (by decide) rfl rfl rfl rfl wd682 dX10_next_20 ?_
      refine z_goto (tgt := 0) S dX10_next_23 (by decide) ?_
      exact ih (sI P x0 15 ((P.1 x0 15) + (1 : Int32))) hf
    · exact hK P hf
def f_X10_next (P : PH) (x0 : Nat) : Option PH :=
  f_X10_next_L0 (fun P11 => ((f_X10_letterAt (sI P11 x0 16 (P11.1 x0 15)) x0 ((sI P11 x0 16 (P11.1 x0 15)).1 x0 15)).bind fun q12 => ((some (sI (sI P11 x0 16 (P11.1 x0 15)) x0 18 (0 : Int32))).bind fun P13 => (if 0 ≤ q12 then ((f_X10_isFigure P13 q12).bind fun q14 => (if (b2i q14) = 0 then (if q12 = (112 : Int32) then f_X10_next_J209 P13 x0 q12 else (if q12 = (114 : Int32) then f_X10_next_J209 P13 x0 q12 else (if q12 = (100 : Int32) then f_X10_next_J209 P13 x0 q12 else (if q12 = (98 : Int32) then f_X10_next_J209 P13 x0 q12 else (if q12 = (119 : Int32) then f_X10_next_J209 P13 x0 q12 else (if q12 = (120 : Int32) then f_X10_next_J209 P13 x0 q12 else f_X10_next_J214 P13 x0 q12 false)))))) else f_X10_next_L67 (fun P15 => (if (99 : Int32) < (P15.1 x0 18) then some (sI P15 x0 17 (4 : Int32)) else (if q12 = (48 : Int32) then (if ((P15.1 x0 15) - (P15.1 x0 16)) ≤ (1 : Int32) then some (sI P15 x0 17 (2 : Int32)) else some (sI P15 x0 17 (4 : Int32))) else some (sI P15 x0 17 (2 : Int32))))) x0 q12 1000 P13)) else some (sI P13 x0 17 (0 : Int32)))))) x0 1000 P
theorem w_X10_next {x : Fx} {E : Ev} (S : ZS x E r_X10_next cX10_next 3 RX10 none) (M : ZM x E) (P : PH) (x0 : Nat) (h_x0 : ok x0 8 0) (r : PH) (hf : f_X10_next P x0 = some r) : Wz x E 3 (QV E x r) P 0 [(0, .ref (ad E x0))] [] := by
  unfold f_X10_next at hf
  refine w_X10_next_L0 S M x0 h_x0 r (fun P11 hf => ?_) 1000 P hf
  refine z_aload_n S 0 dX10_next_26 rfl rfl ?_
  refine z_aload_n S 0 dX10_next_27 rfl rfl ?_
  refine z_getI S cf_8 h_x0 15 (by decide) rfl wd682 dX10_next_28 ?_
  refine z_putI S cf_8 h_x0 16 (by decide) rfl rfl rfl rfl wd683 dX10_next_31 ?_
  refine z_aload_n S 0 dX10_next_34 rfl rfl ?_
  refine z_aload_n S 0 dX10_next_35 rfl rfl ?_
  refine z_getI S cf_8 h_x0 15 (by decide) rfl wd682 dX10_next_36 ?_
  refine z_callVI (rc := r_X10_letterAt) [.int ((sI P11 x0 16 (P11.1 x0 15)).1 x0 15)] S mo_X10_letterAt wd774 wd9 wd772 h_x0 (by decide) cl_8 rfl rfl (by decide) (z_room0 S M (by rfl) (by rfl)) rfl (Nat.le_of_ble_eq_true rfl) rfl dX10_next_39 (fun q => q) (fun _ => (sI P11 x0 16 (P11.1 x0 15))) (fun q hq => m_X10_letterAt (xl x) E _ _ _ h_x0 q hq) hf (fun q12 hf => ?_)
  refine z_istore_n (lv' := [(1, .int q12), (0, .ref (ad E x0))]) S dX10_next_42 rfl (by decide) rfl ?_
  refine z_aload_n S 1 dX10_next_43 rfl rfl ?_
  refine z_iconst (v := 0) S dX10_next_44 (by decide) ?_
  refine z_putI S cf_8 h_x0 18 (by decide) rfl rfl rfl rfl wd685 dX10_next_45 ?_
  refine z_nmP hf (fun P13 hf => ?_)
  refine z_iload_n S 0 dX10_next_48 rfl rfl ?_
  refine z_if_ge (tgt := 60) S dX10_next_49 (by decide) hf (fun hf => ?_) (fun hf => ?_)
  · refine z_iload_n S 0 dX10_next_60 rfl rfl ?_
    refine z_callSI (rc := r_X10_isFigure) [.int q12] S mo_X10_isFigure wd777 wd776 rfl rfl (by decide) (z_room0 S M (by rfl) (by rfl)) rfl (Nat.le_of_ble_eq_true rfl) rfl dX10_next_61 (fun q => b2i q) (fun _ => P13) (fun q hq => m_X10_isFigure (xl x) E _ _  q hq) hf (fun q14 hf => ?_)
    refine z_if_eq (tgt := 173) S dX10_next_64 (by decide) hf (fun hf => ?_) (fun hf => ?_)
    · refine z_iload_n S 0 dX10_next_173 rfl rfl ?_
      refine z_bipush (v := 112) S dX10_next_174 (by decide) ?_
      refine z_icmp_eq (tgt := 209) S dX10_next_176 (by decide) hf (fun hf => ?_) (fun hf => ?_)
      · refine z_sub [1, 0] rfl ?_
        exact w_X10_next_J209 S M P13 x0 q12 h_x0 r hf
      · refine z_iload_n S 0 dX10_next_179 rfl rfl ?_
        refine z_bipush (v := 114) S dX10_next_180 (by decide) ?_
        refine z_icmp_eq (tgt := 209) S dX10_next_182 (by decide) hf (fun hf => ?_) (fun hf => ?_)
        · refine z_sub [1, 0] rfl ?_
          exact w_X10_next_J209 S M P13 x0 q12 h_x0 r hf
        · refine z_iload_n S 0 dX10_next_185 rfl rfl ?_
          refine z_bipush (v := 100) S dX10_next_186 (by decide) ?_
          refine z_icmp_eq (tgt := 209) S dX10_next_188 (by decide) hf (fun hf => ?_) (fun hf => ?_)
          · refine z_sub [1, 0] rfl ?_
            exact w_X10_next_J209 S M P13 x0 q12 h_x0 r hf
          · refine z_iload_n S 0 dX10_next_191 rfl rfl ?_
            refine z_bipush (v := 98) S dX10_next_192 (by decide) ?_
            refine z_icmp_eq (tgt := 209) S dX10_next_194 (by decide) hf (fun hf => ?_) (fun hf => ?_)
            · refine z_sub [1, 0] rfl ?_
              exact w_X10_next_J209 S M P13 x0 q12 h_x0 r hf
            · refine z_iload_n S 0 dX10_next_197 rfl rfl ?_
              refine z_bipush (v := 119) S dX10_next_198 (by decide) ?_
              refine z_icmp_eq (tgt := 209) S dX10_next_200 (by decide) hf (fun hf => ?_) (fun hf => ?_)
              · refine z_sub [1, 0] rfl ?_
                exact w_X10_next_J209 S M P13 x0 q12 h_x0 r hf
              · refine z_iload_n S 0 dX10_next_203 rfl rfl ?_
                refine z_bipush (v := 120) S dX10_next_204 (by decide) ?_
                refine z_icmp_ne (tgt := 213) S dX10_next_206 (by decide) hf (fun hf => ?_) (fun hf => ?_)
                · refine z_sub [1, 0] rfl ?_
                  exact w_X10_next_J209 S M P13 x0 q12 h_x0 r hf
                · refine z_iconst (v := 0) S dX10_next_213 (by decide) ?_
                  refine z_sub [1, 0] rfl ?_
                  exact w_X10_next_J214 S M P13 x0 q12 false h_x0 r hf
    · refine z_sub [1, 0] rfl ?_
      refine w_X10_next_L67 S M x0 q12 h_x0 r (fun P15 hf => ?_) 1000 P13 hf
      refine z_aload_n S 0 dX10_next_133 rfl rfl ?_
      refine z_aload_n S 0 dX10_next_134 rfl rfl ?_
      refine z_getI S cf_8 h_x0 18 (by decide) rfl wd685 dX10_next_135 ?_
      refine z_bipush (v := 99) S dX10_next_138 (by decide) ?_
      refine z_icmp_gt (tgt := 162) S dX10_next_140 (by decide) hf (fun hf => ?_) (fun hf => ?_)
      · refine z_iconst (v := 4) S dX10_next_162 (by decide) ?_
        refine z_goto (tgt := 167) S dX10_next_163 (by decide) ?_
        refine z_putI S cf_8 h_x0 17 (by decide) rfl rfl rfl rfl wd684 dX10_next_167 ?_
        refine z_goto (tgt := 253) S dX10_next_170 (by decide) ?_
        exact z_vretI S M rfl dX10_next_253 hf
      · refine z_iload_n S 1 dX10_next_143 rfl rfl ?_
        refine z_bipush (v := 48) S dX10_next_144 (by decide) ?_
        refine z_icmp_ne (tgt := 166) S dX10_next_146 (by decide) hf (fun hf => ?_) (fun hf => ?_)
        · refine z_aload_n S 0 dX10_next_149 rfl rfl ?_
          refine z_getI S cf_8 h_x0 15 (by decide) rfl wd682 dX10_next_150 ?_
          refine z_aload_n S 0 dX10_next_153 rfl rfl ?_
          refine z_getI S cf_8 h_x0 16 (by decide) rfl wd683 dX10_next_154 ?_
          refine z_isub S dX10_next_157 ?_
          refine z_iconst (v := 1) S dX10_next_158 (by decide) ?_
          refine z_icmp_le (tgt := 166) S dX10_next_159 (by decide) hf (fun hf => ?_) (fun hf => ?_)
          · refine z_iconst (v := 2) S dX10_next_166 (by decide) ?_
            refine z_putI S cf_8 h_x0 17 (by decide) rfl rfl rfl rfl wd684 dX10_next_167 ?_
            refine z_goto (tgt := 253) S dX10_next_170 (by decide) ?_
            exact z_vretI S M rfl dX10_next_253 hf
          · refine z_iconst (v := 4) S dX10_next_162 (by decide) ?_
            refine z_goto (tgt := 167) S dX10_next_163 (by decide) ?_
            refine z_putI S cf_8 h_x0 17 (by decide) rfl rfl rfl rfl wd684 dX10_next_167 ?_
            refine z_goto (tgt := 253) S dX10_next_170 (by decide) ?_
            exact z_vretI S M rfl dX10_next_253 hf
        · refine z_iconst (v := 2) S dX10_next_166 (by decide) ?_
          refine z_putI S cf_8 h_x0 17 (by decide) rfl rfl rfl rfl wd684 dX10_next_167 ?_
          refine z_goto (tgt := 253) S dX10_next_170 (by decide) ?_
          exact z_vretI S M rfl dX10_next_253 hf
  · refine z_aload_n S 1 dX10_next_52 rfl rfl ?_
    refine z_iconst (v := 0) S dX10_next_53 (by decide) ?_
    refine z_putI S cf_8 h_x0 17 (by decide) rfl rfl rfl rfl wd684 dX10_next_54 ?_
    refine z_goto (tgt := 253) S dX10_next_57 (by decide) ?_
    exact z_vretI S M rfl dX10_next_253 hf
theorem m_X10_next (l : Launch) (E : Ev) (P : PH) (x0 : Nat) (h_x0 : ok x0 8 0) (r : PH) (hf : f_X10_next P x0 = some r) : CtV l E yX10_next cX10_next 3 none r_X10_next [.ref (ad E x0)] P r :=
  z_body (own := RX10) (by decide +kernel) rfl (Nat.le_of_ble_eq_true rfl) rfl (fun x _ S M => w_X10_next S M P x0 h_x0 r hf)
-- yX10_takes
theorem dX10_takes_0 : decode cX10_takes 0 = .ok (.aload_n 0, 1) := by decide +kernel
theorem dX10_takes_1 : decode cX10_takes 1 = .ok (.getfield 87, 3) := by decide +kernel
theorem dX10_takes_4 : decode cX10_takes 4 = .ok (.ifCond .ne 40, 3) := by decide +kernel
theorem dX10_takes_7 : decode cX10_takes 7 = .ok (.aload_n 0, 1) := by decide +kernel
theorem dX10_takes_8 : decode cX10_takes 8 = .ok (.getfield 80, 3) := by decide +kernel
theorem dX10_takes_11 : decode cX10_takes 11 = .ok (.iconst 2, 1) := by decide +kernel
theorem dX10_takes_12 : decode cX10_takes 12 = .ok (.if_icmp .ne 32, 3) := by decide +kernel
theorem dX10_takes_15 : decode cX10_takes 15 = .ok (.aload_n 0, 1) := by decide +kernel
theorem dX10_takes_16 : decode cX10_takes 16 = .ok (.getfield 77, 3) := by decide +kernel
theorem dX10_takes_19 : decode cX10_takes 19 = .ok (.iload_n 1, 1) := by decide +kernel
theorem dX10_takes_20 : decode cX10_takes 20 = .ok (.iload_n 2, 1) := by decide +kernel
theorem dX10_takes_21 : decode cX10_takes 21 = .ok (.invokestatic 57, 3) := by decide +kernel
theorem dX10_takes_24 : decode cX10_takes 24 = .ok (.ifCond .ne 16, 3) := by decide +kernel
theorem dX10_takes_27 : decode cX10_takes 27 = .ok (.iload_n 3, 1) := by decide +kernel
theorem dX10_takes_28 : decode cX10_takes 28 = .ok (.ifCond .eq 16, 3) := by decide +kernel
theorem dX10_takes_31 : decode cX10_takes 31 = .ok (.aload_n 0, 1) := by decide +kernel
theorem dX10_takes_32 : decode cX10_takes 32 = .ok (.getfield 77, 3) := by decide +kernel
theorem dX10_takes_35 : decode cX10_takes 35 = .ok (.bipush 9, 2) := by decide +kernel
theorem dX10_takes_37 : decode cX10_takes 37 = .ok (.if_icmp .ne 7, 3) := by decide +kernel
theorem dX10_takes_40 : decode cX10_takes 40 = .ok (.iconst 1, 1) := by decide +kernel
theorem dX10_takes_41 : decode cX10_takes 41 = .ok (.goto 4, 3) := by decide +kernel
theorem dX10_takes_44 : decode cX10_takes 44 = .ok (.iconst 0, 1) := by decide +kernel
theorem dX10_takes_45 : decode cX10_takes 45 = .ok (.istore 4, 2) := by decide +kernel
theorem dX10_takes_47 : decode cX10_takes 47 = .ok (.aload_n 0, 1) := by decide +kernel
theorem dX10_takes_48 : decode cX10_takes 48 = .ok (.iload 4, 2) := by decide +kernel
theorem dX10_takes_50 : decode cX10_takes 50 = .ok (.ifCond .ne 7, 3) := by decide +kernel
theorem dX10_takes_53 : decode cX10_takes 53 = .ok (.iconst 1, 1) := by decide +kernel
theorem dX10_takes_54 : decode cX10_takes 54 = .ok (.goto 4, 3) := by decide +kernel
theorem dX10_takes_57 : decode cX10_takes 57 = .ok (.iconst 0, 1) := by decide +kernel
theorem dX10_takes_58 : decode cX10_takes 58 = .ok (.putfield 87, 3) := by decide +kernel
theorem dX10_takes_61 : decode cX10_takes 61 = .ok (.aload_n 0, 1) := by decide +kernel
theorem dX10_takes_62 : decode cX10_takes 62 = .ok (.getfield 77, 3) := by decide +kernel
theorem dX10_takes_65 : decode cX10_takes 65 = .ok (.istore 5, 2) := by decide +kernel
theorem dX10_takes_67 : decode cX10_takes 67 = .ok (.iload 4, 2) := by decide +kernel
theorem dX10_takes_69 : decode cX10_takes 69 = .ok (.ifCond .eq 7, 3) := by decide +kernel
theorem dX10_takes_72 : decode cX10_takes 72 = .ok (.aload_n 0, 1) := by decide +kernel
theorem dX10_takes_73 : decode cX10_takes 73 = .ok (.invokevirtual 91, 3) := by decide +kernel
theorem dX10_takes_76 : decode cX10_takes 76 = .ok (.iload 4, 2) := by decide +kernel
theorem dX10_takes_78 : decode cX10_takes 78 = .ok (.ifCond .eq 8, 3) := by decide +kernel
theorem dX10_takes_81 : decode cX10_takes 81 = .ok (.iload 5, 2) := by decide +kernel
theorem dX10_takes_83 : decode cX10_takes 83 = .ok (.goto 4, 3) := by decide +kernel
theorem dX10_takes_86 : decode cX10_takes 86 = .ok (.iconst 0, 1) := by decide +kernel
theorem dX10_takes_87 : decode cX10_takes 87 = .ok (.ireturn, 1) := by decide +kernel
def r_X10_takes : Room := { frames := 3, cells := 0, slots := 0, locals := 64 }
def f_X10_takes_J58 (P : PH) (x0 : Nat) (x4 : Bool) (s0 : Nat) (s1 : Bool) : Option (Int32 × PH) :=
  (if (b2i x4) = 0 then (if (b2i x4) = 0 then some ((0 : Int32), (sI P s0 19 (b2i s1))) else some (((sI P s0 19 (b2i s1)).1 x0 18), (sI P s0 19 (b2i s1)))) else ((f_X10_next (sI P s0 19 (b2i s1)) x0).bind fun q1 => (if (b2i x4) = 0 then some ((0 : Int32), q1) else some (((sI P s0 19 (b2i s1)).1 x0 18), q1))))
theorem w_X10_takes_J58 {x : Fx} {E : Ev} (S : ZS x E r_X10_takes cX10_takes 6 RX10 (some .int)) (M : ZM x E) (P : PH) (x0 : Nat) (x4 : Bool) (s0 : Nat) (s1 : Bool) (h_x0 : ok x0 8 0) (h_s0 : ok s0 8 0) (r : (Int32 × PH)) (hf : f_X10_takes_J58 P x0 x4 s0 s1 = some r) : Wz x E 6 (QI E x r.1 r.2) P 58 [(0, .ref (ad E x0)), (4, .int (b2i x4))] [.int (b2i s1), .ref (ad E s0)] := by
  unfold f_X10_takes_J58 at hf
  refine z_putI S cf_8 h_s0 19 (by decide) rfl rfl (nb_b2i _) (fb_b2i _) wd686 dX10_takes_58 ?_
  refine z_aload_n S 0 dX10_takes_61 rfl rfl ?_
  refine z_getI S cf_8 h_x0 18 (by decide) rfl wd685 dX10_takes_62 ?_
  refine z_istore (lv' := [(5, .int ((sI P s0 19 (b2i s1)).1 x0 18)), (0, .ref (ad E x0)), (4, .int (b2i x4))]) S dX10_takes_65 (by decide) rfl ?_
  refine z_iload S 2 dX10_takes_67 rfl ?_
  refine z_if_eq (tgt := 76) S dX10_takes_69 (by decide) hf (fun hf => ?_) (fun hf => ?_)
  · refine z_iload S 2 dX10_takes_76 rfl ?_
    refine z_if_eq (tgt := 86) S dX10_takes_78 (by decide) hf (fun hf => ?_) (fun hf => ?_)
    · refine z_iconst (v := 0) S dX10_takes_86 (by decide) ?_
      exact z_iretI (v := (0 : Int32)) S M rfl dX10_takes_87 hf
    · refine z_iload S 0 dX10_takes_81 rfl ?_
      refine z_goto (tgt := 87) S dX10_takes_83 (by decide) ?_
      exact z_iretI (v := ((sI P s0 19 (b2i s1)).1 x0 18)) S M rfl dX10_takes_87 hf
  · refine z_aload_n S 1 dX10_takes_72 rfl rfl ?_
    refine z_callVV (rc := r_X10_next) [] S mo_X10_next wd770 wd8 wd768 h_x0 (by decide) cl_8 rfl rfl (by decide) (z_room0 S M (by rfl) (by rfl)) rfl (Nat.le_of_ble_eq_true rfl) rfl dX10_takes_73  (fun q => q) (fun q hq => m_X10_next (xl x) E _ _ h_x0 q hq) hf (fun q1 hf => ?_)
    refine z_iload S 2 dX10_takes_76 rfl ?_
    refine z_if_eq (tgt := 86) S dX10_takes_78 (by decide) hf (fun hf => ?_) (fun hf => ?_)
    · refine z_iconst (v := 0) S dX10_takes_86 (by decide) ?_
      exact z_iretI (v := (0 : Int32)) S M rfl dX10_takes_87 hf
    · refine z_iload S 0 dX10_takes_81 rfl ?_
      refine z_goto (tgt := 87) S dX10_takes_83 (by decide) ?_
      exact z_iretI (v := ((sI P s0 19 (b2i s1)).1 x0 18)) S M rfl dX10_takes_87 hf
def f_X10_takes_J45 (P : PH) (x0 : Nat) (s0 : Bool) : Option (Int32 × PH) :=
  (if (b2i s0) = 0 then f_X10_takes_J58 P x0 s0 x0 true else f_X10_takes_J58 P x0 s0 x0 false)
theorem w_X10_takes_J45 {x : Fx} {E : Ev} (S : ZS x E r_X10_takes cX10_takes 6 RX10 (some .int)) (M : ZM x E) (P : PH) (x0 : Nat) (s0 : Bool) (h_x0 : ok x0 8 0) (r : (Int32 × PH)) (hf : f_X10_takes_J45 P x0 s0 = some r) : Wz x E 6 (QI E x r.1 r.2) P 45 [(0, .ref (ad E x0))] [.int (b2i s0)] := by
  unfold f_X10_takes_J45 at hf
  refine z_istore (lv' := [(4, .int (b2i s0)), (0, .ref (ad E x0))]) S dX10_takes_45 (by decide) rfl ?_
  refine z_aload_n S 1 dX10_takes_47 rfl rfl ?_
  refine z_iload S 0 dX10_takes_48 rfl ?_
  refine z_if_ne (tgt := 57) S dX10_takes_50 (by decide) hf (fun hf => ?_) (fun hf => ?_)
  · refine z_iconst (v := 1) S dX10_takes_53 (by decide) ?_
    refine z_goto (tgt := 58) S dX10_takes_54 (by decide) ?_
    refine z_sub [1, 0] rfl ?_
    exact w_X10_takes_J58 S M P x0 s0 x0 true h_x0 h_x0 r hf
  · refine z_iconst (v := 0) S dX10_takes_57 (by decide) ?_
    refine z_sub [1, 0] rfl ?_
    exact w_X10_takes_J58 S M P x0 s0 x0 false h_x0 h_x0 r hf
def f_X10_takes_J44 (P : PH) (x0 : Nat) : Option (Int32 × PH) :=
  f_X10_takes_J45 P x0 false
theorem w_X10_takes_J44 {x : Fx} {E : Ev} (S : ZS x E r_X10_takes cX10_takes 6 RX10 (some .int)) (M : ZM x E) (P : PH) (x0 : Nat) (h_x0 : ok x0 8 0) (r : (Int32 × PH)) (hf : f_X10_takes_J44 P x0 = some r) : Wz x E 6 (QI E x r.1 r.2) P 44 [(0, .ref (ad E x0))] [] := by
  unfold f_X10_takes_J44 at hf
  refine z_iconst (v := 0) S dX10_takes_44 (by decide) ?_
  exact w_X10_takes_J45 S M P x0 false h_x0 r hf
def f_X10_takes_J40 (P : PH) (x0 : Nat) : Option (Int32 × PH) :=
  f_X10_takes_J45 P x0 true
theorem w_X10_takes_J40 {x : Fx} {E : Ev} (S : ZS x E r_X10_takes cX10_takes 6 RX10 (some .int)) (M : ZM x E) (P : PH) (x0 : Nat) (h_x0 : ok x0 8 0) (r : (Int32 × PH)) (hf : f_X10_takes_J40 P x0 = some r) : Wz x E 6 (QI E x r.1 r.2) P 40 [(0, .ref (ad E x0))] [] := by
  unfold f_X10_takes_J40 at hf
  refine z_iconst (v := 1) S dX10_takes_40 (by decide) ?_
  refine z_goto (tgt := 45) S dX10_takes_41 (by decide) ?_
  exact w_X10_takes_J45 S M P x0 true h_x0 r hf
def f_X10_takes (P : PH) (x0 : Nat) (x1 : Int32) (x2 : Int32) (x3 : Int32) : Option (Int32 × PH) :=
  (if (P.1 x0 19) = 0 then (if (P.1 x0 17) = (2 : Int32) then ((f_X10_in P (P.1 x0 18) x1 x2).bind fun q2 => (if (b2i q2) = 0 then (if x3 = 0 then f_X10_takes_J44 P x0 else (if (P.1 x0 18) = (9 : Int32) then f_X10_takes_J40 P x0 else f_X10_takes_J44 P x0)) else f_X10_takes_J40 P x0)) else f_X10_takes_J44 P x0) else f_X10_takes_J44 P x0)
theorem w_X10_takes {x : Fx} {E : Ev} (S : ZS x E r_X10_takes cX10_takes 6 RX10 (some .int)) (M : ZM x E) (P : PH) (x0 : Nat) (x1 : Int32) (x2 : Int32) (x3 : Int32) (h_x0 : ok x0 8 0) (r : (Int32 × PH)) (hf : f_X10_takes P x0 x1 x2 x3 = some r) : Wz x E 6 (QI E x r.1 r.2) P 0 [(0, .ref (ad E x0)), (1, .int x1), (2, .int x2), (3, .int x3)] [] := by
  unfold f_X10_takes at hf
  refine z_aload_n S 0 dX10_takes_0 rfl rfl ?_
  refine z_getI S cf_8 h_x0 19 (by decide) rfl wd686 dX10_takes_1 ?_
  refine z_if_ne (tgt := 44) S dX10_takes_4 (by decide) hf (fun hf => ?_) (fun hf => ?_)
  · refine z_aload_n S 0 dX10_takes_7 rfl rfl ?_
    refine z_getI S cf_8 h_x0 17 (by decide) rfl wd684 dX10_takes_8 ?_
    refine z_iconst (v := 2) S dX10_takes_11 (by decide) ?_
    refine z_icmp_ne (tgt := 44) S dX10_takes_12 (by decide) hf (fun hf => ?_) (fun hf => ?_)
    · refine z_aload_n S 0 dX10_takes_15 rfl rfl ?_
      refine z_getI S cf_8 h_x0 18 (by decide) rfl wd685 dX10_takes_16 ?_
      refine z_iload_n S 1 dX10_takes_19 rfl rfl ?_
      refine z_iload_n S 2 dX10_takes_20 rfl rfl ?_
      refine z_callSI (rc := r_X10_in) [.int (P.1 x0 18), .int x1, .int x2] S mo_X10_in wd758 wd757 rfl rfl (by decide) (z_room0 S M (by rfl) (by rfl)) rfl (Nat.le_of_ble_eq_true rfl) rfl dX10_takes_21 (fun q => b2i q) (fun _ => P) (fun q hq => m_X10_in (xl x) E _ _ _ _  q hq) hf (fun q2 hf => ?_)
      refine z_if_ne (tgt := 40) S dX10_takes_24 (by decide) hf (fun hf => ?_) (fun hf => ?_)
      · refine z_iload_n S 3 dX10_takes_27 rfl rfl ?_
        refine z_if_eq (tgt := 44) S dX10_takes_28 (by decide) hf (fun hf => ?_) (fun hf => ?_)
        · refine z_sub [0] rfl ?_
          exact w_X10_takes_J44 S M P x0 h_x0 r hf
        · refine z_aload_n S 0 dX10_takes_31 rfl rfl ?_
          refine z_getI S cf_8 h_x0 18 (by decide) rfl wd685 dX10_takes_32 ?_
          refine z_bipush (v := 9) S dX10_takes_35 (by decide) ?_
          refine z_icmp_ne (tgt := 44) S dX10_takes_37 (by decide) hf (fun hf => ?_) (fun hf => ?_)
          · refine z_sub [0] rfl ?_
            exact w_X10_takes_J40 S M P x0 h_x0 r hf
          · refine z_sub [0] rfl ?_
            exact w_X10_takes_J44 S M P x0 h_x0 r hf
      · refine z_sub [0] rfl ?_
        exact w_X10_takes_J40 S M P x0 h_x0 r hf
    · refine z_sub [0] rfl ?_
      exact w_X10_takes_J44 S M P x0 h_x0 r hf
  · refine z_sub [0] rfl ?_
    exact w_X10_takes_J44 S M P x0 h_x0 r hf
theorem m_X10_takes (l : Launch) (E : Ev) (P : PH) (x0 : Nat) (x1 : Int32) (x2 : Int32) (x3 : Int32) (h_x0 : ok x0 8 0) (r : (Int32 × PH)) (hf : f_X10_takes P x0 x1 x2 x3 = some r) : CtI l E yX10_takes cX10_takes 6 (some .int) r_X10_takes [.ref (ad E x0), .int x1, .int x2, .int x3] P r.1 r.2 :=
  z_body (own := RX10) (by decide +kernel) rfl (Nat.le_of_ble_eq_true rfl) rfl (fun x _ S M => w_X10_takes S M P x0 x1 x2 x3 h_x0 r hf)
-- yX10_readPerson
theorem dX10_readPerson_0 : decode cX10_readPerson 0 = .ok (.aload_n 0, 1) := by decide +kernel
theorem dX10_readPerson_1 : decode cX10_readPerson 1 = .ok (.iconst 0, 1) := by decide +kernel
theorem dX10_readPerson_2 : decode cX10_readPerson 2 = .ok (.iconst 1, 1) := by decide +kernel
theorem dX10_readPerson_3 : decode cX10_readPerson 3 = .ok (.iconst 0, 1) := by decide +kernel
theorem dX10_readPerson_4 : decode cX10_readPerson 4 = .ok (.invokevirtual 94, 3) := by decide +kernel
theorem dX10_readPerson_7 : decode cX10_readPerson 7 = .ok (.istore_n 1, 1) := by decide +kernel
theorem dX10_readPerson_8 : decode cX10_readPerson 8 = .ok (.aload_n 0, 1) := by decide +kernel
theorem dX10_readPerson_9 : decode cX10_readPerson 9 = .ok (.iconst 0, 1) := by decide +kernel
theorem dX10_readPerson_10 : decode cX10_readPerson 10 = .ok (.iconst 5, 1) := by decide +kernel
theorem dX10_readPerson_11 : decode cX10_readPerson 11 = .ok (.iconst 1, 1) := by decide +kernel
theorem dX10_readPerson_12 : decode cX10_readPerson 12 = .ok (.invokevirtual 94, 3) := by decide +kernel
theorem dX10_readPerson_15 : decode cX10_readPerson 15 = .ok (.istore_n 2, 1) := by decide +kernel
theorem dX10_readPerson_16 : decode cX10_readPerson 16 = .ok (.aload_n 0, 1) := by decide +kernel
theorem dX10_readPerson_17 : decode cX10_readPerson 17 = .ok (.getfield 47, 3) := by decide +kernel
theorem dX10_readPerson_20 : decode cX10_readPerson 20 = .ok (.iconst 1, 1) := by decide +kernel
theorem dX10_readPerson_21 : decode cX10_readPerson 21 = .ok (.dup2, 1) := by decide +kernel
theorem dX10_readPerson_22 : decode cX10_readPerson 22 = .ok (.iaload, 1) := by decide +kernel
theorem dX10_readPerson_23 : decode cX10_readPerson 23 = .ok (.iload_n 1, 1) := by decide +kernel
theorem dX10_readPerson_24 : decode cX10_readPerson 24 = .ok (.aload_n 0, 1) := by decide +kernel
theorem dX10_readPerson_25 : decode cX10_readPerson 25 = .ok (.getfield 98, 3) := by decide +kernel
theorem dX10_readPerson_28 : decode cX10_readPerson 28 = .ok (.ishl, 1) := by decide +kernel
theorem dX10_readPerson_29 : decode cX10_readPerson 29 = .ok (.ior, 1) := by decide +kernel
theorem dX10_readPerson_30 : decode cX10_readPerson 30 = .ok (.iastore, 1) := by decide +kernel
theorem dX10_readPerson_31 : decode cX10_readPerson 31 = .ok (.aload_n 0, 1) := by decide +kernel
theorem dX10_readPerson_32 : decode cX10_readPerson 32 = .ok (.getfield 47, 3) := by decide +kernel
theorem dX10_readPerson_35 : decode cX10_readPerson 35 = .ok (.iconst 2, 1) := by decide +kernel
theorem dX10_readPerson_36 : decode cX10_readPerson 36 = .ok (.aload_n 0, 1) := by decide +kernel
theorem dX10_readPerson_37 : decode cX10_readPerson 37 = .ok (.getfield 98, 3) := by decide +kernel
theorem dX10_readPerson_40 : decode cX10_readPerson 40 = .ok (.iadd, 1) := by decide +kernel
theorem dX10_readPerson_41 : decode cX10_readPerson 41 = .ok (.iload_n 2, 1) := by decide +kernel
theorem dX10_readPerson_42 : decode cX10_readPerson 42 = .ok (.iastore, 1) := by decide +kernel
theorem dX10_readPerson_43 : decode cX10_readPerson 43 = .ok (.aload_n 0, 1) := by decide +kernel
theorem dX10_readPerson_44 : decode cX10_readPerson 44 = .ok (.dup, 1) := by decide +kernel
theorem dX10_readPerson_45 : decode cX10_readPerson 45 = .ok (.getfield 98, 3) := by decide +kernel
theorem dX10_readPerson_48 : decode cX10_readPerson 48 = .ok (.iconst 1, 1) := by decide +kernel
theorem dX10_readPerson_49 : decode cX10_readPerson 49 = .ok (.iadd, 1) := by decide +kernel
theorem dX10_readPerson_50 : decode cX10_readPerson 50 = .ok (.putfield 98, 3) := by decide +kernel
theorem dX10_readPerson_53 : decode cX10_readPerson 53 = .ok (.return_, 1) := by decide +kernel
def r_X10_readPerson : Room := { frames := 4, cells := 0, slots := 0, locals := 89 }
def f_X10_readPerson (P : PH) (x0 : Nat) : Option PH :=
  ((f_X10_takes P x0 (0 : Int32) (1 : Int32) (0 : Int32)).bind fun q1 => ((f_X10_takes q1.2 x0 (0 : Int32) (5 : Int32) (1 : Int32)).bind fun q2 => (if ((1 : Int32) < 0 ∨ 46 ≤ (1 : Int32).toNatClampNeg) then none else (if ((1 : Int32) < 0 ∨ 46 ≤ (1 : Int32).toNatClampNeg) then none else ((some (sI q2.2 (q2.2.2.2 x0 25) (1 : Int32).toNatClampNeg ((q2.2.1 (q2.2.2.2 x0 25) (1 : Int32).toNatClampNeg) ||| (q1.1 <<< ((q2.2.1 x0 20) &&& 31))))).bind fun P4 => (if (((2 : Int32) + (P4.1 x0 20)) < 0 ∨ 46 ≤ ((2 : Int32) + (P4.1 x0 20)).toNatClampNeg) then none else ((some (sI P4 (P4.2.2 x0 25) ((2 : Int32) + (P4.1 x0 20)).toNatClampNeg q2.1)).bind fun P6 => ((some (sI P6 x0 20 ((P6.1 x0 20) + (1 : Int32)))).bind fun P7 => some P7))))))))
theorem w_X10_readPerson {x : Fx} {E : Ev} (S : ZS x E r_X10_readPerson cX10_readPerson 3 RX10 none) (M : ZM x E) (P : PH) (x0 : Nat) (h_x0 : ok x0 8 0) (r : PH) (hf : f_X10_readPerson P x0 = some r) : Wz x E 3 (QV E x r) P 0 [(0, .ref (ad E x0))] [] := by
  unfold f_X10_readPerson at hf
  refine z_aload_n S 0 dX10_readPerson_0 rfl rfl ?_
  refine z_iconst (v := 0) S dX10_readPerson_1 (by decide) ?_
  refine z_iconst (v := 1) S dX10_readPerson_2 (by decide) ?_
  refine z_iconst (v := 0) S dX10_readPerson_3 (by decide) ?_
  refine z_callVI (rc := r_X10_takes) [.int (0 : Int32), .int (1 : Int32), .int (0 : Int32)] S mo_X10_takes wd789 wd12 wd787 h_x0 (by decide) cl_8 rfl rfl (by decide) (z_room0 S M (by rfl) (by rfl)) rfl (Nat.le_of_ble_eq_true rfl) rfl dX10_readPerson_4 (fun q => q.1) (fun q => q.2) (fun q hq => m_X10_takes (xl x) E _ _ _ _ _ h_x0 q hq) hf (fun q1 hf => ?_)
  refine z_istore_n (lv' := [(1, .int q1.1), (0, .ref (ad E x0))]) S dX10_readPerson_7 rfl (by decide) rfl ?_
  refine z_aload_n S 1 dX10_readPerson_8 rfl rfl ?_
  refine z_iconst (v := 0) S dX10_readPerson_9 (by decide) ?_
  refine z_iconst (v := 5) S dX10_readPerson_10 (by decide) ?_
  refine z_iconst (v := 1) S dX10_readPerson_11 (by decide) ?_
  refine z_callVI (rc := r_X10_takes) [.int (0 : Int32), .int (5 : Int32), .int (1 : Int32)] S mo_X10_takes wd789 wd12 wd787 h_x0 (by decide) cl_8 rfl rfl (by decide) (z_room0 S M (by rfl) (by rfl)) rfl (Nat.le_of_ble_eq_true rfl) rfl dX10_readPerson_12 (fun q => q.1) (fun q => q.2) (fun q hq => m_X10_takes (xl x) E _ _ _ _ _ h_x0 q hq) hf (fun q2 hf => ?_)
  refine z_istore_n (lv' := [(2, .int q2.1), (1, .int q1.1), (0, .ref (ad E x0))]) S dX10_readPerson_15 rfl (by decide) rfl ?_
  refine z_aload_n S 2 dX10_readPerson_16 rfl rfl ?_
  refine z_getR (K' := 9) (n' := 46) S cf_8 h_x0 25 (by decide) rfl rfl rfl wd692 dX10_readPerson_17 (fun h3 => ?_)
  refine z_iconst (v := 1) S dX10_readPerson_20 (by decide) ?_
  refine z_dup2 S dX10_readPerson_21 rfl rfl ?_
  refine z_iald S h3 dX10_readPerson_22 hf (fun hf => ?_)
  refine z_iload_n S 1 dX10_readPerson_23 rfl rfl ?_
  refine z_aload_n S 2 dX10_readPerson_24 rfl rfl ?_
  refine z_getI S cf_8 h_x0 20 (by decide) rfl wd687 dX10_readPerson_25 ?_
  refine z_ishl S dX10_readPerson_28 ?_
  refine z_ior S dX10_readPerson_29 ?_
  refine z_iast S h3 dX10_readPerson_30 hf (fun hf => ?_)
  refine z_nmP hf (fun P4 hf => ?_)
  refine z_aload_n S 2 dX10_readPerson_31 rfl rfl ?_
  refine z_getR (K' := 9) (n' := 46) S cf_8 h_x0 25 (by decide) rfl rfl rfl wd692 dX10_readPerson_32 (fun h5 => ?_)
  refine z_iconst (v := 2) S dX10_readPerson_35 (by decide) ?_
  refine z_aload_n S 2 dX10_readPerson_36 rfl rfl ?_
  refine z_getI S cf_8 h_x0 20 (by decide) rfl wd687 dX10_readPerson_37 ?_
  refine z_iadd S dX10_readPerson_40 ?_
  refine z_iload_n S 0 dX10_readPerson_41 rfl rfl ?_
  refine z_iast S h5 dX10_readPerson_42 hf (fun hf => ?_)
  refine z_nmP hf (fun P6 hf => ?_)
  refine z_aload_n S 2 dX10_readPerson_43 rfl rfl ?_
  refine z_dup S dX10_readPerson_44 rfl ?_
  refine z_getI S cf_8 h_x0 20 (by decide) rfl wd687 dX10_readPerson_45 ?_
  refine z_iconst (v := 1) S dX10_readPerson_48 (by decide) ?_
  refine z_iadd S dX10_readPerson_49 ?_
  refine z_putI S cf_8 h_x0 20 (by decide) rfl rfl rfl rfl wd687 dX10_readPerson_50 ?_
  refine z_nmP hf (fun P7 hf => ?_)
  exact z_vretI S M rfl dX10_readPerson_53 hf
theorem m_X10_readPerson (l : Launch) (E : Ev) (P : PH) (x0 : Nat) (h_x0 : ok x0 8 0) (r : PH) (hf : f_X10_readPerson P x0 = some r) : CtV l E yX10_readPerson cX10_readPerson 3 none r_X10_readPerson [.ref (ad E x0)] P r :=
  z_body (own := RX10) (by decide +kernel) rfl (Nat.le_of_ble_eq_true rfl) rfl (fun x _ S M => w_X10_readPerson S M P x0 h_x0 r hf)
-- yX10_readRoom
theorem dX10_readRoom_0 : decode cX10_readRoom 0 = .ok (.aload_n 0, 1) := by decide +kernel
theorem dX10_readRoom_1 : decode cX10_readRoom 1 = .ok (.getfield 47, 3) := by decide +kernel
theorem dX10_readRoom_4 : decode cX10_readRoom 4 = .ok (.bipush 8, 2) := by decide +kernel
theorem dX10_readRoom_6 : decode cX10_readRoom 6 = .ok (.aload_n 0, 1) := by decide +kernel
theorem dX10_readRoom_7 : decode cX10_readRoom 7 = .ok (.getfield 101, 3) := by decide +kernel
theorem dX10_readRoom_10 : decode cX10_readRoom 10 = .ok (.iadd, 1) := by decide +kernel
theorem dX10_readRoom_11 : decode cX10_readRoom 11 = .ok (.aload_n 0, 1) := by decide +kernel
theorem dX10_readRoom_12 : decode cX10_readRoom 12 = .ok (.iconst 0, 1) := by decide +kernel
theorem dX10_readRoom_13 : decode cX10_readRoom 13 = .ok (.aload_n 0, 1) := by decide +kernel
theorem dX10_readRoom_14 : decode cX10_readRoom 14 = .ok (.getfield 98, 3) := by decide +kernel
theorem dX10_readRoom_17 : decode cX10_readRoom 17 = .ok (.iconst 1, 1) := by decide +kernel
theorem dX10_readRoom_18 : decode cX10_readRoom 18 = .ok (.isub, 1) := by decide +kernel
theorem dX10_readRoom_19 : decode cX10_readRoom 19 = .ok (.iconst 1, 1) := by decide +kernel
theorem dX10_readRoom_20 : decode cX10_readRoom 20 = .ok (.invokevirtual 94, 3) := by decide +kernel
theorem dX10_readRoom_23 : decode cX10_readRoom 23 = .ok (.iastore, 1) := by decide +kernel
theorem dX10_readRoom_24 : decode cX10_readRoom 24 = .ok (.aload_n 0, 1) := by decide +kernel
theorem dX10_readRoom_25 : decode cX10_readRoom 25 = .ok (.dup, 1) := by decide +kernel
theorem dX10_readRoom_26 : decode cX10_readRoom 26 = .ok (.getfield 101, 3) := by decide +kernel
theorem dX10_readRoom_29 : decode cX10_readRoom 29 = .ok (.iconst 1, 1) := by decide +kernel
theorem dX10_readRoom_30 : decode cX10_readRoom 30 = .ok (.iadd, 1) := by decide +kernel
theorem dX10_readRoom_31 : decode cX10_readRoom 31 = .ok (.putfield 101, 3) := by decide +kernel
theorem dX10_readRoom_34 : decode cX10_readRoom 34 = .ok (.return_, 1) := by decide +kernel
def r_X10_readRoom : Room := { frames := 4, cells := 0, slots := 0, locals := 89 }
def f_X10_readRoom (P : PH) (x0 : Nat) : Option PH :=
  ((f_X10_takes P x0 (0 : Int32) ((P.1 x0 20) - (1 : Int32)) (1 : Int32)).bind fun q2 => (if (((8 : Int32) + (P.1 x0 21)) < 0 ∨ 46 ≤ ((8 : Int32) + (P.1 x0 21)).toNatClampNeg) then none else ((some (sI q2.2 (P.2.2 x0 25) ((8 : Int32) + (P.1 x0 21)).toNatClampNeg q2.1)).bind fun P3 => ((some (sI P3 x0 21 ((P3.1 x0 21) + (1 : Int32)))).bind fun P4 => some P4))))
theorem w_X10_readRoom {x : Fx} {E : Ev} (S : ZS x E r_X10_readRoom cX10_readRoom 1 RX10 none) (M : ZM x E) (P : PH) (x0 : Nat) (h_x0 : ok x0 8 0) (r : PH) (hf : f_X10_readRoom P x0 = some r) : Wz x E 1 (QV E x r) P 0 [(0, .ref (ad E x0))] [] := by
  unfold f_X10_readRoom at hf
  refine z_aload_n S 0 dX10_readRoom_0 rfl rfl ?_
  refine z_getR (K' := 9) (n' := 46) S cf_8 h_x0 25 (by decide) rfl rfl rfl wd692 dX10_readRoom_1 (fun h1 => ?_)
  refine z_bipush (v := 8) S dX10_readRoom_4 (by decide) ?_
  refine z_aload_n S 0 dX10_readRoom_6 rfl rfl ?_
  refine z_getI S cf_8 h_x0 21 (by decide) rfl wd688 dX10_readRoom_7 ?_
  refine z_iadd S dX10_readRoom_10 ?_
  refine z_aload_n S 0 dX10_readRoom_11 rfl rfl ?_
  refine z_iconst (v := 0) S dX10_readRoom_12 (by decide) ?_
  refine z_aload_n S 0 dX10_readRoom_13 rfl rfl ?_
  refine z_getI S cf_8 h_x0 20 (by decide) rfl wd687 dX10_readRoom_14 ?_
  refine z_iconst (v := 1) S dX10_readRoom_17 (by decide) ?_
  refine z_isub S dX10_readRoom_18 ?_
  refine z_iconst (v := 1) S dX10_readRoom_19 (by decide) ?_
  refine z_callVI (rc := r_X10_takes) [.int (0 : Int32), .int ((P.1 x0 20) - (1 : Int32)), .int (1 : Int32)] S mo_X10_takes wd789 wd12 wd787 h_x0 (by decide) cl_8 rfl rfl (by decide) (z_room0 S M (by rfl) (by rfl)) rfl (Nat.le_of_ble_eq_true rfl) rfl dX10_readRoom_20 (fun q => q.1) (fun q => q.2) (fun q hq => m_X10_takes (xl x) E _ _ _ _ _ h_x0 q hq) hf (fun q2 hf => ?_)
  refine z_iast S h1 dX10_readRoom_23 hf (fun hf => ?_)
  refine z_nmP hf (fun P3 hf => ?_)
  refine z_aload_n S 0 dX10_readRoom_24 rfl rfl ?_
  refine z_dup S dX10_readRoom_25 rfl ?_
  refine z_getI S cf_8 h_x0 21 (by decide) rfl wd688 dX10_readRoom_26 ?_
  refine z_iconst (v := 1) S dX10_readRoom_29 (by decide) ?_
  refine z_iadd S dX10_readRoom_30 ?_
  refine z_putI S cf_8 h_x0 21 (by decide) rfl rfl rfl rfl wd688 dX10_readRoom_31 ?_
  refine z_nmP hf (fun P4 hf => ?_)
  exact z_vretI S M rfl dX10_readRoom_34 hf
theorem m_X10_readRoom (l : Launch) (E : Ev) (P : PH) (x0 : Nat) (h_x0 : ok x0 8 0) (r : PH) (hf : f_X10_readRoom P x0 = some r) : CtV l E yX10_readRoom cX10_readRoom 1 none r_X10_readRoom [.ref (ad E x0)] P r :=
  z_body (own := RX10) (by decide +kernel) rfl (Nat.le_of_ble_eq_true rfl) rfl (fun x _ S M => w_X10_readRoom S M P x0 h_x0 r hf)
-- yX10_readDoor
theorem dX10_readDoor_0 : decode cX10_readDoor 0 = .ok (.aload_n 0, 1) := by decide +kernel
theorem dX10_readDoor_1 : decode cX10_readDoor 1 = .ok (.iconst 0, 1) := by decide +kernel
theorem dX10_readDoor_2 : decode cX10_readDoor 2 = .ok (.aload_n 0, 1) := by decide +kernel
theorem dX10_readDoor_3 : decode cX10_readDoor 3 = .ok (.getfield 101, 3) := by decide +kernel
theorem dX10_readDoor_6 : decode cX10_readDoor 6 = .ok (.iconst 1, 1) := by decide +kernel
theorem dX10_readDoor_7 : decode cX10_readDoor 7 = .ok (.isub, 1) := by decide +kernel
theorem dX10_readDoor_8 : decode cX10_readDoor 8 = .ok (.iconst 0, 1) := by decide +kernel
theorem dX10_readDoor_9 : decode cX10_readDoor 9 = .ok (.invokevirtual 94, 3) := by decide +kernel
theorem dX10_readDoor_12 : decode cX10_readDoor 12 = .ok (.istore_n 1, 1) := by decide +kernel
theorem dX10_readDoor_13 : decode cX10_readDoor 13 = .ok (.aload_n 0, 1) := by decide +kernel
theorem dX10_readDoor_14 : decode cX10_readDoor 14 = .ok (.aload_n 0, 1) := by decide +kernel
theorem dX10_readDoor_15 : decode cX10_readDoor 15 = .ok (.getfield 87, 3) := by decide +kernel
theorem dX10_readDoor_18 : decode cX10_readDoor 18 = .ok (.ifCond .ne 19, 3) := by decide +kernel
theorem dX10_readDoor_21 : decode cX10_readDoor 21 = .ok (.aload_n 0, 1) := by decide +kernel
theorem dX10_readDoor_22 : decode cX10_readDoor 22 = .ok (.getfield 80, 3) := by decide +kernel
theorem dX10_readDoor_25 : decode cX10_readDoor 25 = .ok (.iconst 2, 1) := by decide +kernel
theorem dX10_readDoor_26 : decode cX10_readDoor 26 = .ok (.if_icmp .ne 15, 3) := by decide +kernel
theorem dX10_readDoor_29 : decode cX10_readDoor 29 = .ok (.aload_n 0, 1) := by decide +kernel
theorem dX10_readDoor_30 : decode cX10_readDoor 30 = .ok (.getfield 77, 3) := by decide +kernel
theorem dX10_readDoor_33 : decode cX10_readDoor 33 = .ok (.iload_n 1, 1) := by decide +kernel
theorem dX10_readDoor_34 : decode cX10_readDoor 34 = .ok (.if_icmp .ne 7, 3) := by decide +kernel
theorem dX10_readDoor_37 : decode cX10_readDoor 37 = .ok (.iconst 1, 1) := by decide +kernel
theorem dX10_readDoor_38 : decode cX10_readDoor 38 = .ok (.goto 4, 3) := by decide +kernel
theorem dX10_readDoor_41 : decode cX10_readDoor 41 = .ok (.iconst 0, 1) := by decide +kernel
theorem dX10_readDoor_42 : decode cX10_readDoor 42 = .ok (.putfield 87, 3) := by decide +kernel
theorem dX10_readDoor_45 : decode cX10_readDoor 45 = .ok (.aload_n 0, 1) := by decide +kernel
theorem dX10_readDoor_46 : decode cX10_readDoor 46 = .ok (.iconst 0, 1) := by decide +kernel
theorem dX10_readDoor_47 : decode cX10_readDoor 47 = .ok (.aload_n 0, 1) := by decide +kernel
theorem dX10_readDoor_48 : decode cX10_readDoor 48 = .ok (.getfield 101, 3) := by decide +kernel
theorem dX10_readDoor_51 : decode cX10_readDoor 51 = .ok (.iconst 1, 1) := by decide +kernel
theorem dX10_readDoor_52 : decode cX10_readDoor 52 = .ok (.isub, 1) := by decide +kernel
theorem dX10_readDoor_53 : decode cX10_readDoor 53 = .ok (.iconst 0, 1) := by decide +kernel
theorem dX10_readDoor_54 : decode cX10_readDoor 54 = .ok (.invokevirtual 94, 3) := by decide +kernel
theorem dX10_readDoor_57 : decode cX10_readDoor 57 = .ok (.istore_n 2, 1) := by decide +kernel
theorem dX10_readDoor_58 : decode cX10_readDoor 58 = .ok (.aload_n 0, 1) := by decide +kernel
theorem dX10_readDoor_59 : decode cX10_readDoor 59 = .ok (.getfield 87, 3) := by decide +kernel
theorem dX10_readDoor_62 : decode cX10_readDoor 62 = .ok (.ifCond .ne 27, 3) := by decide +kernel
theorem dX10_readDoor_65 : decode cX10_readDoor 65 = .ok (.aload_n 0, 1) := by decide +kernel
theorem dX10_readDoor_66 : decode cX10_readDoor 66 = .ok (.getfield 44, 3) := by decide +kernel
theorem dX10_readDoor_69 : decode cX10_readDoor 69 = .ok (.iload_n 1, 1) := by decide +kernel
theorem dX10_readDoor_70 : decode cX10_readDoor 70 = .ok (.dup2, 1) := by decide +kernel
theorem dX10_readDoor_71 : decode cX10_readDoor 71 = .ok (.iaload, 1) := by decide +kernel
theorem dX10_readDoor_72 : decode cX10_readDoor 72 = .ok (.iconst 1, 1) := by decide +kernel
theorem dX10_readDoor_73 : decode cX10_readDoor 73 = .ok (.iload_n 2, 1) := by decide +kernel
theorem dX10_readDoor_74 : decode cX10_readDoor 74 = .ok (.ishl, 1) := by decide +kernel
theorem dX10_readDoor_75 : decode cX10_readDoor 75 = .ok (.ior, 1) := by decide +kernel
theorem dX10_readDoor_76 : decode cX10_readDoor 76 = .ok (.iastore, 1) := by decide +kernel
theorem dX10_readDoor_77 : decode cX10_readDoor 77 = .ok (.aload_n 0, 1) := by decide +kernel
theorem dX10_readDoor_78 : decode cX10_readDoor 78 = .ok (.getfield 44, 3) := by decide +kernel
theorem dX10_readDoor_81 : decode cX10_readDoor 81 = .ok (.iload_n 2, 1) := by decide +kernel
theorem dX10_readDoor_82 : decode cX10_readDoor 82 = .ok (.dup2, 1) := by decide +kernel
theorem dX10_readDoor_83 : decode cX10_readDoor 83 = .ok (.iaload, 1) := by decide +kernel
theorem dX10_readDoor_84 : decode cX10_readDoor 84 = .ok (.iconst 1, 1) := by decide +kernel
theorem dX10_readDoor_85 : decode cX10_readDoor 85 = .ok (.iload_n 1, 1) := by decide +kernel
theorem dX10_readDoor_86 : decode cX10_readDoor 86 = .ok (.ishl, 1) := by decide +kernel
theorem dX10_readDoor_87 : decode cX10_readDoor 87 = .ok (.ior, 1) := by decide +kernel
theorem dX10_readDoor_88 : decode cX10_readDoor 88 = .ok (.iastore, 1) := by decide +kernel
theorem dX10_readDoor_89 : decode cX10_readDoor 89 = .ok (.return_, 1) := by decide +kernel
def r_X10_readDoor : Room := { frames := 4, cells := 0, slots := 0, locals := 89 }
def f_X10_readDoor_J42 (P : PH) (x0 : Nat) (x1 : Int32) (s0 : Nat) (s1 : Bool) : Option PH :=
  ((f_X10_takes (sI P s0 19 (b2i s1)) x0 (0 : Int32) (((sI P s0 19 (b2i s1)).1 x0 21) - (1 : Int32)) (0 : Int32)).bind fun q1 => (if (q1.2.1 x0 19) = 0 then (if (x1 < 0 ∨ 7 ≤ x1.toNatClampNeg) then none else (if (x1 < 0 ∨ 7 ≤ x1.toNatClampNeg) then none else ((some (sI q1.2 (q1.2.2.2 x0 24) x1.toNatClampNeg ((q1.2.1 (q1.2.2.2 x0 24) x1.toNatClampNeg) ||| ((1 : Int32) <<< (q1.1 &&& 31))))).bind fun P3 => (if (q1.1 < 0 ∨ 7 ≤ q1.1.toNatClampNeg) then none else (if (q1.1 < 0 ∨ 7 ≤ q1.1.toNatClampNeg) then none else ((some (sI P3 (P3.2.2 x0 24) q1.1.toNatClampNeg ((P3.1 (P3.2.2 x0 24) q1.1.toNatClampNeg) ||| ((1 : Int32) <<< (x1 &&& 31))))).bind fun P5 => some P5)))))) else some q1.2))
theorem w_X10_readDoor_J42 {x : Fx} {E : Ev} (S : ZS x E r_X10_readDoor cX10_readDoor 3 RX10 none) (M : ZM x E) (P : PH) (x0 : Nat) (x1 : Int32) (s0 : Nat) (s1 : Bool) (h_x0 : ok x0 8 0) (h_s0 : ok s0 8 0) (r : PH) (hf : f_X10_readDoor_J42 P x0 x1 s0 s1 = some r) : Wz x E 3 (QV E x r) P 42 [(0, .ref (ad E x0)), (1, .int x1)] [.int (b2i s1), .ref (ad E s0)] := by
  unfold f_X10_readDoor_J42 at hf
  refine z_putI S cf_8 h_s0 19 (by decide) rfl rfl (nb_b2i _) (fb_b2i _) wd686 dX10_readDoor_42 ?_
  refine z_aload_n S 0 dX10_readDoor_45 rfl rfl ?_
  refine z_iconst (v := 0) S dX10_readDoor_46 (by decide) ?_
  refine z_aload_n S 0 dX10_readDoor_47 rfl rfl ?_
  refine z_getI S cf_8 h_x0 21 (by decide) rfl wd688 dX10_readDoor_48 ?_
  refine z_iconst (v := 1) S dX10_readDoor_51 (by decide) ?_
  refine z_isub S dX10_readDoor_52 ?_
  refine z_iconst (v := 0) S dX10_readDoor_53 (by decide) ?_
  refine z_callVI (rc := r_X10_takes) [.int (0 : Int32), .int (((sI P s0 19 (b2i s1)).1 x0 21) - (1 : Int32)), .int (0 : Int32)] S mo_X10_takes wd789 wd12 wd787 h_x0 (by decide) cl_8 rfl rfl (by decide) (z_room0 S M (by rfl) (by rfl)) rfl (Nat.le_of_ble_eq_true rfl) rfl dX10_readDoor_54 (fun q => q.1) (fun q => q.2) (fun q hq => m_X10_takes (xl x) E _ _ _ _ _ h_x0 q hq) hf (fun q1 hf => ?_)
  refine z_istore_n (lv' := [(2, .int q1.1), (0, .ref (ad E x0)), (1, .int x1)]) S dX10_readDoor_57 rfl (by decide) rfl ?_
  refine z_aload_n S 1 dX10_readDoor_58 rfl rfl ?_
  refine z_getI S cf_8 h_x0 19 (by decide) rfl wd686 dX10_readDoor_59 ?_
  refine z_if_ne (tgt := 89) S dX10_readDoor_62 (by decide) hf (fun hf => ?_) (fun hf => ?_)
  · refine z_aload_n S 1 dX10_readDoor_65 rfl rfl ?_
    refine z_getR (K' := 9) (n' := 7) S cf_8 h_x0 24 (by decide) rfl rfl rfl wd691 dX10_readDoor_66 (fun h2 => ?_)
    refine z_iload_n S 2 dX10_readDoor_69 rfl rfl ?_
    refine z_dup2 S dX10_readDoor_70 rfl rfl ?_
    refine z_iald S h2 dX10_readDoor_71 hf (fun hf => ?_)
    refine z_iconst (v := 1) S dX10_readDoor_72 (by decide) ?_
    refine z_iload_n S 0 dX10_readDoor_73 rfl rfl ?_
    refine z_ishl S dX10_readDoor_74 ?_
    refine z_ior S dX10_readDoor_75 ?_
    refine z_iast S h2 dX10_readDoor_76 hf (fun hf => ?_)
    refine z_nmP hf (fun P3 hf => ?_)
    refine z_aload_n S 1 dX10_readDoor_77 rfl rfl ?_
    refine z_getR (K' := 9) (n' := 7) S cf_8 h_x0 24 (by decide) rfl rfl rfl wd691 dX10_readDoor_78 (fun h4 => ?_)
    refine z_iload_n S 0 dX10_readDoor_81 rfl rfl ?_
    refine z_dup2 S dX10_readDoor_82 rfl rfl ?_
    refine z_iald S h4 dX10_readDoor_83 hf (fun hf => ?_)
    refine z_iconst (v := 1) S dX10_readDoor_84 (by decide) ?_
    refine z_iload_n S 2 dX10_readDoor_85 rfl rfl ?_
    refine z_ishl S dX10_readDoor_86 ?_
    refine z_ior S dX10_readDoor_87 ?_
    refine z_iast S h4 dX10_readDoor_88 hf (fun hf => ?_)
    refine z_nmP hf (fun P5 hf => ?_)
    exact z_vretI S M rfl dX10_readDoor_89 hf
  · exact z_vretI S M rfl dX10_readDoor_89 hf
def f_X10_readDoor_J41 (P : PH) (x0 : Nat) (x1 : Int32) (s0 : Nat) : Option PH :=
  f_X10_readDoor_J42 P x0 x1 s0 false
theorem w_X10_readDoor_J41 {x : Fx} {E : Ev} (S : ZS x E r_X10_readDoor cX10_readDoor 3 RX10 none) (M : ZM x E) (P : PH) (x0 : Nat) (x1 : Int32) (s0 : Nat) (h_x0 : ok x0 8 0) (h_s0 : ok s0 8 0) (r : PH) (hf : f_X10_readDoor_J41 P x0 x1 s0 = some r) : Wz x E 3 (QV E x r) P 41 [(0, .ref (ad E x0)), (1, .int x1)] [.ref (ad E s0)] := by
  unfold f_X10_readDoor_J41 at hf
  refine z_iconst (v := 0) S dX10_readDoor_41 (by decide) ?_
  exact w_X10_readDoor_J42 S M P x0 x1 s0 false h_x0 h_s0 r hf
def f_X10_readDoor_J37 (P : PH) (x0 : Nat) (x1 : Int32) (s0 : Nat) : Option PH :=
  f_X10_readDoor_J42 P x0 x1 s0 true
theorem w_X10_readDoor_J37 {x : Fx} {E : Ev} (S : ZS x E r_X10_readDoor cX10_readDoor 3 RX10 none) (M : ZM x E) (P : PH) (x0 : Nat) (x1 : Int32) (s0 : Nat) (h_x0 : ok x0 8 0) (h_s0 : ok s0 8 0) (r : PH) (hf : f_X10_readDoor_J37 P x0 x1 s0 = some r) : Wz x E 3 (QV E x r) P 37 [(0, .ref (ad E x0)), (1, .int x1)] [.ref (ad E s0)] := by
  unfold f_X10_readDoor_J37 at hf
  refine z_iconst (v := 1) S dX10_readDoor_37 (by decide) ?_
  refine z_goto (tgt := 42) S dX10_readDoor_38 (by decide) ?_
  exact w_X10_readDoor_J42 S M P x0 x1 s0 true h_x0 h_s0 r hf
def f_X10_readDoor (P : PH) (x0 : Nat) : Option PH :=
  ((f_X10_takes P x0 (0 : Int32) ((P.1 x0 21) - (1 : Int32)) (0 : Int32)).bind fun q6 => (if (q6.2.1 x0 19) = 0 then (if (q6.2.1 x0 17) = (2 : Int32) then (if (q6.2.1 x0 18) = q6.1 then f_X10_readDoor_J37 q6.2 x0 q6.1 x0 else f_X10_readDoor_J41 q6.2 x0 q6.1 x0) else f_X10_readDoor_J41 q6.2 x0 q6.1 x0) else f_X10_readDoor_J37 q6.2 x0 q6.1 x0))
theorem w_X10_readDoor {x : Fx} {E : Ev} (S : ZS x E r_X10_readDoor cX10_readDoor 3 RX10 none) (M : ZM x E) (P : PH) (x0 : Nat) (h_x0 : ok x0 8 0) (r : PH) (hf : f_X10_readDoor P x0 = some r) : Wz x E 3 (QV E x r) P 0 [(0, .ref (ad E x0))] [] := by
  unfold f_X10_readDoor at hf
  refine z_aload_n S 0 dX10_readDoor_0 rfl rfl ?_
  refine z_iconst (v := 0) S dX10_readDoor_1 (by decide) ?_
  refine z_aload_n S 0 dX10_readDoor_2 rfl rfl ?_
  refine z_getI S cf_8 h_x0 21 (by decide) rfl wd688 dX10_readDoor_3 ?_
  refine z_iconst (v := 1) S dX10_readDoor_6 (by decide) ?_
  refine z_isub S dX10_readDoor_7 ?_
  refine z_iconst (v := 0) S dX10_readDoor_8 (by decide) ?_
  refine z_callVI (rc := r_X10_takes) [.int (0 : Int32), .int ((P.1 x0 21) - (1 : Int32)), .int (0 : Int32)] S mo_X10_takes wd789 wd12 wd787 h_x0 (by decide) cl_8 rfl rfl (by decide) (z_room0 S M (by rfl) (by rfl)) rfl (Nat.le_of_ble_eq_true rfl) rfl dX10_readDoor_9 (fun q => q.1) (fun q => q.2) (fun q hq => m_X10_takes (xl x) E _ _ _ _ _ h_x0 q hq) hf (fun q6 hf => ?_)
  refine z_istore_n (lv' := [(1, .int q6.1), (0, .ref (ad E x0))]) S dX10_readDoor_12 rfl (by decide) rfl ?_
  refine z_aload_n S 1 dX10_readDoor_13 rfl rfl ?_
  refine z_aload_n S 1 dX10_readDoor_14 rfl rfl ?_
  refine z_getI S cf_8 h_x0 19 (by decide) rfl wd686 dX10_readDoor_15 ?_
  refine z_if_ne (tgt := 37) S dX10_readDoor_18 (by decide) hf (fun hf => ?_) (fun hf => ?_)
  · refine z_aload_n S 1 dX10_readDoor_21 rfl rfl ?_
    refine z_getI S cf_8 h_x0 17 (by decide) rfl wd684 dX10_readDoor_22 ?_
    refine z_iconst (v := 2) S dX10_readDoor_25 (by decide) ?_
    refine z_icmp_ne (tgt := 41) S dX10_readDoor_26 (by decide) hf (fun hf => ?_) (fun hf => ?_)
    · refine z_aload_n S 1 dX10_readDoor_29 rfl rfl ?_
      refine z_getI S cf_8 h_x0 18 (by decide) rfl wd685 dX10_readDoor_30 ?_
      refine z_iload_n S 0 dX10_readDoor_33 rfl rfl ?_
      refine z_icmp_ne (tgt := 41) S dX10_readDoor_34 (by decide) hf (fun hf => ?_) (fun hf => ?_)
      · refine z_sub [1, 0] rfl ?_
        exact w_X10_readDoor_J37 S M (q6.2) x0 q6.1 x0 h_x0 h_x0 r hf
      · refine z_sub [1, 0] rfl ?_
        exact w_X10_readDoor_J41 S M (q6.2) x0 q6.1 x0 h_x0 h_x0 r hf
    · refine z_sub [1, 0] rfl ?_
      exact w_X10_readDoor_J41 S M (q6.2) x0 q6.1 x0 h_x0 h_x0 r hf
  · refine z_sub [1, 0] rfl ?_
    exact w_X10_readDoor_J37 S M (q6.2) x0 q6.1 x0 h_x0 h_x0 r hf
theorem m_X10_readDoor (l : Launch) (E : Ev) (P : PH) (x0 : Nat) (h_x0 : ok x0 8 0) (r : PH) (hf : f_X10_readDoor P x0 = some r) : CtV l E yX10_readDoor cX10_readDoor 3 none r_X10_readDoor [.ref (ad E x0)] P r :=
  z_body (own := RX10) (by decide +kernel) rfl (Nat.le_of_ble_eq_true rfl) rfl (fun x _ S M => w_X10_readDoor S M P x0 h_x0 r hf)
-- yX10_grantsIn
theorem dX10_grantsIn_0 : decode cX10_grantsIn 0 = .ok (.bipush 16, 2) := by decide +kernel
theorem dX10_grantsIn_2 : decode cX10_grantsIn 2 = .ok (.iconst 3, 1) := by decide +kernel
theorem dX10_grantsIn_3 : decode cX10_grantsIn 3 = .ok (.aload_n 0, 1) := by decide +kernel
theorem dX10_grantsIn_4 : decode cX10_grantsIn 4 = .ok (.bipush 15, 2) := by decide +kernel
theorem dX10_grantsIn_6 : decode cX10_grantsIn 6 = .ok (.iaload, 1) := by decide +kernel
theorem dX10_grantsIn_7 : decode cX10_grantsIn 7 = .ok (.imul, 1) := by decide +kernel
theorem dX10_grantsIn_8 : decode cX10_grantsIn 8 = .ok (.iadd, 1) := by decide +kernel
theorem dX10_grantsIn_9 : decode cX10_grantsIn 9 = .ok (.istore 4, 2) := by decide +kernel
theorem dX10_grantsIn_11 : decode cX10_grantsIn 11 = .ok (.aload_n 0, 1) := by decide +kernel
theorem dX10_grantsIn_12 : decode cX10_grantsIn 12 = .ok (.iload 4, 2) := by decide +kernel
theorem dX10_grantsIn_14 : decode cX10_grantsIn 14 = .ok (.iload_n 1, 1) := by decide +kernel
theorem dX10_grantsIn_15 : decode cX10_grantsIn 15 = .ok (.iastore, 1) := by decide +kernel
theorem dX10_grantsIn_16 : decode cX10_grantsIn 16 = .ok (.aload_n 0, 1) := by decide +kernel
theorem dX10_grantsIn_17 : decode cX10_grantsIn 17 = .ok (.iload 4, 2) := by decide +kernel
theorem dX10_grantsIn_19 : decode cX10_grantsIn 19 = .ok (.iconst 1, 1) := by decide +kernel
theorem dX10_grantsIn_20 : decode cX10_grantsIn 20 = .ok (.iadd, 1) := by decide +kernel
theorem dX10_grantsIn_21 : decode cX10_grantsIn 21 = .ok (.iload_n 2, 1) := by decide +kernel
theorem dX10_grantsIn_22 : decode cX10_grantsIn 22 = .ok (.iastore, 1) := by decide +kernel
theorem dX10_grantsIn_23 : decode cX10_grantsIn 23 = .ok (.aload_n 0, 1) := by decide +kernel
theorem dX10_grantsIn_24 : decode cX10_grantsIn 24 = .ok (.iload 4, 2) := by decide +kernel
theorem dX10_grantsIn_26 : decode cX10_grantsIn 26 = .ok (.iconst 2, 1) := by decide +kernel
theorem dX10_grantsIn_27 : decode cX10_grantsIn 27 = .ok (.iadd, 1) := by decide +kernel
theorem dX10_grantsIn_28 : decode cX10_grantsIn 28 = .ok (.iload_n 3, 1) := by decide +kernel
theorem dX10_grantsIn_29 : decode cX10_grantsIn 29 = .ok (.iastore, 1) := by decide +kernel
theorem dX10_grantsIn_30 : decode cX10_grantsIn 30 = .ok (.aload_n 0, 1) := by decide +kernel
theorem dX10_grantsIn_31 : decode cX10_grantsIn 31 = .ok (.bipush 15, 2) := by decide +kernel
theorem dX10_grantsIn_33 : decode cX10_grantsIn 33 = .ok (.dup2, 1) := by decide +kernel
theorem dX10_grantsIn_34 : decode cX10_grantsIn 34 = .ok (.iaload, 1) := by decide +kernel
theorem dX10_grantsIn_35 : decode cX10_grantsIn 35 = .ok (.iconst 1, 1) := by decide +kernel
theorem dX10_grantsIn_36 : decode cX10_grantsIn 36 = .ok (.iadd, 1) := by decide +kernel
theorem dX10_grantsIn_37 : decode cX10_grantsIn 37 = .ok (.iastore, 1) := by decide +kernel
theorem dX10_grantsIn_38 : decode cX10_grantsIn 38 = .ok (.return_, 1) := by decide +kernel
def r_X10_grantsIn : Room := { frames := 0, cells := 0, slots := 0, locals := 0 }
def f_X10_grantsIn (n0 : Nat) (P : PH) (x0 : Nat) (x1 : Int32) (x2 : Int32) (x3 : Int32) : Option PH :=
  (if ((15 : Int32) < 0 ∨ n0 ≤ (15 : Int32).toNatClampNeg) then none else ((some ((16 : Int32) + ((3 : Int32) * (P.1 x0 (15 : Int32).toNatClampNeg)))).bind fun u1 => (if (u1 < 0 ∨ n0 ≤ u1.toNatClampNeg) then none else (if ((u1 + (1 : Int32)) < 0 ∨ n0 ≤ (u1 + (1 : Int32)).toNatClampNeg) then none else ((some (sI (sI P x0 u1.toNatClampNeg x1) x0 (u1 + (1 : Int32)).toNatClampNeg x2)).bind fun P2 => (if ((u1 + (2 : Int32)) < 0 ∨ n0 ≤ (u1 + (2 : Int32)).toNatClampNeg) then none else ((some (sI P2 x0 (u1 + (2 : Int32)).toNatClampNeg x3)).bind fun P3 => (if ((15 : Int32) < 0 ∨ n0 ≤ (15 : Int32).toNatClampNeg) then none else (if ((15 : Int32) < 0 ∨ n0 ≤ (15 : Int32).toNatClampNeg) then none else ((some (sI P3 x0 (15 : Int32).toNatClampNeg ((P3.1 x0 (15 : Int32).toNatClampNeg) + (1 : Int32)))).bind fun P4 => some P4))))))))))
theorem w_X10_grantsIn {x : Fx} {E : Ev} (S : ZS x E r_X10_grantsIn cX10_grantsIn 5 RX10 none) (M : ZM x E) (n0 : Nat) (P : PH) (x0 : Nat) (x1 : Int32) (x2 : Int32) (x3 : Int32) (h_x0 : ok x0 9 n0) (r : PH) (hf : f_X10_grantsIn n0 P x0 x1 x2 x3 = some r) : Wz x E 5 (QV E x r) P 0 [(0, .ref (ad E x0)), (1, .int x1), (2, .int x2), (3, .int x3)] [] := by
  unfold f_X10_grantsIn at hf
  refine z_bipush (v := 16) S dX10_grantsIn_0 (by decide) ?_
  refine z_iconst (v := 3) S dX10_grantsIn_2 (by decide) ?_
  refine z_aload_n S 0 dX10_grantsIn_3 rfl rfl ?_
  refine z_bipush (v := 15) S dX10_grantsIn_4 (by decide) ?_
  refine z_iald S h_x0 dX10_grantsIn_6 hf (fun hf => ?_)
  refine z_imul S dX10_grantsIn_7 ?_
  refine z_iadd S dX10_grantsIn_8 ?_
  refine z_nm hf (fun u1 hf => ?_)
  refine z_istore (lv' := [(4, .int u1), (0, .ref (ad E x0)), (1, .int x1), (2, .int x2), (3, .int x3)]) S dX10_grantsIn_9 (by decide) rfl ?_
  refine z_aload_n S 1 dX10_grantsIn_11 rfl rfl ?_
  refine z_iload S 0 dX10_grantsIn_12 rfl ?_
  refine z_iload_n S 2 dX10_grantsIn_14 rfl rfl ?_
  refine z_iast S h_x0 dX10_grantsIn_15 hf (fun hf => ?_)
  refine z_aload_n S 1 dX10_grantsIn_16 rfl rfl ?_
  refine z_iload S 0 dX10_grantsIn_17 rfl ?_
  refine z_iconst (v := 1) S dX10_grantsIn_19 (by decide) ?_
  refine z_iadd S dX10_grantsIn_20 ?_
  refine z_iload_n S 3 dX10_grantsIn_21 rfl rfl ?_
  refine z_iast S h_x0 dX10_grantsIn_22 hf (fun hf => ?_)
  refine z_nmP hf (fun P2 hf => ?_)
  refine z_aload_n S 1 dX10_grantsIn_23 rfl rfl ?_
  refine z_iload S 0 dX10_grantsIn_24 rfl ?_
  refine z_iconst (v := 2) S dX10_grantsIn_26 (by decide) ?_
  refine z_iadd S dX10_grantsIn_27 ?_
  refine z_iload_n S 4 dX10_grantsIn_28 rfl rfl ?_
  refine z_iast S h_x0 dX10_grantsIn_29 hf (fun hf => ?_)
  refine z_nmP hf (fun P3 hf => ?_)
  refine z_aload_n S 1 dX10_grantsIn_30 rfl rfl ?_
  refine z_bipush (v := 15) S dX10_grantsIn_31 (by decide) ?_
  refine z_dup2 S dX10_grantsIn_33 rfl rfl ?_
  refine z_iald S h_x0 dX10_grantsIn_34 hf (fun hf => ?_)
  refine z_iconst (v := 1) S dX10_grantsIn_35 (by decide) ?_
  refine z_iadd S dX10_grantsIn_36 ?_
  refine z_iast S h_x0 dX10_grantsIn_37 hf (fun hf => ?_)
  refine z_nmP hf (fun P4 hf => ?_)
  exact z_vretI S M rfl dX10_grantsIn_38 hf
theorem m_X10_grantsIn (l : Launch) (E : Ev) (n0 : Nat) (P : PH) (x0 : Nat) (x1 : Int32) (x2 : Int32) (x3 : Int32) (h_x0 : ok x0 9 n0) (r : PH) (hf : f_X10_grantsIn n0 P x0 x1 x2 x3 = some r) : CtV l E yX10_grantsIn cX10_grantsIn 5 none r_X10_grantsIn [.ref (ad E x0), .int x1, .int x2, .int x3] P r :=
  z_body (own := RX10) (by decide +kernel) rfl (Nat.le_of_ble_eq_true rfl) rfl (fun x _ S M => w_X10_grantsIn S M n0 P x0 x1 x2 x3 h_x0 r hf)
-- yX10_readPlace
theorem dX10_readPlace_0 : decode cX10_readPlace 0 = .ok (.aload_n 0, 1) := by decide +kernel
theorem dX10_readPlace_1 : decode cX10_readPlace 1 = .ok (.iconst 0, 1) := by decide +kernel
theorem dX10_readPlace_2 : decode cX10_readPlace 2 = .ok (.aload_n 0, 1) := by decide +kernel
theorem dX10_readPlace_3 : decode cX10_readPlace 3 = .ok (.getfield 98, 3) := by decide +kernel
theorem dX10_readPlace_6 : decode cX10_readPlace 6 = .ok (.iconst 1, 1) := by decide +kernel
theorem dX10_readPlace_7 : decode cX10_readPlace 7 = .ok (.isub, 1) := by decide +kernel
theorem dX10_readPlace_8 : decode cX10_readPlace 8 = .ok (.iconst 0, 1) := by decide +kernel
theorem dX10_readPlace_9 : decode cX10_readPlace 9 = .ok (.invokevirtual 94, 3) := by decide +kernel
theorem dX10_readPlace_12 : decode cX10_readPlace 12 = .ok (.istore_n 2, 1) := by decide +kernel
theorem dX10_readPlace_13 : decode cX10_readPlace 13 = .ok (.aload_n 0, 1) := by decide +kernel
theorem dX10_readPlace_14 : decode cX10_readPlace 14 = .ok (.iconst 0, 1) := by decide +kernel
theorem dX10_readPlace_15 : decode cX10_readPlace 15 = .ok (.aload_n 0, 1) := by decide +kernel
theorem dX10_readPlace_16 : decode cX10_readPlace 16 = .ok (.getfield 101, 3) := by decide +kernel
theorem dX10_readPlace_19 : decode cX10_readPlace 19 = .ok (.iconst 1, 1) := by decide +kernel
theorem dX10_readPlace_20 : decode cX10_readPlace 20 = .ok (.isub, 1) := by decide +kernel
theorem dX10_readPlace_21 : decode cX10_readPlace 21 = .ok (.iconst 0, 1) := by decide +kernel
theorem dX10_readPlace_22 : decode cX10_readPlace 22 = .ok (.invokevirtual 94, 3) := by decide +kernel
theorem dX10_readPlace_25 : decode cX10_readPlace 25 = .ok (.istore_n 3, 1) := by decide +kernel
theorem dX10_readPlace_26 : decode cX10_readPlace 26 = .ok (.iload_n 1, 1) := by decide +kernel
theorem dX10_readPlace_27 : decode cX10_readPlace 27 = .ok (.bipush 120, 2) := by decide +kernel
theorem dX10_readPlace_29 : decode cX10_readPlace 29 = .ok (.if_icmp .ne 27, 3) := by decide +kernel
theorem dX10_readPlace_32 : decode cX10_readPlace 32 = .ok (.aload_n 0, 1) := by decide +kernel
theorem dX10_readPlace_33 : decode cX10_readPlace 33 = .ok (.iconst 0, 1) := by decide +kernel
theorem dX10_readPlace_34 : decode cX10_readPlace 34 = .ok (.bipush 99, 2) := by decide +kernel
theorem dX10_readPlace_36 : decode cX10_readPlace 36 = .ok (.iconst 0, 1) := by decide +kernel
theorem dX10_readPlace_37 : decode cX10_readPlace 37 = .ok (.invokevirtual 94, 3) := by decide +kernel
theorem dX10_readPlace_40 : decode cX10_readPlace 40 = .ok (.istore 4, 2) := by decide +kernel
theorem dX10_readPlace_42 : decode cX10_readPlace 42 = .ok (.aload_n 0, 1) := by decide +kernel
theorem dX10_readPlace_43 : decode cX10_readPlace 43 = .ok (.getfield 47, 3) := by decide +kernel
theorem dX10_readPlace_46 : decode cX10_readPlace 46 = .ok (.iload_n 2, 1) := by decide +kernel
theorem dX10_readPlace_47 : decode cX10_readPlace 47 = .ok (.iload_n 3, 1) := by decide +kernel
theorem dX10_readPlace_48 : decode cX10_readPlace 48 = .ok (.iload 4, 2) := by decide +kernel
theorem dX10_readPlace_50 : decode cX10_readPlace 50 = .ok (.invokestatic 104, 3) := by decide +kernel
theorem dX10_readPlace_53 : decode cX10_readPlace 53 = .ok (.goto 43, 3) := by decide +kernel
theorem dX10_readPlace_56 : decode cX10_readPlace 56 = .ok (.iload_n 1, 1) := by decide +kernel
theorem dX10_readPlace_57 : decode cX10_readPlace 57 = .ok (.bipush 98, 2) := by decide +kernel
theorem dX10_readPlace_59 : decode cX10_readPlace 59 = .ok (.if_icmp .ne 25, 3) := by decide +kernel
theorem dX10_readPlace_62 : decode cX10_readPlace 62 = .ok (.aload_n 0, 1) := by decide +kernel
theorem dX10_readPlace_63 : decode cX10_readPlace 63 = .ok (.getfield 38, 3) := by decide +kernel
theorem dX10_readPlace_66 : decode cX10_readPlace 66 = .ok (.iload_n 2, 1) := by decide +kernel
theorem dX10_readPlace_67 : decode cX10_readPlace 67 = .ok (.aload_n 0, 1) := by decide +kernel
theorem dX10_readPlace_68 : decode cX10_readPlace 68 = .ok (.getfield 87, 3) := by decide +kernel
theorem dX10_readPlace_71 : decode cX10_readPlace 71 = .ok (.ifCond .eq 8, 3) := by decide +kernel
theorem dX10_readPlace_74 : decode cX10_readPlace 74 = .ok (.bipush (-9), 2) := by decide +kernel
theorem dX10_readPlace_76 : decode cX10_readPlace 76 = .ok (.goto 4, 3) := by decide +kernel
theorem dX10_readPlace_79 : decode cX10_readPlace 79 = .ok (.iload_n 3, 1) := by decide +kernel
theorem dX10_readPlace_80 : decode cX10_readPlace 80 = .ok (.iastore, 1) := by decide +kernel
theorem dX10_readPlace_81 : decode cX10_readPlace 81 = .ok (.goto 15, 3) := by decide +kernel
theorem dX10_readPlace_84 : decode cX10_readPlace 84 = .ok (.aload_n 0, 1) := by decide +kernel
theorem dX10_readPlace_85 : decode cX10_readPlace 85 = .ok (.getfield 41, 3) := by decide +kernel
theorem dX10_readPlace_88 : decode cX10_readPlace 88 = .ok (.iload_n 2, 1) := by decide +kernel
theorem dX10_readPlace_89 : decode cX10_readPlace 89 = .ok (.dup2, 1) := by decide +kernel
theorem dX10_readPlace_90 : decode cX10_readPlace 90 = .ok (.iaload, 1) := by decide +kernel
theorem dX10_readPlace_91 : decode cX10_readPlace 91 = .ok (.iconst 1, 1) := by decide +kernel
theorem dX10_readPlace_92 : decode cX10_readPlace 92 = .ok (.iload_n 3, 1) := by decide +kernel
theorem dX10_readPlace_93 : decode cX10_readPlace 93 = .ok (.ishl, 1) := by decide +kernel
theorem dX10_readPlace_94 : decode cX10_readPlace 94 = .ok (.ior, 1) := by decide +kernel
theorem dX10_readPlace_95 : decode cX10_readPlace 95 = .ok (.iastore, 1) := by decide +kernel
theorem dX10_readPlace_96 : decode cX10_readPlace 96 = .ok (.return_, 1) := by decide +kernel
def r_X10_readPlace : Room := { frames := 4, cells := 0, slots := 0, locals := 89 }
def f_X10_readPlace (P : PH) (x0 : Nat) (x1 : Int32) : Option PH :=
  ((f_X10_takes P x0 (0 : Int32) ((P.1 x0 20) - (1 : Int32)) (0 : Int32)).bind fun q1 => ((f_X10_takes q1.2 x0 (0 : Int32) ((q1.2.1 x0 21) - (1 : Int32)) (0 : Int32)).bind fun q2 => (if x1 = (120 : Int32) then ((f_X10_takes q2.2 x0 (0 : Int32) (99 : Int32) (0 : Int32)).bind fun q3 => ((f_X10_grantsIn 46 q3.2 (q3.2.2.2 x0 25) q1.1 q2.1 q3.1).bind fun q5 => some q5)) else (if x1 = (98 : Int32) then (if (q2.2.1 x0 19) = 0 then (if (q1.1 < 0 ∨ 6 ≤ q1.1.toNatClampNeg) then none else ((some (sI q2.2 (q2.2.2.2 x0 22) q1.1.toNatClampNeg q2.1)).bind fun P7 => some P7)) else (if (q1.1 < 0 ∨ 6 ≤ q1.1.toNatClampNeg) then none else ((some (sI q2.2 (q2.2.2.2 x0 22) q1.1.toNatClampNeg (-9 : Int32))).bind fun P8 => some P8))) else (if (q1.1 < 0 ∨ 6 ≤ q1.1.toNatClampNeg) then none else (if (q1.1 < 0 ∨ 6 ≤ q1.1.toNatClampNeg) then none else ((some (sI q2.2 (q2.2.2.2 x0 23) q1.1.toNatClampNeg ((q2.2.1 (q2.2.2.2 x0 23) q1.1.toNatClampNeg) ||| ((1 : Int32) <<< (q2.1 &&& 31))))).bind fun P10 => some P10)))))))
theorem w_X10_readPlace {x : Fx} {E : Ev} (S : ZS x E r_X10_readPlace cX10_readPlace 5 RX10 none) (M : ZM x E) (P : PH) (x0 : Nat) (x1 : Int32) (h_x0 : ok x0 8 0) (r : PH) (hf : f_X10_readPlace P x0 x1 = some r) : Wz x E 5 (QV E x r) P 0 [(0, .ref (ad E x0)), (1, .int x1)] [] := by
  unfold f_X10_readPlace at hf
  refine z_aload_n S 0 dX10_readPlace_0 rfl rfl ?_
  refine z_iconst (v := 0) S dX10_readPlace_1 (by decide) ?_
  refine z_aload_n S 0 dX10_readPlace_2 rfl rfl ?_
  refine z_getI S cf_8 h_x0 20 (by decide) rfl wd687 dX10_readPlace_3 ?_
  refine z_iconst (v := 1) S dX10_readPlace_6 (by decide) ?_
  refine z_isub S dX10_readPlace_7 ?_
  refine z_iconst (v := 0) S dX10_readPlace_8 (by decide) ?_
  refine z_callVI (rc := r_X10_takes) [.int (0 : Int32), .int ((P.1 x0 20) - (1 : Int32)), .int (0 : Int32)] S mo_X10_takes wd789 wd12 wd787 h_x0 (by decide) cl_8 rfl rfl (by decide) (z_room0 S M (by rfl) (by rfl)) rfl (Nat.le_of_ble_eq_true rfl) rfl dX10_readPlace_9 (fun q => q.1) (fun q => q.2) (fun q hq => m_X10_takes (xl x) E _ _ _ _ _ h_x0 q hq) hf (fun q1 hf => ?_)
  refine z_istore_n (lv' := [(2, .int q1.1), (0, .ref (ad E x0)), (1, .int x1)]) S dX10_readPlace_12 rfl (by decide) rfl ?_
  refine z_aload_n S 1 dX10_readPlace_13 rfl rfl ?_
  refine z_iconst (v := 0) S dX10_readPlace_14 (by decide) ?_
  refine z_aload_n S 1 dX10_readPlace_15 rfl rfl ?_
  refine z_getI S cf_8 h_x0 21 (by decide) rfl wd688 dX10_readPlace_16 ?_
  refine z_iconst (v := 1) S dX10_readPlace_19 (by decide) ?_
  refine z_isub S dX10_readPlace_20 ?_
  refine z_iconst (v := 0) S dX10_readPlace_21 (by decide) ?_
  refine z_callVI (rc := r_X10_takes) [.int (0 : Int32), .int ((q1.2.1 x0 21) - (1 : Int32)), .int (0 : Int32)] S mo_X10_takes wd789 wd12 wd787 h_x0 (by decide) cl_8 rfl rfl (by decide) (z_room0 S M (by rfl) (by rfl)) rfl (Nat.le_of_ble_eq_true rfl) rfl dX10_readPlace_22 (fun q => q.1) (fun q => q.2) (fun q hq => m_X10_takes (xl x) E _ _ _ _ _ h_x0 q hq) hf (fun q2 hf => ?_)
  refine z_istore_n (lv' := [(3, .int q2.1), (2, .int q1.1), (0, .ref (ad E x0)), (1, .int x1)]) S dX10_readPlace_25 rfl (by decide) rfl ?_
  refine z_iload_n S 3 dX10_readPlace_26 rfl rfl ?_
  refine z_bipush (v := 120) S dX10_readPlace_27 (by decide) ?_
  refine z_icmp_ne (tgt := 56) S dX10_readPlace_29 (by decide) hf (fun hf => ?_) (fun hf => ?_)
  · refine z_aload_n S 2 dX10_readPlace_32 rfl rfl ?_
    refine z_iconst (v := 0) S dX10_readPlace_33 (by decide) ?_
    refine z_bipush (v := 99) S dX10_readPlace_34 (by decide) ?_
    refine z_iconst (v := 0) S dX10_readPlace_36 (by decide) ?_
    refine z_callVI (rc := r_X10_takes) [.int (0 : Int32), .int (99 : Int32), .int (0 : Int32)] S mo_X10_takes wd789 wd12 wd787 h_x0 (by decide) cl_8 rfl rfl (by decide) (z_room0 S M (by rfl) (by rfl)) rfl (Nat.le_of_ble_eq_true rfl) rfl dX10_readPlace_37 (fun q => q.1) (fun q => q.2) (fun q hq => m_X10_takes (xl x) E _ _ _ _ _ h_x0 q hq) hf (fun q3 hf => ?_)
    refine z_istore (lv' := [(4, .int q3.1), (3, .int q2.1), (2, .int q1.1), (0, .ref (ad E x0)), (1, .int x1)]) S dX10_readPlace_40 (by decide) rfl ?_
    refine z_aload_n S 3 dX10_readPlace_42 rfl rfl ?_
    refine z_getR (K' := 9) (n' := 46) S cf_8 h_x0 25 (by decide) rfl rfl rfl wd692 dX10_readPlace_43 (fun h4 => ?_)
    refine z_iload_n S 2 dX10_readPlace_46 rfl rfl ?_
    refine z_iload_n S 1 dX10_readPlace_47 rfl rfl ?_
    refine z_iload S 0 dX10_readPlace_48 rfl ?_
    refine z_callSV (rc := r_X10_grantsIn) [.ref (ad E (q3.2.2.2 x0 25)), .int q1.1, .int q2.1, .int q3.1] S mo_X10_grantsIn wd804 wd803 rfl rfl (by decide) (z_room0 S M (by rfl) (by rfl)) rfl (Nat.le_of_ble_eq_true rfl) rfl dX10_readPlace_50  (fun q => q) (fun q hq => m_X10_grantsIn (xl x) E _ _ _ _ _ _ h4 q hq) hf (fun q5 hf => ?_)
    refine z_goto (tgt := 96) S dX10_readPlace_53 (by decide) ?_
    exact z_vretI S M rfl dX10_readPlace_96 hf
  · refine z_iload_n S 3 dX10_readPlace_56 rfl rfl ?_
    refine z_bipush (v := 98) S dX10_readPlace_57 (by decide) ?_
    refine z_icmp_ne (tgt := 84) S dX10_readPlace_59 (by decide) hf (fun hf => ?_) (fun hf => ?_)
    · refine z_aload_n S 2 dX10_readPlace_62 rfl rfl ?_
      refine z_getR (K' := 9) (n' := 6) S cf_8 h_x0 22 (by decide) rfl rfl rfl wd689 dX10_readPlace_63 (fun h6 => ?_)
      refine z_iload_n S 1 dX10_readPlace_66 rfl rfl ?_
      refine z_aload_n S 2 dX10_readPlace_67 rfl rfl ?_
      refine z_getI S cf_8 h_x0 19 (by decide) rfl wd686 dX10_readPlace_68 ?_
      refine z_if_eq (tgt := 79) S dX10_readPlace_71 (by decide) hf (fun hf => ?_) (fun hf => ?_)
      · refine z_iload_n S 0 dX10_readPlace_79 rfl rfl ?_
        refine z_iast S h6 dX10_readPlace_80 hf (fun hf => ?_)
        refine z_nmP hf (fun P7 hf => ?_)
        refine z_goto (tgt := 96) S dX10_readPlace_81 (by decide) ?_
        exact z_vretI S M rfl dX10_readPlace_96 hf
      · refine z_bipush (v := (-9 : Int32)) S dX10_readPlace_74 (by decide) ?_
        refine z_goto (tgt := 80) S dX10_readPlace_76 (by decide) ?_
        refine z_iast S h6 dX10_readPlace_80 hf (fun hf => ?_)
        refine z_nmP hf (fun P8 hf => ?_)
        refine z_goto (tgt := 96) S dX10_readPlace_81 (by decide) ?_
        exact z_vretI S M rfl dX10_readPlace_96 hf
    · refine z_aload_n S 2 dX10_readPlace_84 rfl rfl ?_
      refine z_getR (K' := 9) (n' := 6) S cf_8 h_x0 23 (by decide) rfl rfl rfl wd690 dX10_readPlace_85 (fun h9 => ?_)
      refine z_iload_n S 1 dX10_readPlace_88 rfl rfl ?_
      refine z_dup2 S dX10_readPlace_89 rfl rfl ?_
      refine z_iald S h9 dX10_readPlace_90 hf (fun hf => ?_)
      refine z_iconst (v := 1) S dX10_readPlace_91 (by decide) ?_
      refine z_iload_n S 0 dX10_readPlace_92 rfl rfl ?_
      refine z_ishl S dX10_readPlace_93 ?_
      refine z_ior S dX10_readPlace_94 ?_
      refine z_iast S h9 dX10_readPlace_95 hf (fun hf => ?_)
      refine z_nmP hf (fun P10 hf => ?_)
      exact z_vretI S M rfl dX10_readPlace_96 hf
theorem m_X10_readPlace (l : Launch) (E : Ev) (P : PH) (x0 : Nat) (x1 : Int32) (h_x0 : ok x0 8 0) (r : PH) (hf : f_X10_readPlace P x0 x1 = some r) : CtV l E yX10_readPlace cX10_readPlace 5 none r_X10_readPlace [.ref (ad E x0), .int x1] P r :=
  z_body (own := RX10) (by decide +kernel) rfl (Nat.le_of_ble_eq_true rfl) rfl (fun x _ S M => w_X10_readPlace S M P x0 x1 h_x0 r hf)
-- yX10_readItem
theorem dX10_readItem_0 : decode cX10_readItem 0 = .ok (.aload_n 0, 1) := by decide +kernel
theorem dX10_readItem_1 : decode cX10_readItem 1 = .ok (.getfield 77, 3) := by decide +kernel
theorem dX10_readItem_4 : decode cX10_readItem 4 = .ok (.istore_n 1, 1) := by decide +kernel
theorem dX10_readItem_5 : decode cX10_readItem 5 = .ok (.iload_n 1, 1) := by decide +kernel
theorem dX10_readItem_6 : decode cX10_readItem 6 = .ok (.bipush 112, 2) := by decide +kernel
theorem dX10_readItem_8 : decode cX10_readItem 8 = .ok (.if_icmp .ne 20, 3) := by decide +kernel
theorem dX10_readItem_11 : decode cX10_readItem 11 = .ok (.aload_n 0, 1) := by decide +kernel
theorem dX10_readItem_12 : decode cX10_readItem 12 = .ok (.getfield 98, 3) := by decide +kernel
theorem dX10_readItem_15 : decode cX10_readItem 15 = .ok (.bipush 6, 2) := by decide +kernel
theorem dX10_readItem_17 : decode cX10_readItem 17 = .ok (.if_icmp .ne 7, 3) := by decide +kernel
theorem dX10_readItem_20 : decode cX10_readItem 20 = .ok (.iconst 1, 1) := by decide +kernel
theorem dX10_readItem_21 : decode cX10_readItem 21 = .ok (.goto 53, 3) := by decide +kernel
theorem dX10_readItem_24 : decode cX10_readItem 24 = .ok (.iconst 0, 1) := by decide +kernel
theorem dX10_readItem_25 : decode cX10_readItem 25 = .ok (.goto 49, 3) := by decide +kernel
theorem dX10_readItem_28 : decode cX10_readItem 28 = .ok (.iload_n 1, 1) := by decide +kernel
theorem dX10_readItem_29 : decode cX10_readItem 29 = .ok (.bipush 114, 2) := by decide +kernel
theorem dX10_readItem_31 : decode cX10_readItem 31 = .ok (.if_icmp .ne 20, 3) := by decide +kernel
theorem dX10_readItem_34 : decode cX10_readItem 34 = .ok (.aload_n 0, 1) := by decide +kernel
theorem dX10_readItem_35 : decode cX10_readItem 35 = .ok (.getfield 101, 3) := by decide +kernel
theorem dX10_readItem_38 : decode cX10_readItem 38 = .ok (.bipush 7, 2) := by decide +kernel
theorem dX10_readItem_40 : decode cX10_readItem 40 = .ok (.if_icmp .ne 7, 3) := by decide +kernel
theorem dX10_readItem_43 : decode cX10_readItem 43 = .ok (.iconst 1, 1) := by decide +kernel
theorem dX10_readItem_44 : decode cX10_readItem 44 = .ok (.goto 30, 3) := by decide +kernel
theorem dX10_readItem_47 : decode cX10_readItem 47 = .ok (.iconst 0, 1) := by decide +kernel
theorem dX10_readItem_48 : decode cX10_readItem 48 = .ok (.goto 26, 3) := by decide +kernel
theorem dX10_readItem_51 : decode cX10_readItem 51 = .ok (.iload_n 1, 1) := by decide +kernel
theorem dX10_readItem_52 : decode cX10_readItem 52 = .ok (.bipush 120, 2) := by decide +kernel
theorem dX10_readItem_54 : decode cX10_readItem 54 = .ok (.if_icmp .ne 19, 3) := by decide +kernel
theorem dX10_readItem_57 : decode cX10_readItem 57 = .ok (.aload_n 0, 1) := by decide +kernel
theorem dX10_readItem_58 : decode cX10_readItem 58 = .ok (.getfield 47, 3) := by decide +kernel
theorem dX10_readItem_61 : decode cX10_readItem 61 = .ok (.bipush 15, 2) := by decide +kernel
theorem dX10_readItem_63 : decode cX10_readItem 63 = .ok (.iaload, 1) := by decide +kernel
theorem dX10_readItem_64 : decode cX10_readItem 64 = .ok (.bipush 10, 2) := by decide +kernel
theorem dX10_readItem_66 : decode cX10_readItem 66 = .ok (.if_icmp .ne 7, 3) := by decide +kernel
theorem dX10_readItem_69 : decode cX10_readItem 69 = .ok (.iconst 1, 1) := by decide +kernel
theorem dX10_readItem_70 : decode cX10_readItem 70 = .ok (.goto 4, 3) := by decide +kernel
theorem dX10_readItem_73 : decode cX10_readItem 73 = .ok (.iconst 0, 1) := by decide +kernel
theorem dX10_readItem_74 : decode cX10_readItem 74 = .ok (.istore_n 2, 1) := by decide +kernel
theorem dX10_readItem_75 : decode cX10_readItem 75 = .ok (.aload_n 0, 1) := by decide +kernel
theorem dX10_readItem_76 : decode cX10_readItem 76 = .ok (.getfield 80, 3) := by decide +kernel
theorem dX10_readItem_79 : decode cX10_readItem 79 = .ok (.iconst 1, 1) := by decide +kernel
theorem dX10_readItem_80 : decode cX10_readItem 80 = .ok (.if_icmp .ne 7, 3) := by decide +kernel
theorem dX10_readItem_83 : decode cX10_readItem 83 = .ok (.iload_n 2, 1) := by decide +kernel
theorem dX10_readItem_84 : decode cX10_readItem 84 = .ok (.ifCond .eq 9, 3) := by decide +kernel
theorem dX10_readItem_87 : decode cX10_readItem 87 = .ok (.aload_n 0, 1) := by decide +kernel
theorem dX10_readItem_88 : decode cX10_readItem 88 = .ok (.iconst 1, 1) := by decide +kernel
theorem dX10_readItem_89 : decode cX10_readItem 89 = .ok (.putfield 87, 3) := by decide +kernel
theorem dX10_readItem_92 : decode cX10_readItem 92 = .ok (.return_, 1) := by decide +kernel
theorem dX10_readItem_93 : decode cX10_readItem 93 = .ok (.aload_n 0, 1) := by decide +kernel
theorem dX10_readItem_94 : decode cX10_readItem 94 = .ok (.invokevirtual 91, 3) := by decide +kernel
theorem dX10_readItem_97 : decode cX10_readItem 97 = .ok (.iload_n 1, 1) := by decide +kernel
theorem dX10_readItem_98 : decode cX10_readItem 98 = .ok (.lookupswitch 55 #[(100, 48), (112, 34), (114, 41)], 34) := by decide +kernel
theorem dX10_readItem_132 : decode cX10_readItem 132 = .ok (.aload_n 0, 1) := by decide +kernel
theorem dX10_readItem_133 : decode cX10_readItem 133 = .ok (.invokevirtual 108, 3) := by decide +kernel
theorem dX10_readItem_136 : decode cX10_readItem 136 = .ok (.goto 22, 3) := by decide +kernel
theorem dX10_readItem_139 : decode cX10_readItem 139 = .ok (.aload_n 0, 1) := by decide +kernel
theorem dX10_readItem_140 : decode cX10_readItem 140 = .ok (.invokevirtual 111, 3) := by decide +kernel
theorem dX10_readItem_143 : decode cX10_readItem 143 = .ok (.goto 15, 3) := by decide +kernel
theorem dX10_readItem_146 : decode cX10_readItem 146 = .ok (.aload_n 0, 1) := by decide +kernel
theorem dX10_readItem_147 : decode cX10_readItem 147 = .ok (.invokevirtual 114, 3) := by decide +kernel
theorem dX10_readItem_150 : decode cX10_readItem 150 = .ok (.goto 8, 3) := by decide +kernel
theorem dX10_readItem_153 : decode cX10_readItem 153 = .ok (.aload_n 0, 1) := by decide +kernel
theorem dX10_readItem_154 : decode cX10_readItem 154 = .ok (.iload_n 1, 1) := by decide +kernel
theorem dX10_readItem_155 : decode cX10_readItem 155 = .ok (.invokevirtual 117, 3) := by decide +kernel
theorem dX10_readItem_158 : decode cX10_readItem 158 = .ok (.aload_n 0, 1) := by decide +kernel
theorem dX10_readItem_159 : decode cX10_readItem 159 = .ok (.aload_n 0, 1) := by decide +kernel
theorem dX10_readItem_160 : decode cX10_readItem 160 = .ok (.getfield 87, 3) := by decide +kernel
theorem dX10_readItem_163 : decode cX10_readItem 163 = .ok (.ifCond .ne 11, 3) := by decide +kernel
theorem dX10_readItem_166 : decode cX10_readItem 166 = .ok (.aload_n 0, 1) := by decide +kernel
theorem dX10_readItem_167 : decode cX10_readItem 167 = .ok (.getfield 80, 3) := by decide +kernel
theorem dX10_readItem_170 : decode cX10_readItem 170 = .ok (.iconst 3, 1) := by decide +kernel
theorem dX10_readItem_171 : decode cX10_readItem 171 = .ok (.if_icmp .eq 7, 3) := by decide +kernel
theorem dX10_readItem_174 : decode cX10_readItem 174 = .ok (.iconst 1, 1) := by decide +kernel
theorem dX10_readItem_175 : decode cX10_readItem 175 = .ok (.goto 4, 3) := by decide +kernel
theorem dX10_readItem_178 : decode cX10_readItem 178 = .ok (.iconst 0, 1) := by decide +kernel
theorem dX10_readItem_179 : decode cX10_readItem 179 = .ok (.putfield 87, 3) := by decide +kernel
theorem dX10_readItem_182 : decode cX10_readItem 182 = .ok (.aload_n 0, 1) := by decide +kernel
theorem dX10_readItem_183 : decode cX10_readItem 183 = .ok (.getfield 87, 3) := by decide +kernel
theorem dX10_readItem_186 : decode cX10_readItem 186 = .ok (.ifCond .ne 7, 3) := by decide +kernel
theorem dX10_readItem_189 : decode cX10_readItem 189 = .ok (.aload_n 0, 1) := by decide +kernel
theorem dX10_readItem_190 : decode cX10_readItem 190 = .ok (.invokevirtual 91, 3) := by decide +kernel
theorem dX10_readItem_193 : decode cX10_readItem 193 = .ok (.return_, 1) := by decide +kernel
def r_X10_readItem : Room := { frames := 5, cells := 0, slots := 0, locals := 113 }
def f_X10_readItem_J158 (P : PH) (x0 : Nat) : Option PH :=
  (if (P.1 x0 19) = 0 then (if (P.1 x0 17) = (3 : Int32) then (if ((sI P x0 19 (0 : Int32)).1 x0 19) = 0 then ((f_X10_next (sI P x0 19 (0 : Int32)) x0).bind fun q1 => some q1) else some (sI P x0 19 (0 : Int32))) else (if ((sI P x0 19 (1 : Int32)).1 x0 19) = 0 then ((f_X10_next (sI P x0 19 (1 : Int32)) x0).bind fun q2 => some q2) else some (sI P x0 19 (1 : Int32)))) else (if ((sI P x0 19 (1 : Int32)).1 x0 19) = 0 then ((f_X10_next (sI P x0 19 (1 : Int32)) x0).bind fun q3 => some q3) else some (sI P x0 19 (1 : Int32))))
theorem w_X10_readItem_J158 {x : Fx} {E : Ev} (S : ZS x E r_X10_readItem cX10_readItem 3 RX10 none) (M : ZM x E) (P : PH) (x0 : Nat) (h_x0 : ok x0 8 0) (r : PH) (hf : f_X10_readItem_J158 P x0 = some r) : Wz x E 3 (QV E x r) P 158 [(0, .ref (ad E x0))] [] := by
  unfold f_X10_readItem_J158 at hf
  refine z_aload_n S 0 dX10_readItem_158 rfl rfl ?_
  refine z_aload_n S 0 dX10_readItem_159 rfl rfl ?_
  refine z_getI S cf_8 h_x0 19 (by decide) rfl wd686 dX10_readItem_160 ?_
  refine z_if_ne (tgt := 174) S dX10_readItem_163 (by decide) hf (fun hf => ?_) (fun hf => ?_)
  · refine z_aload_n S 0 dX10_readItem_166 rfl rfl ?_
    refine z_getI S cf_8 h_x0 17 (by decide) rfl wd684 dX10_readItem_167 ?_
    refine z_iconst (v := 3) S dX10_readItem_170 (by decide) ?_
    refine z_icmp_eq (tgt := 178) S dX10_readItem_171 (by decide) hf (fun hf => ?_) (fun hf => ?_)
    · refine z_iconst (v := 0) S dX10_readItem_178 (by decide) ?_
      refine z_putI S cf_8 h_x0 19 (by decide) rfl rfl (by decide) rfl wd686 dX10_readItem_179 ?_
      refine z_aload_n S 0 dX10_readItem_182 rfl rfl ?_
      refine z_getI S cf_8 h_x0 19 (by decide) rfl wd686 dX10_readItem_183 ?_
      refine z_if_ne (tgt := 193) S dX10_readItem_186 (by decide) hf (fun hf => ?_) (fun hf => ?_)
      · refine z_aload_n S 0 dX10_readItem_189 rfl rfl ?_
        refine z_callVV (rc := r_X10_next) [] S mo_X10_next wd770 wd8 wd768 h_x0 (by decide) cl_8 rfl rfl (by decide) (z_room0 S M (by rfl) (by rfl)) rfl (Nat.le_of_ble_eq_true rfl) rfl dX10_readItem_190  (fun q => q) (fun q hq => m_X10_next (xl x) E _ _ h_x0 q hq) hf (fun q1 hf => ?_)
        exact z_vretI S M rfl dX10_readItem_193 hf
      · exact z_vretI S M rfl dX10_readItem_193 hf
    · refine z_iconst (v := 1) S dX10_readItem_174 (by decide) ?_
      refine z_goto (tgt := 179) S dX10_readItem_175 (by decide) ?_
      refine z_putI S cf_8 h_x0 19 (by decide) rfl rfl (by decide) rfl wd686 dX10_readItem_179 ?_
      refine z_aload_n S 0 dX10_readItem_182 rfl rfl ?_
      refine z_getI S cf_8 h_x0 19 (by decide) rfl wd686 dX10_readItem_183 ?_
      refine z_if_ne (tgt := 193) S dX10_readItem_186 (by decide) hf (fun hf => ?_) (fun hf => ?_)
      · refine z_aload_n S 0 dX10_readItem_189 rfl rfl ?_
        refine z_callVV (rc := r_X10_next) [] S mo_X10_next wd770 wd8 wd768 h_x0 (by decide) cl_8 rfl rfl (by decide) (z_room0 S M (by rfl) (by rfl)) rfl (Nat.le_of_ble_eq_true rfl) rfl dX10_readItem_190  (fun q => q) (fun q hq => m_X10_next (xl x) E _ _ h_x0 q hq) hf (fun q2 hf => ?_)
        exact z_vretI S M rfl dX10_readItem_193 hf
      · exact z_vretI S M rfl dX10_readItem_193 hf
  · refine z_iconst (v := 1) S dX10_readItem_174 (by decide) ?_
    refine z_goto (tgt := 179) S dX10_readItem_175 (by decide) ?_
    refine z_putI S cf_8 h_x0 19 (by decide) rfl rfl (by decide) rfl wd686 dX10_readItem_179 ?_
    refine z_aload_n S 0 dX10_readItem_182 rfl rfl ?_
    refine z_getI S cf_8 h_x0 19 (by decide) rfl wd686 dX10_readItem_183 ?_
    refine z_if_ne (tgt := 193) S dX10_readItem_186 (by decide) hf (fun hf => ?_) (fun hf => ?_)
    · refine z_aload_n S 0 dX10_readItem_189 rfl rfl ?_
      refine z_callVV (rc := r_X10_next) [] S mo_X10_next wd770 wd8 wd768 h_x0 (by decide) cl_8 rfl rfl (by decide) (z_room0 S M (by rfl) (by rfl)) rfl (Nat.le_of_ble_eq_true rfl) rfl dX10_readItem_190  (fun q => q) (fun q hq => m_X10_next (xl x) E _ _ h_x0 q hq) hf (fun q3 hf => ?_)
      exact z_vretI S M rfl dX10_readItem_193 hf
    · exact z_vretI S M rfl dX10_readItem_193 hf
def f_X10_readItem_J74 (P : PH) (x0 : Nat) (x1 : Int32) (s0 : Bool) : Option PH :=
  (if (P.1 x0 17) = (1 : Int32) then (if (b2i s0) = 0 then ((f_X10_next P x0).bind fun q4 => (if x1 = (100 : Int32) then ((f_X10_readDoor q4 x0).bind fun q6 => f_X10_readItem_J158 q6 x0) else (if x1 = (112 : Int32) then ((f_X10_readPerson q4 x0).bind fun q8 => f_X10_readItem_J158 q8 x0) else (if x1 = (114 : Int32) then ((f_X10_readRoom q4 x0).bind fun q10 => f_X10_readItem_J158 q10 x0) else ((f_X10_readPlace q4 x0 x1).bind fun q11 => f_X10_readItem_J158 q11 x0))))) else some (sI P x0 19 (1 : Int32))) else some (sI P x0 19 (1 : Int32)))
theorem w_X10_readItem_J74 {x : Fx} {E : Ev} (S : ZS x E r_X10_readItem cX10_readItem 3 RX10 none) (M : ZM x E) (P : PH) (x0 : Nat) (x1 : Int32) (s0 : Bool) (h_x0 : ok x0 8 0) (r : PH) (hf : f_X10_readItem_J74 P x0 x1 s0 = some r) : Wz x E 3 (QV E x r) P 74 [(0, .ref (ad E x0)), (1, .int x1)] [.int (b2i s0)] := by
  unfold f_X10_readItem_J74 at hf
  refine z_istore_n (lv' := [(2, .int (b2i s0)), (0, .ref (ad E x0)), (1, .int x1)]) S dX10_readItem_74 rfl (by decide) rfl ?_
  refine z_aload_n S 1 dX10_readItem_75 rfl rfl ?_
  refine z_getI S cf_8 h_x0 17 (by decide) rfl wd684 dX10_readItem_76 ?_
  refine z_iconst (v := 1) S dX10_readItem_79 (by decide) ?_
  refine z_icmp_ne (tgt := 87) S dX10_readItem_80 (by decide) hf (fun hf => ?_) (fun hf => ?_)
  · refine z_iload_n S 0 dX10_readItem_83 rfl rfl ?_
    refine z_if_eq (tgt := 93) S dX10_readItem_84 (by decide) hf (fun hf => ?_) (fun hf => ?_)
    · refine z_aload_n S 1 dX10_readItem_93 rfl rfl ?_
      refine z_callVV (rc := r_X10_next) [] S mo_X10_next wd770 wd8 wd768 h_x0 (by decide) cl_8 rfl rfl (by decide) (z_room0 S M (by rfl) (by rfl)) rfl (Nat.le_of_ble_eq_true rfl) rfl dX10_readItem_94  (fun q => q) (fun q hq => m_X10_next (xl x) E _ _ h_x0 q hq) hf (fun q4 hf => ?_)
      refine z_iload_n S 2 dX10_readItem_97 rfl rfl ?_
      refine z_tif hf (fun h5 hf => ?_) (fun h5 hf => ?_)
      · refine z_lookup (tgt := 146) S dX10_readItem_98 (by decide) (by rw [h5]; try rfl) (by decide) ?_
        refine z_aload_n S 1 dX10_readItem_146 rfl rfl ?_
        refine z_callVV (rc := r_X10_readDoor) [] S mo_X10_readDoor wd797 wd14 wd795 h_x0 (by decide) cl_8 rfl rfl (by decide) (z_room0 S M (by rfl) (by rfl)) rfl (Nat.le_of_ble_eq_true rfl) rfl dX10_readItem_147  (fun q => q) (fun q hq => m_X10_readDoor (xl x) E _ _ h_x0 q hq) hf (fun q6 hf => ?_)
        refine z_goto (tgt := 158) S dX10_readItem_150 (by decide) ?_
        refine z_sub [1] rfl ?_
        exact w_X10_readItem_J158 S M q6 x0 h_x0 r hf
      refine z_tif hf (fun h7 hf => ?_) (fun h7 hf => ?_)
      · refine z_lookup (tgt := 132) S dX10_readItem_98 (by decide) (by rw [h7]; try rfl) (by decide) ?_
        refine z_aload_n S 1 dX10_readItem_132 rfl rfl ?_
        refine z_callVV (rc := r_X10_readPerson) [] S mo_X10_readPerson wd785 wd11 wd783 h_x0 (by decide) cl_8 rfl rfl (by decide) (z_room0 S M (by rfl) (by rfl)) rfl (Nat.le_of_ble_eq_true rfl) rfl dX10_readItem_133  (fun q => q) (fun q hq => m_X10_readPerson (xl x) E _ _ h_x0 q hq) hf (fun q8 hf => ?_)
        refine z_goto (tgt := 158) S dX10_readItem_136 (by decide) ?_
        refine z_sub [1] rfl ?_
        exact w_X10_readItem_J158 S M q8 x0 h_x0 r hf
      refine z_tif hf (fun h9 hf => ?_) (fun h9 hf => ?_)
      · refine z_lookup (tgt := 139) S dX10_readItem_98 (by decide) (by rw [h9]; try rfl) (by decide) ?_
        refine z_aload_n S 1 dX10_readItem_139 rfl rfl ?_
        refine z_callVV (rc := r_X10_readRoom) [] S mo_X10_readRoom wd793 wd13 wd791 h_x0 (by decide) cl_8 rfl rfl (by decide) (z_room0 S M (by rfl) (by rfl)) rfl (Nat.le_of_ble_eq_true rfl) rfl dX10_readItem_140  (fun q => q) (fun q hq => m_X10_readRoom (xl x) E _ _ h_x0 q hq) hf (fun q10 hf => ?_)
        refine z_goto (tgt := 158) S dX10_readItem_143 (by decide) ?_
        refine z_sub [1] rfl ?_
        exact w_X10_readItem_J158 S M q10 x0 h_x0 r hf
      refine z_lookup (tgt := 153) (off := 55) S dX10_readItem_98 (by decide) ((lv_osw h5 rfl).trans ((lv_osw h7 rfl).trans ((lv_osw h9 rfl).trans (rfl)))) (by decide) ?_
      refine z_aload_n S 1 dX10_readItem_153 rfl rfl ?_
      refine z_iload_n S 2 dX10_readItem_154 rfl rfl ?_
      refine z_callVV (rc := r_X10_readPlace) [.int x1] S mo_X10_readPlace wd801 wd15 wd799 h_x0 (by decide) cl_8 rfl rfl (by decide) (z_room0 S M (by rfl) (by rfl)) rfl (Nat.le_of_ble_eq_true rfl) rfl dX10_readItem_155  (fun q => q) (fun q hq => m_X10_readPlace (xl x) E _ _ _ h_x0 q hq) hf (fun q11 hf => ?_)
      refine z_sub [1] rfl ?_
      exact w_X10_readItem_J158 S M q11 x0 h_x0 r hf
    · refine z_aload_n S 1 dX10_readItem_87 rfl rfl ?_
      refine z_iconst (v := 1) S dX10_readItem_88 (by decide) ?_
      refine z_putI S cf_8 h_x0 19 (by decide) rfl rfl (by decide) rfl wd686 dX10_readItem_89 ?_
      exact z_vretI S M rfl dX10_readItem_92 hf
  · refine z_aload_n S 1 dX10_readItem_87 rfl rfl ?_
    refine z_iconst (v := 1) S dX10_readItem_88 (by decide) ?_
    refine z_putI S cf_8 h_x0 19 (by decide) rfl rfl (by decide) rfl wd686 dX10_readItem_89 ?_
    exact z_vretI S M rfl dX10_readItem_92 hf
def f_X10_readItem_J73 (P : PH) (x0 : Nat) (x1 : Int32) : Option PH :=
  f_X10_readItem_J74 P x0 x1 false
theorem w_X10_readItem_J73 {x : Fx} {E : Ev} (S : ZS x E r_X10_readItem cX10_readItem 3 RX10 none) (M : ZM x E) (P : PH) (x0 : Nat) (x1 : Int32) (h_x0 : ok x0 8 0) (r : PH) (hf : f_X10_readItem_J73 P x0 x1 = some r) : Wz x E 3 (QV E x r) P 73 [(0, .ref (ad E x0)), (1, .int x1)] [] := by
  unfold f_X10_readItem_J73 at hf
  refine z_iconst (v := 0) S dX10_readItem_73 (by decide) ?_
  exact w_X10_readItem_J74 S M P x0 x1 false h_x0 r hf
def f_X10_readItem (P : PH) (x0 : Nat) : Option PH :=
  (if (P.1 x0 18) = (112 : Int32) then (if (P.1 x0 20) = (6 : Int32) then f_X10_readItem_J74 P x0 (P.1 x0 18) true else f_X10_readItem_J74 P x0 (P.1 x0 18) false) else (if (P.1 x0 18) = (114 : Int32) then (if (P.1 x0 21) = (7 : Int32) then f_X10_readItem_J74 P x0 (P.1 x0 18) true else f_X10_readItem_J74 P x0 (P.1 x0 18) false) else (if (P.1 x0 18) = (120 : Int32) then (if ((15 : Int32) < 0 ∨ 46 ≤ (15 : Int32).toNatClampNeg) then none else (if (P.1 (P.2.2 x0 25) (15 : Int32).toNatClampNeg) = (10 : Int32) then f_X10_readItem_J74 P x0 (P.1 x0 18) true else f_X10_readItem_J73 P x0 (P.1 x0 18))) else f_X10_readItem_J73 P x0 (P.1 x0 18))))
theorem w_X10_readItem {x : Fx} {E : Ev} (S : ZS x E r_X10_readItem cX10_readItem 3 RX10 none) (M : ZM x E) (P : PH) (x0 : Nat) (h_x0 : ok x0 8 0) (r : PH) (hf : f_X10_readItem P x0 = some r) : Wz x E 3 (QV E x r) P 0 [(0, .ref (ad E x0))] [] := by
  unfold f_X10_readItem at hf
  refine z_aload_n S 0 dX10_readItem_0 rfl rfl ?_
  refine z_getI S cf_8 h_x0 18 (by decide) rfl wd685 dX10_readItem_1 ?_
  refine z_istore_n (lv' := [(1, .int (P.1 x0 18)), (0, .ref (ad E x0))]) S dX10_readItem_4 rfl (by decide) rfl ?_
  refine z_iload_n S 0 dX10_readItem_5 rfl rfl ?_
  refine z_bipush (v := 112) S dX10_readItem_6 (by decide) ?_
  refine z_icmp_ne (tgt := 28) S dX10_readItem_8 (by decide) hf (fun hf => ?_) (fun hf => ?_)
  · refine z_aload_n S 1 dX10_readItem_11 rfl rfl ?_
    refine z_getI S cf_8 h_x0 20 (by decide) rfl wd687 dX10_readItem_12 ?_
    refine z_bipush (v := 6) S dX10_readItem_15 (by decide) ?_
    refine z_icmp_ne (tgt := 24) S dX10_readItem_17 (by decide) hf (fun hf => ?_) (fun hf => ?_)
    · refine z_iconst (v := 1) S dX10_readItem_20 (by decide) ?_
      refine z_goto (tgt := 74) S dX10_readItem_21 (by decide) ?_
      refine z_sub [1, 0] rfl ?_
      exact w_X10_readItem_J74 S M P x0 (P.1 x0 18) true h_x0 r hf
    · refine z_iconst (v := 0) S dX10_readItem_24 (by decide) ?_
      refine z_goto (tgt := 74) S dX10_readItem_25 (by decide) ?_
      refine z_sub [1, 0] rfl ?_
      exact w_X10_readItem_J74 S M P x0 (P.1 x0 18) false h_x0 r hf
  · refine z_iload_n S 0 dX10_readItem_28 rfl rfl ?_
    refine z_bipush (v := 114) S dX10_readItem_29 (by decide) ?_
    refine z_icmp_ne (tgt := 51) S dX10_readItem_31 (by decide) hf (fun hf => ?_) (fun hf => ?_)
    · refine z_aload_n S 1 dX10_readItem_34 rfl rfl ?_
      refine z_getI S cf_8 h_x0 21 (by decide) rfl wd688 dX10_readItem_35 ?_
      refine z_bipush (v := 7) S dX10_readItem_38 (by decide) ?_
      refine z_icmp_ne (tgt := 47) S dX10_readItem_40 (by decide) hf (fun hf => ?_) (fun hf => ?_)
      · refine z_iconst (v := 1) S dX10_readItem_43 (by decide) ?_
        refine z_goto (tgt := 74) S dX10_readItem_44 (by decide) ?_
        refine z_sub [1, 0] rfl ?_
        exact w_X10_readItem_J74 S M P x0 (P.1 x0 18) true h_x0 r hf
      · refine z_iconst (v := 0) S dX10_readItem_47 (by decide) ?_
        refine z_goto (tgt := 74) S dX10_readItem_48 (by decide) ?_
        refine z_sub [1, 0] rfl ?_
        exact w_X10_readItem_J74 S M P x0 (P.1 x0 18) false h_x0 r hf
    · refine z_iload_n S 0 dX10_readItem_51 rfl rfl ?_
      refine z_bipush (v := 120) S dX10_readItem_52 (by decide) ?_
      refine z_icmp_ne (tgt := 73) S dX10_readItem_54 (by decide) hf (fun hf => ?_) (fun hf => ?_)
      · refine z_aload_n S 1 dX10_readItem_57 rfl rfl ?_
        refine z_getR (K' := 9) (n' := 46) S cf_8 h_x0 25 (by decide) rfl rfl rfl wd692 dX10_readItem_58 (fun h12 => ?_)
        refine z_bipush (v := 15) S dX10_readItem_61 (by decide) ?_
        refine z_iald S h12 dX10_readItem_63 hf (fun hf => ?_)
        refine z_bipush (v := 10) S dX10_readItem_64 (by decide) ?_
        refine z_icmp_ne (tgt := 73) S dX10_readItem_66 (by decide) hf (fun hf => ?_) (fun hf => ?_)
        · refine z_iconst (v := 1) S dX10_readItem_69 (by decide) ?_
          refine z_goto (tgt := 74) S dX10_readItem_70 (by decide) ?_
          refine z_sub [1, 0] rfl ?_
          exact w_X10_readItem_J74 S M P x0 (P.1 x0 18) true h_x0 r hf
        · refine z_sub [1, 0] rfl ?_
          exact w_X10_readItem_J73 S M P x0 (P.1 x0 18) h_x0 r hf
      · refine z_sub [1, 0] rfl ?_
        exact w_X10_readItem_J73 S M P x0 (P.1 x0 18) h_x0 r hf
theorem m_X10_readItem (l : Launch) (E : Ev) (P : PH) (x0 : Nat) (h_x0 : ok x0 8 0) (r : PH) (hf : f_X10_readItem P x0 = some r) : CtV l E yX10_readItem cX10_readItem 3 none r_X10_readItem [.ref (ad E x0)] P r :=
  z_body (own := RX10) (by decide +kernel) rfl (Nat.le_of_ble_eq_true rfl) rfl (fun x _ S M => w_X10_readItem S M P x0 h_x0 r hf)
-- yX10_house
theorem dX10_house_0 : decode cX10_house 0 = .ok (.aload_n 0, 1) := by decide +kernel
theorem dX10_house_1 : decode cX10_house 1 = .ok (.iconst 0, 1) := by decide +kernel
theorem dX10_house_2 : decode cX10_house 2 = .ok (.putfield 67, 3) := by decide +kernel
theorem dX10_house_5 : decode cX10_house 5 = .ok (.aload_n 0, 1) := by decide +kernel
theorem dX10_house_6 : decode cX10_house 6 = .ok (.iconst 0, 1) := by decide +kernel
theorem dX10_house_7 : decode cX10_house 7 = .ok (.putfield 87, 3) := by decide +kernel
theorem dX10_house_10 : decode cX10_house 10 = .ok (.aload_n 0, 1) := by decide +kernel
theorem dX10_house_11 : decode cX10_house 11 = .ok (.iconst 0, 1) := by decide +kernel
theorem dX10_house_12 : decode cX10_house 12 = .ok (.putfield 98, 3) := by decide +kernel
theorem dX10_house_15 : decode cX10_house 15 = .ok (.aload_n 0, 1) := by decide +kernel
theorem dX10_house_16 : decode cX10_house 16 = .ok (.iconst 0, 1) := by decide +kernel
theorem dX10_house_17 : decode cX10_house 17 = .ok (.putfield 101, 3) := by decide +kernel
theorem dX10_house_20 : decode cX10_house 20 = .ok (.iconst 0, 1) := by decide +kernel
theorem dX10_house_21 : decode cX10_house 21 = .ok (.istore_n 1, 1) := by decide +kernel
theorem dX10_house_22 : decode cX10_house 22 = .ok (.iload_n 1, 1) := by decide +kernel
theorem dX10_house_23 : decode cX10_house 23 = .ok (.bipush 46, 2) := by decide +kernel
theorem dX10_house_25 : decode cX10_house 25 = .ok (.if_icmp .ge 16, 3) := by decide +kernel
theorem dX10_house_28 : decode cX10_house 28 = .ok (.aload_n 0, 1) := by decide +kernel
theorem dX10_house_29 : decode cX10_house 29 = .ok (.getfield 47, 3) := by decide +kernel
theorem dX10_house_32 : decode cX10_house 32 = .ok (.iload_n 1, 1) := by decide +kernel
theorem dX10_house_33 : decode cX10_house 33 = .ok (.iconst 0, 1) := by decide +kernel
theorem dX10_house_34 : decode cX10_house 34 = .ok (.iastore, 1) := by decide +kernel
theorem dX10_house_35 : decode cX10_house 35 = .ok (.iinc 1 1, 3) := by decide +kernel
theorem dX10_house_38 : decode cX10_house 38 = .ok (.goto (-16), 3) := by decide +kernel
theorem dX10_house_41 : decode cX10_house 41 = .ok (.iconst 0, 1) := by decide +kernel
theorem dX10_house_42 : decode cX10_house 42 = .ok (.istore_n 1, 1) := by decide +kernel
theorem dX10_house_43 : decode cX10_house 43 = .ok (.iload_n 1, 1) := by decide +kernel
theorem dX10_house_44 : decode cX10_house 44 = .ok (.bipush 7, 2) := by decide +kernel
theorem dX10_house_46 : decode cX10_house 46 = .ok (.if_icmp .ge 16, 3) := by decide +kernel
theorem dX10_house_49 : decode cX10_house 49 = .ok (.aload_n 0, 1) := by decide +kernel
theorem dX10_house_50 : decode cX10_house 50 = .ok (.getfield 44, 3) := by decide +kernel
theorem dX10_house_53 : decode cX10_house 53 = .ok (.iload_n 1, 1) := by decide +kernel
theorem dX10_house_54 : decode cX10_house 54 = .ok (.iconst 0, 1) := by decide +kernel
theorem dX10_house_55 : decode cX10_house 55 = .ok (.iastore, 1) := by decide +kernel
theorem dX10_house_56 : decode cX10_house 56 = .ok (.iinc 1 1, 3) := by decide +kernel
theorem dX10_house_59 : decode cX10_house 59 = .ok (.goto (-16), 3) := by decide +kernel
theorem dX10_house_62 : decode cX10_house 62 = .ok (.iconst 0, 1) := by decide +kernel
theorem dX10_house_63 : decode cX10_house 63 = .ok (.istore_n 1, 1) := by decide +kernel
theorem dX10_house_64 : decode cX10_house 64 = .ok (.iload_n 1, 1) := by decide +kernel
theorem dX10_house_65 : decode cX10_house 65 = .ok (.bipush 6, 2) := by decide +kernel
theorem dX10_house_67 : decode cX10_house 67 = .ok (.if_icmp .ge 24, 3) := by decide +kernel
theorem dX10_house_70 : decode cX10_house 70 = .ok (.aload_n 0, 1) := by decide +kernel
theorem dX10_house_71 : decode cX10_house 71 = .ok (.getfield 38, 3) := by decide +kernel
theorem dX10_house_74 : decode cX10_house 74 = .ok (.iload_n 1, 1) := by decide +kernel
theorem dX10_house_75 : decode cX10_house 75 = .ok (.bipush (-9), 2) := by decide +kernel
theorem dX10_house_77 : decode cX10_house 77 = .ok (.iastore, 1) := by decide +kernel
theorem dX10_house_78 : decode cX10_house 78 = .ok (.aload_n 0, 1) := by decide +kernel
theorem dX10_house_79 : decode cX10_house 79 = .ok (.getfield 41, 3) := by decide +kernel
theorem dX10_house_82 : decode cX10_house 82 = .ok (.iload_n 1, 1) := by decide +kernel
theorem dX10_house_83 : decode cX10_house 83 = .ok (.iconst 0, 1) := by decide +kernel
theorem dX10_house_84 : decode cX10_house 84 = .ok (.iastore, 1) := by decide +kernel
theorem dX10_house_85 : decode cX10_house 85 = .ok (.iinc 1 1, 3) := by decide +kernel
theorem dX10_house_88 : decode cX10_house 88 = .ok (.goto (-24), 3) := by decide +kernel
theorem dX10_house_91 : decode cX10_house 91 = .ok (.iconst 0, 1) := by decide +kernel
theorem dX10_house_92 : decode cX10_house 92 = .ok (.istore_n 1, 1) := by decide +kernel
theorem dX10_house_93 : decode cX10_house 93 = .ok (.aload_n 0, 1) := by decide +kernel
theorem dX10_house_94 : decode cX10_house 94 = .ok (.invokevirtual 91, 3) := by decide +kernel
theorem dX10_house_97 : decode cX10_house 97 = .ok (.aload_n 0, 1) := by decide +kernel
theorem dX10_house_98 : decode cX10_house 98 = .ok (.getfield 80, 3) := by decide +kernel
theorem dX10_house_101 : decode cX10_house 101 = .ok (.ifCond .eq 20, 3) := by decide +kernel
theorem dX10_house_104 : decode cX10_house 104 = .ok (.aload_n 0, 1) := by decide +kernel
theorem dX10_house_105 : decode cX10_house 105 = .ok (.getfield 87, 3) := by decide +kernel
theorem dX10_house_108 : decode cX10_house 108 = .ok (.ifCond .ne 13, 3) := by decide +kernel
theorem dX10_house_111 : decode cX10_house 111 = .ok (.aload_n 0, 1) := by decide +kernel
theorem dX10_house_112 : decode cX10_house 112 = .ok (.invokevirtual 121, 3) := by decide +kernel
theorem dX10_house_115 : decode cX10_house 115 = .ok (.iinc 1 1, 3) := by decide +kernel
theorem dX10_house_118 : decode cX10_house 118 = .ok (.goto (-21), 3) := by decide +kernel
theorem dX10_house_121 : decode cX10_house 121 = .ok (.aload_n 0, 1) := by decide +kernel
theorem dX10_house_122 : decode cX10_house 122 = .ok (.getfield 87, 3) := by decide +kernel
theorem dX10_house_125 : decode cX10_house 125 = .ok (.ifCond .eq 11, 3) := by decide +kernel
theorem dX10_house_128 : decode cX10_house 128 = .ok (.bipush (-10), 2) := by decide +kernel
theorem dX10_house_130 : decode cX10_house 130 = .ok (.aload_n 0, 1) := by decide +kernel
theorem dX10_house_131 : decode cX10_house 131 = .ok (.getfield 74, 3) := by decide +kernel
theorem dX10_house_134 : decode cX10_house 134 = .ok (.isub, 1) := by decide +kernel
theorem dX10_house_135 : decode cX10_house 135 = .ok (.ireturn, 1) := by decide +kernel
theorem dX10_house_136 : decode cX10_house 136 = .ok (.aload_n 0, 1) := by decide +kernel
theorem dX10_house_137 : decode cX10_house 137 = .ok (.aload_n 0, 1) := by decide +kernel
theorem dX10_house_138 : decode cX10_house 138 = .ok (.getfield 98, 3) := by decide +kernel
theorem dX10_house_141 : decode cX10_house 141 = .ok (.putfield 53, 3) := by decide +kernel
theorem dX10_house_144 : decode cX10_house 144 = .ok (.aload_n 0, 1) := by decide +kernel
theorem dX10_house_145 : decode cX10_house 145 = .ok (.aload_n 0, 1) := by decide +kernel
theorem dX10_house_146 : decode cX10_house 146 = .ok (.getfield 101, 3) := by decide +kernel
theorem dX10_house_149 : decode cX10_house 149 = .ok (.putfield 61, 3) := by decide +kernel
theorem dX10_house_152 : decode cX10_house 152 = .ok (.iconst 0, 1) := by decide +kernel
theorem dX10_house_153 : decode cX10_house 153 = .ok (.istore_n 2, 1) := by decide +kernel
theorem dX10_house_154 : decode cX10_house 154 = .ok (.iload_n 2, 1) := by decide +kernel
theorem dX10_house_155 : decode cX10_house 155 = .ok (.bipush 7, 2) := by decide +kernel
theorem dX10_house_157 : decode cX10_house 157 = .ok (.if_icmp .ge 21, 3) := by decide +kernel
theorem dX10_house_160 : decode cX10_house 160 = .ok (.aload_n 0, 1) := by decide +kernel
theorem dX10_house_161 : decode cX10_house 161 = .ok (.getfield 16, 3) := by decide +kernel
theorem dX10_house_164 : decode cX10_house 164 = .ok (.iload_n 2, 1) := by decide +kernel
theorem dX10_house_165 : decode cX10_house 165 = .ok (.aload_n 0, 1) := by decide +kernel
theorem dX10_house_166 : decode cX10_house 166 = .ok (.getfield 44, 3) := by decide +kernel
theorem dX10_house_169 : decode cX10_house 169 = .ok (.iload_n 2, 1) := by decide +kernel
theorem dX10_house_170 : decode cX10_house 170 = .ok (.iaload, 1) := by decide +kernel
theorem dX10_house_171 : decode cX10_house 171 = .ok (.iastore, 1) := by decide +kernel
theorem dX10_house_172 : decode cX10_house 172 = .ok (.iinc 2 1, 3) := by decide +kernel
theorem dX10_house_175 : decode cX10_house 175 = .ok (.goto (-21), 3) := by decide +kernel
theorem dX10_house_178 : decode cX10_house 178 = .ok (.iconst 0, 1) := by decide +kernel
theorem dX10_house_179 : decode cX10_house 179 = .ok (.istore_n 2, 1) := by decide +kernel
theorem dX10_house_180 : decode cX10_house 180 = .ok (.iload_n 2, 1) := by decide +kernel
theorem dX10_house_181 : decode cX10_house 181 = .ok (.bipush 6, 2) := by decide +kernel
theorem dX10_house_183 : decode cX10_house 183 = .ok (.if_icmp .ge 33, 3) := by decide +kernel
theorem dX10_house_186 : decode cX10_house 186 = .ok (.aload_n 0, 1) := by decide +kernel
theorem dX10_house_187 : decode cX10_house 187 = .ok (.getfield 7, 3) := by decide +kernel
theorem dX10_house_190 : decode cX10_house 190 = .ok (.iload_n 2, 1) := by decide +kernel
theorem dX10_house_191 : decode cX10_house 191 = .ok (.aload_n 0, 1) := by decide +kernel
theorem dX10_house_192 : decode cX10_house 192 = .ok (.getfield 38, 3) := by decide +kernel
theorem dX10_house_195 : decode cX10_house 195 = .ok (.iload_n 2, 1) := by decide +kernel
theorem dX10_house_196 : decode cX10_house 196 = .ok (.iaload, 1) := by decide +kernel
theorem dX10_house_197 : decode cX10_house 197 = .ok (.iastore, 1) := by decide +kernel
theorem dX10_house_198 : decode cX10_house 198 = .ok (.aload_n 0, 1) := by decide +kernel
theorem dX10_house_199 : decode cX10_house 199 = .ok (.getfield 13, 3) := by decide +kernel
theorem dX10_house_202 : decode cX10_house 202 = .ok (.iload_n 2, 1) := by decide +kernel
theorem dX10_house_203 : decode cX10_house 203 = .ok (.aload_n 0, 1) := by decide +kernel
theorem dX10_house_204 : decode cX10_house 204 = .ok (.getfield 41, 3) := by decide +kernel
theorem dX10_house_207 : decode cX10_house 207 = .ok (.iload_n 2, 1) := by decide +kernel
theorem dX10_house_208 : decode cX10_house 208 = .ok (.iaload, 1) := by decide +kernel
theorem dX10_house_209 : decode cX10_house 209 = .ok (.iastore, 1) := by decide +kernel
theorem dX10_house_210 : decode cX10_house 210 = .ok (.iinc 2 1, 3) := by decide +kernel
theorem dX10_house_213 : decode cX10_house 213 = .ok (.goto (-33), 3) := by decide +kernel
theorem dX10_house_216 : decode cX10_house 216 = .ok (.aload_n 0, 1) := by decide +kernel
theorem dX10_house_217 : decode cX10_house 217 = .ok (.getfield 19, 3) := by decide +kernel
theorem dX10_house_220 : decode cX10_house 220 = .ok (.iconst 0, 1) := by decide +kernel
theorem dX10_house_221 : decode cX10_house 221 = .ok (.aload_n 0, 1) := by decide +kernel
theorem dX10_house_222 : decode cX10_house 222 = .ok (.getfield 47, 3) := by decide +kernel
theorem dX10_house_225 : decode cX10_house 225 = .ok (.iconst 0, 1) := by decide +kernel
theorem dX10_house_226 : decode cX10_house 226 = .ok (.invokestatic 124, 3) := by decide +kernel
theorem dX10_house_229 : decode cX10_house 229 = .ok (.aload_n 0, 1) := by decide +kernel
theorem dX10_house_230 : decode cX10_house 230 = .ok (.iconst 0, 1) := by decide +kernel
theorem dX10_house_231 : decode cX10_house 231 = .ok (.putfield 128, 3) := by decide +kernel
theorem dX10_house_234 : decode cX10_house 234 = .ok (.aload_n 0, 1) := by decide +kernel
theorem dX10_house_235 : decode cX10_house 235 = .ok (.iconst 0, 1) := by decide +kernel
theorem dX10_house_236 : decode cX10_house 236 = .ok (.putfield 131, 3) := by decide +kernel
theorem dX10_house_239 : decode cX10_house 239 = .ok (.aload_n 0, 1) := by decide +kernel
theorem dX10_house_240 : decode cX10_house 240 = .ok (.getfield 28, 3) := by decide +kernel
theorem dX10_house_243 : decode cX10_house 243 = .ok (.iconst 0, 1) := by decide +kernel
theorem dX10_house_244 : decode cX10_house 244 = .ok (.iconst 0, 1) := by decide +kernel
theorem dX10_house_245 : decode cX10_house 245 = .ok (.bastore, 1) := by decide +kernel
theorem dX10_house_246 : decode cX10_house 246 = .ok (.aload_n 0, 1) := by decide +kernel
theorem dX10_house_247 : decode cX10_house 247 = .ok (.getfield 28, 3) := by decide +kernel
theorem dX10_house_250 : decode cX10_house 250 = .ok (.iconst 1, 1) := by decide +kernel
theorem dX10_house_251 : decode cX10_house 251 = .ok (.iconst 0, 1) := by decide +kernel
theorem dX10_house_252 : decode cX10_house 252 = .ok (.bastore, 1) := by decide +kernel
theorem dX10_house_253 : decode cX10_house 253 = .ok (.aload_n 0, 1) := by decide +kernel
theorem dX10_house_254 : decode cX10_house 254 = .ok (.iconst 0, 1) := by decide +kernel
theorem dX10_house_255 : decode cX10_house 255 = .ok (.putfield 64, 3) := by decide +kernel
theorem dX10_house_258 : decode cX10_house 258 = .ok (.iload_n 1, 1) := by decide +kernel
theorem dX10_house_259 : decode cX10_house 259 = .ok (.ireturn, 1) := by decide +kernel
def r_X10_house : Room := { frames := 6, cells := 0, slots := 0, locals := 135 }
def f_X10_house_L180 (K : PH → Option (Int32 × PH)) (x0 : Nat) (x1 : Int32) : Nat → PH → Int32 → Option (Int32 × PH)
  | 0, _, _ => none
  | n + 1, P, x2 =>
    (if (6 : Int32) ≤ x2 then K P else (if (x2 < 0 ∨ 6 ≤ x2.toNatClampNeg) then none else (if (x2 < 0 ∨ 6 ≤ x2.toNatClampNeg) then none else ((some (sI P (P.2.2 x0 2) x2.toNatClampNeg (P.1 (P.2.2 x0 22) x2.toNatClampNeg))).bind fun P3 => (if (x2 < 0 ∨ 6 ≤ x2.toNatClampNeg) then none else (if (x2 < 0 ∨ 6 ≤ x2.toNatClampNeg) then none else ((some (sI P3 (P3.2.2 x0 3) x2.toNatClampNeg (P3.1 (P3.2.2 x0 23) x2.toNatClampNeg))).bind fun P6 => f_X10_house_L180 K x0 x1 n P6 (x2 + (1 : Int32)))))))))
theorem w_X10_house_L180 {x : Fx} {E : Ev} (S : ZS x E r_X10_house cX10_house 3 RX10 (some .int)) (M : ZM x E) {K : PH → Option (Int32 × PH)} (x0 : Nat) (x1 : Int32) (h_x0 : ok x0 8 0) (r : (Int32 × PH)) (hK : ∀ (P1 : PH) , K P1 = some r → Wz x E 3 (QI E x r.1 r.2) P1 216 [(0, .ref (ad E x0)), (1, .int x1)] []) : ∀ (n : Nat) (P : PH) (x2 : Int32), f_X10_house_L180 K x0 x1 n P x2 = some r → Wz x E 3 (QI E x r.1 r.2) P 180 [(0, .ref (ad E x0)), (1, .int x1), (2, .int x2)] [] := by
  intro n
  induction n with
  | zero => intro P x2 hf; cases hf
  | succ n ih =>
    intro P x2 hf
    unfold f_X10_house_L180 at hf
    refine z_iload_n S 2 dX10_house_180 rfl rfl ?_
    refine z_bipush (v := 6) S dX10_house_181 (by decide) ?_
    refine z_icmp_ge (tgt := 216) S dX10_house_183 (by decide) hf (fun hf => ?_) (fun hf => ?_)
    · refine z_sub [0, 1] rfl ?_
      exact hK P hf
    · refine z_aload_n S 0 dX10_house_186 rfl rfl ?_
      refine z_getR (K' := 9) (n' := 6) S cf_8 h_x0 2 (by decide) rfl rfl rfl wd669 dX10_house_187 (fun h1 => ?_)
      refine z_iload_n S 2 dX10_house_190 rfl rfl ?_
      refine z_aload_n S 0 dX10_house_191 rfl rfl ?_
      refine z_getR (K' := 9) (n' := 6) S cf_8 h_x0 22 (by decide) rfl rfl rfl wd689 dX10_house_192 (fun h2 => ?_)
      refine z_iload_n S 2 dX10_house_195 rfl rfl ?_
      refine z_iald S h2 dX10_house_196 hf (fun hf => ?_)
      refine z_iast S h1 dX10_house_197 hf (fun hf => ?_)
      refine z_nmP hf (fun P3 hf => ?_)
      refine z_aload_n S 0 dX10_house_198 rfl rfl ?_
      refine z_getR (K' := 9) (n' := 6) S cf_8 h_x0 3 (by decide) rfl rfl rfl wd670 dX10_house_199 (fun h4 => ?_)
      refine z_iload_n S 2 dX10_house_202 rfl rfl ?_
      refine z_aload_n S 0 dX10_house_203 rfl rfl ?_
      refine z_getR (K' := 9) (n' := 6) S cf_8 h_x0 23 (by decide) rfl rfl rfl wd690 dX10_house_204 (fun h5 => ?_)
      refine z_iload_n S 2 dX10_house_207 rfl rfl ?_
      refine z_iald S h5 dX10_house_208 hf (fun hf => ?_)
      refine z_iast S h4 dX10_house_209 hf (fun hf => ?_)
      refine z_nmP hf (fun P6 hf => ?_)
      refine z_iinc (v := (x2 + (1 : Int32))) (lv' := [(2, .int (x2 + (1 : Int32))), (0, .ref (ad E x0)), (1, .int x1)]) S 2 dX10_house_210 rfl (by rfl) (by decide) rfl ?_
      refine z_goto (tgt := 180) S dX10_house_213 (by decide) ?_
      refine z_sub [1, 2, 0] rfl ?_
      exact ih P6 (x2 + (1 : Int32)) hf
def f_X10_house_L154 (K : PH → Option (Int32 × PH)) (x0 : Nat) (x1 : Int32) : Nat → PH → Int32 → Option (Int32 × PH)
  | 0, _, _ => none
  | n + 1, P, x2 =>
    (if (7 : Int32) ≤ x2 then K P else (if (x2 < 0 ∨ 7 ≤ x2.toNatClampNeg) then none else (if (x2 < 0 ∨ 7 ≤ x2.toNatClampNeg) then none else ((some (sI P (P.2.2 x0 4) x2.toNatClampNeg (P.1 (P.2.2 x0 24) x2.toNatClampNeg))).bind fun P9 => f_X10_house_L154 K x0 x1 n P9 (x2 + (1 : Int32))))))
theorem w_X10_house_L154 {x : Fx} {E : Ev} (S : ZS x E r_X10_house cX10_house 3 RX10 (some .int)) (M : ZM x E) {K : PH → Option (Int32 × PH)} (x0 : Nat) (x1 : Int32) (h_x0 : ok x0 8 0) (r : (Int32 × PH)) (hK : ∀ (P1 : PH) , K P1 = some r → Wz x E 3 (QI E x r.1 r.2) P1 178 [(0, .ref (ad E x0)), (1, .int x1)] []) : ∀ (n : Nat) (P : PH) (x2 : Int32), f_X10_house_L154 K x0 x1 n P x2 = some r → Wz x E 3 (QI E x r.1 r.2) P 154 [(0, .ref (ad E x0)), (1, .int x1), (2, .int x2)] [] := by
  intro n
  induction n with
  | zero => intro P x2 hf; cases hf
  | succ n ih =>
    intro P x2 hf
    unfold f_X10_house_L154 at hf
    refine z_iload_n S 2 dX10_house_154 rfl rfl ?_
    refine z_bipush (v := 7) S dX10_house_155 (by decide) ?_
    refine z_icmp_ge (tgt := 178) S dX10_house_157 (by decide) hf (fun hf => ?_) (fun hf => ?_)
    · refine z_sub [0, 1] rfl ?_
      exact hK P hf
    · refine z_aload_n S 0 dX10_house_160 rfl rfl ?_
      refine z_getR (K' := 9) (n' := 7) S cf_8 h_x0 4 (by decide) rfl rfl rfl wd671 dX10_house_161 (fun h7 => ?_)
      refine z_iload_n S 2 dX10_house_164 rfl rfl ?_
      refine z_aload_n S 0 dX10_house_165 rfl rfl ?_
      refine z_getR (K' := 9) (n' := 7) S cf_8 h_x0 24 (by decide) rfl rfl rfl wd691 dX10_house_166 (fun h8 => ?_)
      refine z_iload_n S 2 dX10_house_169 rfl rfl ?_
      refine z_iald S h8 dX10_house_170 hf (fun hf => ?_)
      refine z_iast S h7 dX10_house_171 hf (fun hf => ?_)
      refine z_nmP hf (fun P9 hf => ?_)
      refine z_iinc (v := (x2 + (1 : Int32))) (lv' := [(2, .int (x2 + (1 : Int32))), (0, .ref (ad E x0)), (1, .int x1)]) S 2 dX10_house_172 rfl (by rfl) (by decide) rfl ?_
      refine z_goto (tgt := 154) S dX10_house_175 (by decide) ?_
      refine z_sub [1, 2, 0] rfl ?_
      exact ih P9 (x2 + (1 : Int32)) hf
def f_X10_house_J121 (P : PH) (x0 : Nat) (x1 : Int32) : Option (Int32 × PH) :=
  (if (P.1 x0 19) = 0 then ((some (sI (sI P x0 0 (P.1 x0 20)) x0 1 ((sI P x0 0 (P.1 x0 20)).1 x0 21))).bind fun P10 => f_X10_house_L154 (fun P11 => f_X10_house_L180 (fun P12 => ((f_X10_copy 46 46 P12 (P12.2.2 x0 5) (0 : Int32) (P12.2.2 x0 25) (0 : Int32)).bind fun q15 => ((some (sI (sI q15 x0 7 (0 : Int32)) x0 10 (0 : Int32))).bind fun P16 => (if ((0 : Int32) < 0 ∨ 2 ≤ (0 : Int32).toNatClampNeg) then none else ((some (sI P16 (P16.2.2 x0 9) (0 : Int32).toNatClampNeg (0 : Int32))).bind fun P18 => (if ((1 : Int32) < 0 ∨ 2 ≤ (1 : Int32).toNatClampNeg) then none else ((some (sI P18 (P18.2.2 x0 9) (1 : Int32).toNatClampNeg (0 : Int32))).bind fun P20 => some (x1, (sI P20 x0 14 (0 : Int32)))))))))) x0 x1 1000 P11 (0 : Int32)) x0 x1 1000 P10 (0 : Int32)) else some (((-10 : Int32) - (P.1 x0 16)), P))
theorem w_X10_house_J121 {x : Fx} {E : Ev} (S : ZS x E r_X10_house cX10_house 3 RX10 (some .int)) (M : ZM x E) (P : PH) (x0 : Nat) (x1 : Int32) (h_x0 : ok x0 8 0) (r : (Int32 × PH)) (hf : f_X10_house_J121 P x0 x1 = some r) : Wz x E 3 (QI E x r.1 r.2) P 121 [(0, .ref (ad E x0)), (1, .int x1)] [] := by
  unfold f_X10_house_J121 at hf
  refine z_aload_n S 0 dX10_house_121 rfl rfl ?_
  refine z_getI S cf_8 h_x0 19 (by decide) rfl wd686 dX10_house_122 ?_
  refine z_if_eq (tgt := 136) S dX10_house_125 (by decide) hf (fun hf => ?_) (fun hf => ?_)
  · refine z_aload_n S 0 dX10_house_136 rfl rfl ?_
    refine z_aload_n S 0 dX10_house_137 rfl rfl ?_
    refine z_getI S cf_8 h_x0 20 (by decide) rfl wd687 dX10_house_138 ?_
    refine z_putI S cf_8 h_x0 0 (by decide) rfl rfl rfl rfl wd667 dX10_house_141 ?_
    refine z_aload_n S 0 dX10_house_144 rfl rfl ?_
    refine z_aload_n S 0 dX10_house_145 rfl rfl ?_
    refine z_getI S cf_8 h_x0 21 (by decide) rfl wd688 dX10_house_146 ?_
    refine z_putI S cf_8 h_x0 1 (by decide) rfl rfl rfl rfl wd668 dX10_house_149 ?_
    refine z_nmP hf (fun P10 hf => ?_)
    refine z_iconst (v := 0) S dX10_house_152 (by decide) ?_
    refine z_istore_n (lv' := [(2, .int (0 : Int32)), (0, .ref (ad E x0)), (1, .int x1)]) S dX10_house_153 rfl (by decide) rfl ?_
    refine z_sub [1, 2, 0] rfl ?_
    refine w_X10_house_L154 S M x0 x1 h_x0 r (fun P11 hf => ?_) 1000 P10 (0 : Int32) hf
    refine z_iconst (v := 0) S dX10_house_178 (by decide) ?_
    refine z_istore_n (lv' := [(2, .int (0 : Int32)), (0, .ref (ad E x0)), (1, .int x1)]) S dX10_house_179 rfl (by decide) rfl ?_
    refine z_sub [1, 2, 0] rfl ?_
    refine w_X10_house_L180 S M x0 x1 h_x0 r (fun P12 hf => ?_) 1000 P11 (0 : Int32) hf
    refine z_aload_n S 0 dX10_house_216 rfl rfl ?_
    refine z_getR (K' := 9) (n' := 46) S cf_8 h_x0 5 (by decide) rfl rfl rfl wd672 dX10_house_217 (fun h13 => ?_)
    refine z_iconst (v := 0) S dX10_house_220 (by decide) ?_
    refine z_aload_n S 0 dX10_house_221 rfl rfl ?_
    refine z_getR (K' := 9) (n' := 46) S cf_8 h_x0 25 (by decide) rfl rfl rfl wd692 dX10_house_222 (fun h14 => ?_)
    refine z_iconst (v := 0) S dX10_house_225 (by decide) ?_
    refine z_callSV (rc := r_X10_copy) [.ref (ad E (P12.2.2 x0 5)), .int (0 : Int32), .ref (ad E (P12.2.2 x0 25)), .int (0 : Int32)] S mo_X10_copy wd807 wd806 rfl rfl (by decide) (z_room0 S M (by rfl) (by rfl)) rfl (Nat.le_of_ble_eq_true rfl) rfl dX10_house_226  (fun q => q) (fun q hq => m_X10_copy (xl x) E _ _ _ _ _ _ _ h13 h14 q hq) hf (fun q15 hf => ?_)
    refine z_aload_n S 0 dX10_house_229 rfl rfl ?_
    refine z_iconst (v := 0) S dX10_house_230 (by decide) ?_
    refine z_putI S cf_8 h_x0 7 (by decide) rfl rfl rfl rfl wd674 dX10_house_231 ?_
    refine z_aload_n S 0 dX10_house_234 rfl rfl ?_
    refine z_iconst (v := 0) S dX10_house_235 (by decide) ?_
    refine z_putI S cf_8 h_x0 10 (by decide) rfl rfl rfl rfl wd677 dX10_house_236 ?_
    refine z_nmP hf (fun P16 hf => ?_)
    refine z_aload_n S 0 dX10_house_239 rfl rfl ?_
    refine z_getR (K' := 10) (n' := 2) S cf_8 h_x0 9 (by decide) rfl rfl rfl wd676 dX10_house_240 (fun h17 => ?_)
    refine z_iconst (v := 0) S dX10_house_243 (by decide) ?_
    refine z_iconst (v := 0) S dX10_house_244 (by decide) ?_
    refine z_bast S h17 (by decide) dX10_house_245 hf (fun hf => ?_)
    refine z_nmP hf (fun P18 hf => ?_)
    refine z_aload_n S 0 dX10_house_246 rfl rfl ?_
    refine z_getR (K' := 10) (n' := 2) S cf_8 h_x0 9 (by decide) rfl rfl rfl wd676 dX10_house_247 (fun h19 => ?_)
    refine z_iconst (v := 1) S dX10_house_250 (by decide) ?_
    refine z_iconst (v := 0) S dX10_house_251 (by decide) ?_
    refine z_bast S h19 (by decide) dX10_house_252 hf (fun hf => ?_)
    refine z_nmP hf (fun P20 hf => ?_)
    refine z_aload_n S 0 dX10_house_253 rfl rfl ?_
    refine z_iconst (v := 0) S dX10_house_254 (by decide) ?_
    refine z_putI S cf_8 h_x0 14 (by decide) rfl rfl rfl rfl wd681 dX10_house_255 ?_
    refine z_iload_n S 1 dX10_house_258 rfl rfl ?_
    exact z_iretI (v := x1) S M rfl dX10_house_259 hf
  · refine z_bipush (v := (-10 : Int32)) S dX10_house_128 (by decide) ?_
    refine z_aload_n S 0 dX10_house_130 rfl rfl ?_
    refine z_getI S cf_8 h_x0 16 (by decide) rfl wd683 dX10_house_131 ?_
    refine z_isub S dX10_house_134 ?_
    exact z_iretI (v := ((-10 : Int32) - (P.1 x0 16))) S M rfl dX10_house_135 hf
def f_X10_house_L97 (K : PH → Int32 → Option (Int32 × PH)) (x0 : Nat) : Nat → PH → Int32 → Option (Int32 × PH)
  | 0, _, _ => none
  | n + 1, P, x1 =>
    (if (P.1 x0 17) = 0 then K P x1 else (if (P.1 x0 19) = 0 then ((f_X10_readItem P x0).bind fun q21 => f_X10_house_L97 K x0 n q21 (x1 + (1 : Int32))) else K P x1))
theorem w_X10_house_L97 {x : Fx} {E : Ev} (S : ZS x E r_X10_house cX10_house 3 RX10 (some .int)) (M : ZM x E) {K : PH → Int32 → Option (Int32 × PH)} (x0 : Nat) (h_x0 : ok x0 8 0) (r : (Int32 × PH)) (hK : ∀ (P1 : PH) (y1 : Int32), K P1 y1 = some r → Wz x E 3 (QI E x r.1 r.2) P1 121 [(0, .ref (ad E x0)), (1, .int y1)] []) : ∀ (n : Nat) (P : PH) (x1 : Int32), f_X10_house_L97 K x0 n P x1 = some r → Wz x E 3 (QI E x r.1 r.2) P 97 [(0, .ref (ad E x0)), (1, .int x1)] [] := by
  intro n
  induction n with
  | zero => intro P x1 hf; cases hf
  | succ n ih =>
    intro P x1 hf
    unfold f_X10_house_L97 at hf
    refine z_aload_n S 0 dX10_house_97 rfl rfl ?_
    refine z_getI S cf_8 h_x0 17 (by decide) rfl wd684 dX10_house_98 ?_
    refine z_if_eq (tgt := 121) S dX10_house_101 (by decide) hf (fun hf => ?_) (fun hf => ?_)
    · exact hK P x1 hf
    · refine z_aload_n S 0 dX10_house_104 rfl rfl ?_
      refine z_getI S cf_8 h_x0 19 (by decide) rfl wd686 dX10_house_105 ?_
      refine z_if_ne (tgt := 121) S dX10_house_108 (by decide) hf (fun hf => ?_) (fun hf => ?_)
      · refine z_aload_n S 0 dX10_house_111 rfl rfl ?_
        refine z_callVV (rc := r_X10_readItem) [] S mo_X10_readItem wd781 wd10 wd779 h_x0 (by decide) cl_8 rfl rfl (by decide) (z_room0 S M (by rfl) (by rfl)) rfl (Nat.le_of_ble_eq_true rfl) rfl dX10_house_112  (fun q => q) (fun q hq => m_X10_readItem (xl x) E _ _ h_x0 q hq) hf (fun q21 hf => ?_)
        refine z_iinc (v := (x1 + (1 : Int32))) (lv' := [(1, .int (x1 + (1 : Int32))), (0, .ref (ad E x0))]) S 1 dX10_house_115 rfl (by rfl) (by decide) rfl ?_
        refine z_goto (tgt := 97) S dX10_house_118 (by decide) ?_
        refine z_sub [1, 0] rfl ?_
        exact ih q21 (x1 + (1 : Int32)) hf
      · exact hK P x1 hf
def f_X10_house_L64 (K : PH → Option (Int32 × PH)) (x0 : Nat) : Nat → PH → Int32 → Option (Int32 × PH)
  | 0, _, _ => none
  | n + 1, P, x1 =>
    (if (6 : Int32) ≤ x1 then K P else (if (x1 < 0 ∨ 6 ≤ x1.toNatClampNeg) then none else ((some (sI P (P.2.2 x0 22) x1.toNatClampNeg (-9 : Int32))).bind fun P23 => (if (x1 < 0 ∨ 6 ≤ x1.toNatClampNeg) then none else ((some (sI P23 (P23.2.2 x0 23) x1.toNatClampNeg (0 : Int32))).bind fun P25 => f_X10_house_L64 K x0 n P25 (x1 + (1 : Int32)))))))
theorem w_X10_house_L64 {x : Fx} {E : Ev} (S : ZS x E r_X10_house cX10_house 3 RX10 (some .int)) (M : ZM x E) {K : PH → Option (Int32 × PH)} (x0 : Nat) (h_x0 : ok x0 8 0) (r : (Int32 × PH)) (hK : ∀ (P1 : PH) , K P1 = some r → Wz x E 3 (QI E x r.1 r.2) P1 91 [(0, .ref (ad E x0))] []) : ∀ (n : Nat) (P : PH) (x1 : Int32), f_X10_house_L64 K x0 n P x1 = some r → Wz x E 3 (QI E x r.1 r.2) P 64 [(0, .ref (ad E x0)), (1, .int x1)] [] := by
  intro n
  induction n with
  | zero => intro P x1 hf; cases hf
  | succ n ih =>
    intro P x1 hf
    unfold f_X10_house_L64 at hf
    refine z_iload_n S 1 dX10_house_64 rfl rfl ?_
    refine z_bipush (v := 6) S dX10_house_65 (by decide) ?_
    refine z_icmp_ge (tgt := 91) S dX10_house_67 (by decide) hf (fun hf => ?_) (fun hf => ?_)
    · refine z_sub [0] rfl ?_
      exact hK P hf
    · refine z_aload_n S 0 dX10_house_70 rfl rfl ?_
      refine z_getR (K' := 9) (n' := 6) S cf_8 h_x0 22 (by decide) rfl rfl rfl wd689 dX10_house_71 (fun h22 => ?_)
      refine z_iload_n S 1 dX10_house_74 rfl rfl ?_
      refine z_bipush (v := (-9 : Int32)) S dX10_house_75 (by decide) ?_
      refine z_iast S h22 dX10_house_77 hf (fun hf => ?_)
      refine z_nmP hf (fun P23 hf => ?_)
      refine z_aload_n S 0 dX10_house_78 rfl rfl ?_
      refine z_getR (K' := 9) (n' := 6) S cf_8 h_x0 23 (by decide) rfl rfl rfl wd690 dX10_house_79 (fun h24 => ?_)
      refine z_iload_n S 1 dX10_house_82 rfl rfl ?_
      refine z_iconst (v := 0) S dX10_house_83 (by decide) ?_
      refine z_iast S h24 dX10_house_84 hf (fun hf => ?_)
      refine z_nmP hf (fun P25 hf => ?_)
      refine z_iinc (v := (x1 + (1 : Int32))) (lv' := [(1, .int (x1 + (1 : Int32))), (0, .ref (ad E x0))]) S 1 dX10_house_85 rfl (by rfl) (by decide) rfl ?_
      refine z_goto (tgt := 64) S dX10_house_88 (by decide) ?_
      refine z_sub [1, 0] rfl ?_
      exact ih P25 (x1 + (1 : Int32)) hf
def f_X10_house_L43 (K : PH → Option (Int32 × PH)) (x0 : Nat) : Nat → PH → Int32 → Option (Int32 × PH)
  | 0, _, _ => none
  | n + 1, P, x1 =>
    (if (7 : Int32) ≤ x1 then K P else (if (x1 < 0 ∨ 7 ≤ x1.toNatClampNeg) then none else ((some (sI P (P.2.2 x0 24) x1.toNatClampNeg (0 : Int32))).bind fun P27 => f_X10_house_L43 K x0 n P27 (x1 + (1 : Int32)))))
theorem w_X10_house_L43 {x : Fx} {E : Ev} (S : ZS x E r_X10_house cX10_house 3 RX10 (some .int)) (M : ZM x E) {K : PH → Option (Int32 × PH)} (x0 : Nat) (h_x0 : ok x0 8 0) (r : (Int32 × PH)) (hK : ∀ (P1 : PH) , K P1 = some r → Wz x E 3 (QI E x r.1 r.2) P1 62 [(0, .ref (ad E x0))] []) : ∀ (n : Nat) (P : PH) (x1 : Int32), f_X10_house_L43 K x0 n P x1 = some r → Wz x E 3 (QI E x r.1 r.2) P 43 [(0, .ref (ad E x0)), (1, .int x1)] [] := by
  intro n
  induction n with
  | zero => intro P x1 hf; cases hf
  | succ n ih =>
    intro P x1 hf
    unfold f_X10_house_L43 at hf
    refine z_iload_n S 1 dX10_house_43 rfl rfl ?_
    refine z_bipush (v := 7) S dX10_house_44 (by decide) ?_
    refine z_icmp_ge (tgt := 62) S dX10_house_46 (by decide) hf (fun hf => ?_) (fun hf => ?_)
    · refine z_sub [0] rfl ?_
      exact hK P hf
    · refine z_aload_n S 0 dX10_house_49 rfl rfl ?_
      refine z_getR (K' := 9) (n' := 7) S cf_8 h_x0 24 (by decide) rfl rfl rfl wd691 dX10_house_50 (fun h26 => ?_)
      refine z_iload_n S 1 dX10_house_53 rfl rfl ?_
      refine z_iconst (v := 0) S dX10_house_54 (by decide) ?_
      refine z_iast S h26 dX10_house_55 hf (fun hf => ?_)
      refine z_nmP hf (fun P27 hf => ?_)
      refine z_iinc (v := (x1 + (1 : Int32))) (lv' := [(1, .int (x1 + (1 : Int32))), (0, .ref (ad E x0))]) S 1 dX10_house_56 rfl (by rfl) (by decide) rfl ?_
      refine z_goto (tgt := 43) S dX10_house_59 (by decide) ?_
      refine z_sub [1, 0] rfl ?_
      exact ih P27 (x1 + (1 : Int32)) hf
def f_X10_house_L22 (K : PH → Option (Int32 × PH)) (x0 : Nat) : Nat → PH → Int32 → Option (Int32 × PH)
  | 0, _, _ => none
  | n + 1, P, x1 =>
    (if (46 : Int32) ≤ x1 then K P else (if (x1 < 0 ∨ 46 ≤ x1.toNatClampNeg) then none else ((some (sI P (P.2.2 x0 25) x1.toNatClampNeg (0 : Int32))).bind fun P29 => f_X10_house_L22 K x0 n P29 (x1 + (1 : Int32)))))
theorem w_X10_house_L22 {x : Fx} {E : Ev} (S : ZS x E r_X10_house cX10_house 3 RX10 (some .int)) (M : ZM x E) {K : PH → Option (Int32 × PH)} (x0 : Nat) (h_x0 : ok x0 8 0) (r : (Int32 × PH)) (hK : ∀ (P1 : PH) , K P1 = some r → Wz x E 3 (QI E x r.1 r.2) P1 41 [(0, .ref (ad E x0))] []) : ∀ (n : Nat) (P : PH) (x1 : Int32), f_X10_house_L22 K x0 n P x1 = some r → Wz x E 3 (QI E x r.1 r.2) P 22 [(0, .ref (ad E x0)), (1, .int x1)] [] := by
  intro n
  induction n with
  | zero => intro P x1 hf; cases hf
  | succ n ih =>
    intro P x1 hf
    unfold f_X10_house_L22 at hf
    refine z_iload_n S 1 dX10_house_22 rfl rfl ?_
    refine z_bipush (v := 46) S dX10_house_23 (by decide) ?_
    refine z_icmp_ge (tgt := 41) S dX10_house_25 (by decide) hf (fun hf => ?_) (fun hf => ?_)
    · refine z_sub [0] rfl ?_
      exact hK P hf
    · refine z_aload_n S 0 dX10_house_28 rfl rfl ?_
      refine z_getR (K' := 9) (n' := 46) S cf_8 h_x0 25 (by decide) rfl rfl rfl wd692 dX10_house_29 (fun h28 => ?_)
      refine z_iload_n S 1 dX10_house_32 rfl rfl ?_
      refine z_iconst (v := 0) S dX10_house_33 (by decide) ?_
      refine z_iast S h28 dX10_house_34 hf (fun hf => ?_)
      refine z_nmP hf (fun P29 hf => ?_)
      refine z_iinc (v := (x1 + (1 : Int32))) (lv' := [(1, .int (x1 + (1 : Int32))), (0, .ref (ad E x0))]) S 1 dX10_house_35 rfl (by rfl) (by decide) rfl ?_
      refine z_goto (tgt := 22) S dX10_house_38 (by decide) ?_
      refine z_sub [1, 0] rfl ?_
      exact ih P29 (x1 + (1 : Int32)) hf
def f_X10_house (P : PH) (x0 : Nat) : Option (Int32 × PH) :=
  ((some (sI (sI P x0 15 (0 : Int32)) x0 19 (0 : Int32))).bind fun P30 => ((some (sI (sI P30 x0 20 (0 : Int32)) x0 21 (0 : Int32))).bind fun P31 => f_X10_house_L22 (fun P32 => f_X10_house_L43 (fun P33 => f_X10_house_L64 (fun P34 => ((f_X10_next P34 x0).bind fun q35 => f_X10_house_L97 (fun P37 v36 => f_X10_house_J121 P37 x0 v36) x0 1000 q35 (0 : Int32))) x0 1000 P33 (0 : Int32)) x0 1000 P32 (0 : Int32)) x0 1000 P31 (0 : Int32)))
theorem w_X10_house {x : Fx} {E : Ev} (S : ZS x E r_X10_house cX10_house 3 RX10 (some .int)) (M : ZM x E) (P : PH) (x0 : Nat) (h_x0 : ok x0 8 0) (r : (Int32 × PH)) (hf : f_X10_house P x0 = some r) : Wz x E 3 (QI E x r.1 r.2) P 0 [(0, .ref (ad E x0))] [] := by
  unfold f_X10_house at hf
  refine z_aload_n S 0 dX10_house_0 rfl rfl ?_
  refine z_iconst (v := 0) S dX10_house_1 (by decide) ?_
  refine z_putI S cf_8 h_x0 15 (by decide) rfl rfl rfl rfl wd682 dX10_house_2 ?_
  refine z_aload_n S 0 dX10_house_5 rfl rfl ?_
  refine z_iconst (v := 0) S dX10_house_6 (by decide) ?_
  refine z_putI S cf_8 h_x0 19 (by decide) rfl rfl (by decide) rfl wd686 dX10_house_7 ?_
  refine z_nmP hf (fun P30 hf => ?_)
  refine z_aload_n S 0 dX10_house_10 rfl rfl ?_
  refine z_iconst (v := 0) S dX10_house_11 (by decide) ?_
  refine z_putI S cf_8 h_x0 20 (by decide) rfl rfl rfl rfl wd687 dX10_house_12 ?_
  refine z_aload_n S 0 dX10_house_15 rfl rfl ?_
  refine z_iconst (v := 0) S dX10_house_16 (by decide) ?_
  refine z_putI S cf_8 h_x0 21 (by decide) rfl rfl rfl rfl wd688 dX10_house_17 ?_
  refine z_nmP hf (fun P31 hf => ?_)
  refine z_iconst (v := 0) S dX10_house_20 (by decide) ?_
  refine z_istore_n (lv' := [(1, .int (0 : Int32)), (0, .ref (ad E x0))]) S dX10_house_21 rfl (by decide) rfl ?_
  refine z_sub [1, 0] rfl ?_
  refine w_X10_house_L22 S M x0 h_x0 r (fun P32 hf => ?_) 1000 P31 (0 : Int32) hf
  refine z_iconst (v := 0) S dX10_house_41 (by decide) ?_
  refine z_istore_n (lv' := [(1, .int (0 : Int32)), (0, .ref (ad E x0))]) S dX10_house_42 rfl (by decide) rfl ?_
  refine z_sub [1, 0] rfl ?_
  refine w_X10_house_L43 S M x0 h_x0 r (fun P33 hf => ?_) 1000 P32 (0 : Int32) hf
  refine z_iconst (v := 0) S dX10_house_62 (by decide) ?_
  refine z_istore_n (lv' := [(1, .int (0 : Int32)), (0, .ref (ad E x0))]) S dX10_house_63 rfl (by decide) rfl ?_
  refine z_sub [1, 0] rfl ?_
  refine w_X10_house_L64 S M x0 h_x0 r (fun P34 hf => ?_) 1000 P33 (0 : Int32) hf
  refine z_iconst (v := 0) S dX10_house_91 (by decide) ?_
  refine z_istore_n (lv' := [(1, .int (0 : Int32)), (0, .ref (ad E x0))]) S dX10_house_92 rfl (by decide) rfl ?_
  refine z_aload_n S 1 dX10_house_93 rfl rfl ?_
  refine z_callVV (rc := r_X10_next) [] S mo_X10_next wd770 wd8 wd768 h_x0 (by decide) cl_8 rfl rfl (by decide) (z_room0 S M (by rfl) (by rfl)) rfl (Nat.le_of_ble_eq_true rfl) rfl dX10_house_94  (fun q => q) (fun q hq => m_X10_next (xl x) E _ _ h_x0 q hq) hf (fun q35 hf => ?_)
  refine z_sub [1, 0] rfl ?_
  refine w_X10_house_L97 S M x0 h_x0 r (fun P37 v36 hf => ?_) 1000 q35 (0 : Int32) hf
  exact w_X10_house_J121 S M P37 x0 v36 h_x0 r hf
theorem m_X10_house (l : Launch) (E : Ev) (P : PH) (x0 : Nat) (h_x0 : ok x0 8 0) (r : (Int32 × PH)) (hf : f_X10_house P x0 = some r) : CtI l E yX10_house cX10_house 3 (some .int) r_X10_house [.ref (ad E x0)] P r.1 r.2 :=
  z_body (own := RX10) (by decide +kernel) rfl (Nat.le_of_ble_eq_true rfl) rfl (fun x _ S M => w_X10_house S M P x0 h_x0 r hf)
-- yX10_asItIs
theorem dX10_asItIs_0 : decode cX10_asItIs 0 = .ok (.aload_n 0, 1) := by decide +kernel
theorem dX10_asItIs_1 : decode cX10_asItIs 1 = .ok (.getfield 50, 3) := by decide +kernel
theorem dX10_asItIs_4 : decode cX10_asItIs 4 = .ok (.iconst 0, 1) := by decide +kernel
theorem dX10_asItIs_5 : decode cX10_asItIs 5 = .ok (.aload_n 0, 1) := by decide +kernel
theorem dX10_asItIs_6 : decode cX10_asItIs 6 = .ok (.getfield 19, 3) := by decide +kernel
theorem dX10_asItIs_9 : decode cX10_asItIs 9 = .ok (.iconst 0, 1) := by decide +kernel
theorem dX10_asItIs_10 : decode cX10_asItIs 10 = .ok (.invokestatic 124, 3) := by decide +kernel
theorem dX10_asItIs_13 : decode cX10_asItIs 13 = .ok (.return_, 1) := by decide +kernel
def r_X10_asItIs : Room := { frames := 1, cells := 0, slots := 0, locals := 24 }
def f_X10_asItIs (P : PH) (x0 : Nat) : Option PH :=
  ((f_X10_copy 46 46 P (P.2.2 x0 26) (0 : Int32) (P.2.2 x0 5) (0 : Int32)).bind fun q3 => some q3)
theorem w_X10_asItIs {x : Fx} {E : Ev} (S : ZS x E r_X10_asItIs cX10_asItIs 1 RX10 none) (M : ZM x E) (P : PH) (x0 : Nat) (h_x0 : ok x0 8 0) (r : PH) (hf : f_X10_asItIs P x0 = some r) : Wz x E 1 (QV E x r) P 0 [(0, .ref (ad E x0))] [] := by
  unfold f_X10_asItIs at hf
  refine z_aload_n S 0 dX10_asItIs_0 rfl rfl ?_
  refine z_getR (K' := 9) (n' := 46) S cf_8 h_x0 26 (by decide) rfl rfl rfl wd693 dX10_asItIs_1 (fun h1 => ?_)
  refine z_iconst (v := 0) S dX10_asItIs_4 (by decide) ?_
  refine z_aload_n S 0 dX10_asItIs_5 rfl rfl ?_
  refine z_getR (K' := 9) (n' := 46) S cf_8 h_x0 5 (by decide) rfl rfl rfl wd672 dX10_asItIs_6 (fun h2 => ?_)
  refine z_iconst (v := 0) S dX10_asItIs_9 (by decide) ?_
  refine z_callSV (rc := r_X10_copy) [.ref (ad E (P.2.2 x0 26)), .int (0 : Int32), .ref (ad E (P.2.2 x0 5)), .int (0 : Int32)] S mo_X10_copy wd807 wd806 rfl rfl (by decide) (z_room0 S M (by rfl) (by rfl)) rfl (Nat.le_of_ble_eq_true rfl) rfl dX10_asItIs_10  (fun q => q) (fun q hq => m_X10_copy (xl x) E _ _ _ _ _ _ _ h1 h2 q hq) hf (fun q3 hf => ?_)
  exact z_vretI S M rfl dX10_asItIs_13 hf
theorem m_X10_asItIs (l : Launch) (E : Ev) (P : PH) (x0 : Nat) (h_x0 : ok x0 8 0) (r : PH) (hf : f_X10_asItIs P x0 = some r) : CtV l E yX10_asItIs cX10_asItIs 1 none r_X10_asItIs [.ref (ad E x0)] P r :=
  z_body (own := RX10) (by decide +kernel) rfl (Nat.le_of_ble_eq_true rfl) rfl (fun x _ S M => w_X10_asItIs S M P x0 h_x0 r hf)
-- yX10_isAlive
theorem dX10_isAlive_0 : decode cX10_isAlive 0 = .ok (.aload_n 0, 1) := by decide +kernel
theorem dX10_isAlive_1 : decode cX10_isAlive 1 = .ok (.iload_n 1, 1) := by decide +kernel
theorem dX10_isAlive_2 : decode cX10_isAlive 2 = .ok (.invokevirtual 134, 3) := by decide +kernel
theorem dX10_isAlive_5 : decode cX10_isAlive 5 = .ok (.ifCond .eq 20, 3) := by decide +kernel
theorem dX10_isAlive_8 : decode cX10_isAlive 8 = .ok (.aload_n 0, 1) := by decide +kernel
theorem dX10_isAlive_9 : decode cX10_isAlive 9 = .ok (.getfield 50, 3) := by decide +kernel
theorem dX10_isAlive_12 : decode cX10_isAlive 12 = .ok (.iconst 1, 1) := by decide +kernel
theorem dX10_isAlive_13 : decode cX10_isAlive 13 = .ok (.iaload, 1) := by decide +kernel
theorem dX10_isAlive_14 : decode cX10_isAlive 14 = .ok (.iload_n 1, 1) := by decide +kernel
theorem dX10_isAlive_15 : decode cX10_isAlive 15 = .ok (.invokestatic 137, 3) := by decide +kernel
theorem dX10_isAlive_18 : decode cX10_isAlive 18 = .ok (.ifCond .eq 7, 3) := by decide +kernel
theorem dX10_isAlive_21 : decode cX10_isAlive 21 = .ok (.iconst 1, 1) := by decide +kernel
theorem dX10_isAlive_22 : decode cX10_isAlive 22 = .ok (.goto 4, 3) := by decide +kernel
theorem dX10_isAlive_25 : decode cX10_isAlive 25 = .ok (.iconst 0, 1) := by decide +kernel
theorem dX10_isAlive_26 : decode cX10_isAlive 26 = .ok (.ireturn, 1) := by decide +kernel
def r_X10_isAlive : Room := { frames := 2, cells := 0, slots := 0, locals := 43 }
def f_X10_isAlive (P : PH) (x0 : Nat) (x1 : Int32) : Option Bool :=
  ((f_X10_isPerson P x0 x1).bind fun q1 => (if (b2i q1) = 0 then some false else (if ((1 : Int32) < 0 ∨ 46 ≤ (1 : Int32).toNatClampNeg) then none else ((f_X10_has P (P.1 (P.2.2 x0 26) (1 : Int32).toNatClampNeg) x1).bind fun q3 => (if (b2i q3) = 0 then some false else some true)))))
theorem w_X10_isAlive {x : Fx} {E : Ev} (S : ZS x E r_X10_isAlive cX10_isAlive 2 RX10 (some .boolean)) (M : ZM x E) (P : PH) (x0 : Nat) (x1 : Int32) (h_x0 : ok x0 8 0) (r : Bool) (hf : f_X10_isAlive P x0 x1 = some r) : Wz x E 2 (QI E x (b2i r) P) P 0 [(0, .ref (ad E x0)), (1, .int x1)] [] := by
  unfold f_X10_isAlive at hf
  refine z_aload_n S 0 dX10_isAlive_0 rfl rfl ?_
  refine z_iload_n S 1 dX10_isAlive_1 rfl rfl ?_
  refine z_callVI (rc := r_X10_isPerson) [.int x1] S mo_X10_isPerson wd815 wd16 wd813 h_x0 (by decide) cl_8 rfl rfl (by decide) (z_room0 S M (by rfl) (by rfl)) rfl (Nat.le_of_ble_eq_true rfl) rfl dX10_isAlive_2 (fun q => b2i q) (fun _ => P) (fun q hq => m_X10_isPerson (xl x) E _ _ _ h_x0 q hq) hf (fun q1 hf => ?_)
  refine z_if_eq (tgt := 25) S dX10_isAlive_5 (by decide) hf (fun hf => ?_) (fun hf => ?_)
  · refine z_iconst (v := 0) S dX10_isAlive_25 (by decide) ?_
    exact z_zretP (v := false) S M rfl dX10_isAlive_26 hf
  · refine z_aload_n S 0 dX10_isAlive_8 rfl rfl ?_
    refine z_getR (K' := 9) (n' := 46) S cf_8 h_x0 26 (by decide) rfl rfl rfl wd693 dX10_isAlive_9 (fun h2 => ?_)
    refine z_iconst (v := 1) S dX10_isAlive_12 (by decide) ?_
    refine z_iald S h2 dX10_isAlive_13 hf (fun hf => ?_)
    refine z_iload_n S 1 dX10_isAlive_14 rfl rfl ?_
    refine z_callSI (rc := r_X10_has) [.int (P.1 (P.2.2 x0 26) (1 : Int32).toNatClampNeg), .int x1] S mo_X10_has wd834 wd833 rfl rfl (by decide) (z_room0 S M (by rfl) (by rfl)) rfl (Nat.le_of_ble_eq_true rfl) rfl dX10_isAlive_15 (fun q => b2i q) (fun _ => P) (fun q hq => m_X10_has (xl x) E _ _ _  q hq) hf (fun q3 hf => ?_)
    refine z_if_eq (tgt := 25) S dX10_isAlive_18 (by decide) hf (fun hf => ?_) (fun hf => ?_)
    · refine z_iconst (v := 0) S dX10_isAlive_25 (by decide) ?_
      exact z_zretP (v := false) S M rfl dX10_isAlive_26 hf
    · refine z_iconst (v := 1) S dX10_isAlive_21 (by decide) ?_
      refine z_goto (tgt := 26) S dX10_isAlive_22 (by decide) ?_
      exact z_zretP (v := true) S M rfl dX10_isAlive_26 hf
theorem m_X10_isAlive (l : Launch) (E : Ev) (P : PH) (x0 : Nat) (x1 : Int32) (h_x0 : ok x0 8 0) (r : Bool) (hf : f_X10_isAlive P x0 x1 = some r) : CtI l E yX10_isAlive cX10_isAlive 2 (some .boolean) r_X10_isAlive [.ref (ad E x0), .int x1] P (b2i r) P :=
  z_body (own := RX10) (by decide +kernel) rfl (Nat.le_of_ble_eq_true rfl) rfl (fun x _ S M => w_X10_isAlive S M P x0 x1 h_x0 r hf)
-- yX10_ownerOf
theorem dX10_ownerOf_0 : decode cX10_ownerOf 0 = .ok (.aload_n 0, 1) := by decide +kernel
theorem dX10_ownerOf_1 : decode cX10_ownerOf 1 = .ok (.getfield 50, 3) := by decide +kernel
theorem dX10_ownerOf_4 : decode cX10_ownerOf 4 = .ok (.bipush 8, 2) := by decide +kernel
theorem dX10_ownerOf_6 : decode cX10_ownerOf 6 = .ok (.iload_n 1, 1) := by decide +kernel
theorem dX10_ownerOf_7 : decode cX10_ownerOf 7 = .ok (.iadd, 1) := by decide +kernel
theorem dX10_ownerOf_8 : decode cX10_ownerOf 8 = .ok (.iaload, 1) := by decide +kernel
theorem dX10_ownerOf_9 : decode cX10_ownerOf 9 = .ok (.istore_n 2, 1) := by decide +kernel
theorem dX10_ownerOf_10 : decode cX10_ownerOf 10 = .ok (.aload_n 0, 1) := by decide +kernel
theorem dX10_ownerOf_11 : decode cX10_ownerOf 11 = .ok (.iconst 0, 1) := by decide +kernel
theorem dX10_ownerOf_12 : decode cX10_ownerOf 12 = .ok (.putfield 141, 3) := by decide +kernel
theorem dX10_ownerOf_15 : decode cX10_ownerOf 15 = .ok (.aload_n 0, 1) := by decide +kernel
theorem dX10_ownerOf_16 : decode cX10_ownerOf 16 = .ok (.iload_n 2, 1) := by decide +kernel
theorem dX10_ownerOf_17 : decode cX10_ownerOf 17 = .ok (.invokevirtual 134, 3) := by decide +kernel
theorem dX10_ownerOf_20 : decode cX10_ownerOf 20 = .ok (.ifCond .eq 47, 3) := by decide +kernel
theorem dX10_ownerOf_23 : decode cX10_ownerOf 23 = .ok (.aload_n 0, 1) := by decide +kernel
theorem dX10_ownerOf_24 : decode cX10_ownerOf 24 = .ok (.getfield 50, 3) := by decide +kernel
theorem dX10_ownerOf_27 : decode cX10_ownerOf 27 = .ok (.iconst 1, 1) := by decide +kernel
theorem dX10_ownerOf_28 : decode cX10_ownerOf 28 = .ok (.iaload, 1) := by decide +kernel
theorem dX10_ownerOf_29 : decode cX10_ownerOf 29 = .ok (.iload_n 2, 1) := by decide +kernel
theorem dX10_ownerOf_30 : decode cX10_ownerOf 30 = .ok (.invokestatic 137, 3) := by decide +kernel
theorem dX10_ownerOf_33 : decode cX10_ownerOf 33 = .ok (.ifCond .ne 34, 3) := by decide +kernel
theorem dX10_ownerOf_36 : decode cX10_ownerOf 36 = .ok (.aload_n 0, 1) := by decide +kernel
theorem dX10_ownerOf_37 : decode cX10_ownerOf 37 = .ok (.getfield 141, 3) := by decide +kernel
theorem dX10_ownerOf_40 : decode cX10_ownerOf 40 = .ok (.bipush 6, 2) := by decide +kernel
theorem dX10_ownerOf_42 : decode cX10_ownerOf 42 = .ok (.if_icmp .gt 25, 3) := by decide +kernel
theorem dX10_ownerOf_45 : decode cX10_ownerOf 45 = .ok (.aload_n 0, 1) := by decide +kernel
theorem dX10_ownerOf_46 : decode cX10_ownerOf 46 = .ok (.getfield 50, 3) := by decide +kernel
theorem dX10_ownerOf_49 : decode cX10_ownerOf 49 = .ok (.iconst 2, 1) := by decide +kernel
theorem dX10_ownerOf_50 : decode cX10_ownerOf 50 = .ok (.iload_n 2, 1) := by decide +kernel
theorem dX10_ownerOf_51 : decode cX10_ownerOf 51 = .ok (.iadd, 1) := by decide +kernel
theorem dX10_ownerOf_52 : decode cX10_ownerOf 52 = .ok (.iaload, 1) := by decide +kernel
theorem dX10_ownerOf_53 : decode cX10_ownerOf 53 = .ok (.istore_n 2, 1) := by decide +kernel
theorem dX10_ownerOf_54 : decode cX10_ownerOf 54 = .ok (.aload_n 0, 1) := by decide +kernel
theorem dX10_ownerOf_55 : decode cX10_ownerOf 55 = .ok (.dup, 1) := by decide +kernel
theorem dX10_ownerOf_56 : decode cX10_ownerOf 56 = .ok (.getfield 141, 3) := by decide +kernel
theorem dX10_ownerOf_59 : decode cX10_ownerOf 59 = .ok (.iconst 1, 1) := by decide +kernel
theorem dX10_ownerOf_60 : decode cX10_ownerOf 60 = .ok (.iadd, 1) := by decide +kernel
theorem dX10_ownerOf_61 : decode cX10_ownerOf 61 = .ok (.putfield 141, 3) := by decide +kernel
theorem dX10_ownerOf_64 : decode cX10_ownerOf 64 = .ok (.goto (-49), 3) := by decide +kernel
theorem dX10_ownerOf_67 : decode cX10_ownerOf 67 = .ok (.aload_n 0, 1) := by decide +kernel
theorem dX10_ownerOf_68 : decode cX10_ownerOf 68 = .ok (.iload_n 2, 1) := by decide +kernel
theorem dX10_ownerOf_69 : decode cX10_ownerOf 69 = .ok (.invokevirtual 144, 3) := by decide +kernel
theorem dX10_ownerOf_72 : decode cX10_ownerOf 72 = .ok (.ifCond .eq 7, 3) := by decide +kernel
theorem dX10_ownerOf_75 : decode cX10_ownerOf 75 = .ok (.iload_n 2, 1) := by decide +kernel
theorem dX10_ownerOf_76 : decode cX10_ownerOf 76 = .ok (.goto 5, 3) := by decide +kernel
theorem dX10_ownerOf_79 : decode cX10_ownerOf 79 = .ok (.bipush (-9), 2) := by decide +kernel
theorem dX10_ownerOf_81 : decode cX10_ownerOf 81 = .ok (.ireturn, 1) := by decide +kernel
def r_X10_ownerOf : Room := { frames := 3, cells := 0, slots := 0, locals := 64 }
def f_X10_ownerOf_L15 (K : PH → Int32 → Option (Int32 × PH)) (x0 : Nat) : Nat → PH → Int32 → Option (Int32 × PH)
  | 0, _, _ => none
  | n + 1, P, x2 =>
    ((f_X10_isPerson P x0 x2).bind fun q1 => (if (b2i q1) = 0 then K P x2 else (if ((1 : Int32) < 0 ∨ 46 ≤ (1 : Int32).toNatClampNeg) then none else ((f_X10_has P (P.1 (P.2.2 x0 26) (1 : Int32).toNatClampNeg) x2).bind fun q3 => (if (b2i q3) = 0 then (if (6 : Int32) < (P.1 x0 27) then K P x2 else (if (((2 : Int32) + x2) < 0 ∨ 46 ≤ ((2 : Int32) + x2).toNatClampNeg) then none else f_X10_ownerOf_L15 K x0 n (sI P x0 27 ((P.1 x0 27) + (1 : Int32))) (P.1 (P.2.2 x0 26) ((2 : Int32) + x2).toNatClampNeg))) else K P x2)))))
theorem w_X10_ownerOf_L15 {x : Fx} {E : Ev} (S : ZS x E r_X10_ownerOf cX10_ownerOf 3 RX10 (some .int)) (M : ZM x E) {K : PH → Int32 → Option (Int32 × PH)} (x0 : Nat) (h_x0 : ok x0 8 0) (r : (Int32 × PH)) (hK : ∀ (P1 : PH) (y2 : Int32), K P1 y2 = some r → Wz x E 3 (QI E x r.1 r.2) P1 67 [(0, .ref (ad E x0)), (2, .int y2)] []) : ∀ (n : Nat) (P : PH) (x2 : Int32), f_X10_ownerOf_L15 K x0 n P x2 = some r → Wz x E 3 (QI E x r.1 r.2) P 15 [(0, .ref (ad E x0)), (2, .int x2)] [] := by
  intro n
  induction n with
  | zero => intro P x2 hf; cases hf
  | succ n ih =>
    intro P x2 hf
    unfold f_X10_ownerOf_L15 at hf
    refine z_aload_n S 0 dX10_ownerOf_15 rfl rfl ?_
    refine z_iload_n S 1 dX10_ownerOf_16 rfl rfl ?_
    refine z_callVI (rc := r_X10_isPerson) [.int x2] S mo_X10_isPerson wd815 wd16 wd813 h_x0 (by decide) cl_8 rfl rfl (by decide) (z_room0 S M (by rfl) (by rfl)) rfl (Nat.le_of_ble_eq_true rfl) rfl dX10_ownerOf_17 (fun q => b2i q) (fun _ => P) (fun q hq => m_X10_isPerson (xl x) E _ _ _ h_x0 q hq) hf (fun q1 hf => ?_)
    refine z_if_eq (tgt := 67) S dX10_ownerOf_20 (by decide) hf (fun hf => ?_) (fun hf => ?_)
    · exact hK P x2 hf
    · refine z_aload_n S 0 dX10_ownerOf_23 rfl rfl ?_
      refine z_getR (K' := 9) (n' := 46) S cf_8 h_x0 26 (by decide) rfl rfl rfl wd693 dX10_ownerOf_24 (fun h2 => ?_)
      refine z_iconst (v := 1) S dX10_ownerOf_27 (by decide) ?_
      refine z_iald S h2 dX10_ownerOf_28 hf (fun hf => ?_)
      refine z_iload_n S 1 dX10_ownerOf_29 rfl rfl ?_
      refine z_callSI (rc := r_X10_has) [.int (P.1 (P.2.2 x0 26) (1 : Int32).toNatClampNeg), .int x2] S mo_X10_has wd834 wd833 rfl rfl (by decide) (z_room0 S M (by rfl) (by rfl)) rfl (Nat.le_of_ble_eq_true rfl) rfl dX10_ownerOf_30 (fun q => b2i q) (fun _ => P) (fun q hq => m_X10_has (xl x) E _ _ _  q hq) hf (fun q3 hf => ?_)
      refine z_if_ne (tgt := 67) S dX10_ownerOf_33 (by decide) hf (fun hf => ?_) (fun hf => ?_)
      · refine z_aload_n S 0 dX10_ownerOf_36 rfl rfl ?_
        refine z_getI S cf_8 h_x0 27 (by decide) rfl wd694 dX10_ownerOf_37 ?_
        refine z_bipush (v := 6) S dX10_ownerOf_40 (by decide) ?_
        refine z_icmp_gt (tgt := 67) S dX10_ownerOf_42 (by decide) hf (fun hf => ?_) (fun hf => ?_)
        · exact hK P x2 hf
        · refine z_aload_n S 0 dX10_ownerOf_45 rfl rfl ?_
          refine z_getR (K' := 9) (n' := 46) S cf_8 h_x0 26 (by decide) rfl rfl rfl wd693 dX10_ownerOf_46 (fun h4 => ?_)
          refine z_iconst (v := 2) S dX10_ownerOf_49 (by decide) ?_
          refine z_iload_n S 1 dX10_ownerOf_50 rfl rfl ?_
          refine z_iadd S dX10_ownerOf_51 ?_
          refine z_iald S h4 dX10_ownerOf_52 hf (fun hf => ?_)
          refine z_istore_n (lv' := [(2, .int (P.1 (P.2.2 x0 26) ((2 : Int32) + x2).toNatClampNeg)), (0, .ref (ad E x0))]) S dX10_ownerOf_53 rfl (by decide) rfl ?_
          refine z_aload_n S 1 dX10_ownerOf_54 rfl rfl ?_
          refine z_dup S dX10_ownerOf_55 rfl ?_
          refine z_getI S cf_8 h_x0 27 (by decide) rfl wd694 dX10_ownerOf_56 ?_
          refine z_iconst (v := 1) S dX10_ownerOf_59 (by decide) ?_
          refine z_iadd S dX10_ownerOf_60 ?_
          refine z_putI S cf_8 h_x0 27 (by decide) rfl rfl rfl rfl wd694 dX10_ownerOf_61 ?_
          refine z_goto (tgt := 15) S dX10_ownerOf_64 (by decide) ?_
          refine z_sub [1, 0] rfl ?_
          exact ih (sI P x0 27 ((P.1 x0 27) + (1 : Int32))) (P.1 (P.2.2 x0 26) ((2 : Int32) + x2).toNatClampNeg) hf
      · exact hK P x2 hf
def f_X10_ownerOf (P : PH) (x0 : Nat) (x1 : Int32) : Option (Int32 × PH) :=
  (if (((8 : Int32) + x1) < 0 ∨ 46 ≤ ((8 : Int32) + x1).toNatClampNeg) then none else f_X10_ownerOf_L15 (fun P7 v6 => ((f_X10_isAlive P7 x0 v6).bind fun q8 => (if (b2i q8) = 0 then some ((-9 : Int32), P7) else some (v6, P7)))) x0 1000 (sI P x0 27 (0 : Int32)) (P.1 (P.2.2 x0 26) ((8 : Int32) + x1).toNatClampNeg))
theorem w_X10_ownerOf {x : Fx} {E : Ev} (S : ZS x E r_X10_ownerOf cX10_ownerOf 3 RX10 (some .int)) (M : ZM x E) (P : PH) (x0 : Nat) (x1 : Int32) (h_x0 : ok x0 8 0) (r : (Int32 × PH)) (hf : f_X10_ownerOf P x0 x1 = some r) : Wz x E 3 (QI E x r.1 r.2) P 0 [(0, .ref (ad E x0)), (1, .int x1)] [] := by
  unfold f_X10_ownerOf at hf
  refine z_aload_n S 0 dX10_ownerOf_0 rfl rfl ?_
  refine z_getR (K' := 9) (n' := 46) S cf_8 h_x0 26 (by decide) rfl rfl rfl wd693 dX10_ownerOf_1 (fun h5 => ?_)
  refine z_bipush (v := 8) S dX10_ownerOf_4 (by decide) ?_
  refine z_iload_n S 1 dX10_ownerOf_6 rfl rfl ?_
  refine z_iadd S dX10_ownerOf_7 ?_
  refine z_iald S h5 dX10_ownerOf_8 hf (fun hf => ?_)
  refine z_istore_n (lv' := [(2, .int (P.1 (P.2.2 x0 26) ((8 : Int32) + x1).toNatClampNeg)), (0, .ref (ad E x0)), (1, .int x1)]) S dX10_ownerOf_9 rfl (by decide) rfl ?_
  refine z_aload_n S 1 dX10_ownerOf_10 rfl rfl ?_
  refine z_iconst (v := 0) S dX10_ownerOf_11 (by decide) ?_
  refine z_putI S cf_8 h_x0 27 (by decide) rfl rfl rfl rfl wd694 dX10_ownerOf_12 ?_
  refine z_sub [1, 0] rfl ?_
  refine w_X10_ownerOf_L15 S M x0 h_x0 r (fun P7 v6 hf => ?_) 1000 (sI P x0 27 (0 : Int32)) (P.1 (P.2.2 x0 26) ((8 : Int32) + x1).toNatClampNeg) hf
  refine z_aload_n S 0 dX10_ownerOf_67 rfl rfl ?_
  refine z_iload_n S 1 dX10_ownerOf_68 rfl rfl ?_
  refine z_callVI (rc := r_X10_isAlive) [.int v6] S mo_X10_isAlive wd831 wd20 wd829 h_x0 (by decide) cl_8 rfl rfl (by decide) (z_room0 S M (by rfl) (by rfl)) rfl (Nat.le_of_ble_eq_true rfl) rfl dX10_ownerOf_69 (fun q => b2i q) (fun _ => P7) (fun q hq => m_X10_isAlive (xl x) E _ _ _ h_x0 q hq) hf (fun q8 hf => ?_)
  refine z_if_eq (tgt := 79) S dX10_ownerOf_72 (by decide) hf (fun hf => ?_) (fun hf => ?_)
  · refine z_bipush (v := (-9 : Int32)) S dX10_ownerOf_79 (by decide) ?_
    exact z_iretI (v := (-9 : Int32)) S M rfl dX10_ownerOf_81 hf
  · refine z_iload_n S 1 dX10_ownerOf_75 rfl rfl ?_
    refine z_goto (tgt := 81) S dX10_ownerOf_76 (by decide) ?_
    exact z_iretI (v := v6) S M rfl dX10_ownerOf_81 hf
theorem m_X10_ownerOf (l : Launch) (E : Ev) (P : PH) (x0 : Nat) (x1 : Int32) (h_x0 : ok x0 8 0) (r : (Int32 × PH)) (hf : f_X10_ownerOf P x0 x1 = some r) : CtI l E yX10_ownerOf cX10_ownerOf 3 (some .int) r_X10_ownerOf [.ref (ad E x0), .int x1] P r.1 r.2 :=
  z_body (own := RX10) (by decide +kernel) rfl (Nat.le_of_ble_eq_true rfl) rfl (fun x _ S M => w_X10_ownerOf S M P x0 x1 h_x0 r hf)
-- yX10_mayBe
theorem dX10_mayBe_0 : decode cX10_mayBe 0 = .ok (.aload_n 0, 1) := by decide +kernel
theorem dX10_mayBe_1 : decode cX10_mayBe 1 = .ok (.iload_n 1, 1) := by decide +kernel
theorem dX10_mayBe_2 : decode cX10_mayBe 2 = .ok (.invokevirtual 144, 3) := by decide +kernel
theorem dX10_mayBe_5 : decode cX10_mayBe 5 = .ok (.ifCond .ne 5, 3) := by decide +kernel
theorem dX10_mayBe_8 : decode cX10_mayBe 8 = .ok (.iconst 0, 1) := by decide +kernel
theorem dX10_mayBe_9 : decode cX10_mayBe 9 = .ok (.ireturn, 1) := by decide +kernel
theorem dX10_mayBe_10 : decode cX10_mayBe 10 = .ok (.aload_n 0, 1) := by decide +kernel
theorem dX10_mayBe_11 : decode cX10_mayBe 11 = .ok (.iload_n 2, 1) := by decide +kernel
theorem dX10_mayBe_12 : decode cX10_mayBe 12 = .ok (.invokevirtual 147, 3) := by decide +kernel
theorem dX10_mayBe_15 : decode cX10_mayBe 15 = .ok (.iload_n 1, 1) := by decide +kernel
theorem dX10_mayBe_16 : decode cX10_mayBe 16 = .ok (.if_icmp .eq 13, 3) := by decide +kernel
theorem dX10_mayBe_19 : decode cX10_mayBe 19 = .ok (.aload_n 0, 1) := by decide +kernel
theorem dX10_mayBe_20 : decode cX10_mayBe 20 = .ok (.getfield 7, 3) := by decide +kernel
theorem dX10_mayBe_23 : decode cX10_mayBe 23 = .ok (.iload_n 1, 1) := by decide +kernel
theorem dX10_mayBe_24 : decode cX10_mayBe 24 = .ok (.iaload, 1) := by decide +kernel
theorem dX10_mayBe_25 : decode cX10_mayBe 25 = .ok (.iload_n 2, 1) := by decide +kernel
theorem dX10_mayBe_26 : decode cX10_mayBe 26 = .ok (.if_icmp .ne 7, 3) := by decide +kernel
theorem dX10_mayBe_29 : decode cX10_mayBe 29 = .ok (.iconst 1, 1) := by decide +kernel
theorem dX10_mayBe_30 : decode cX10_mayBe 30 = .ok (.goto 4, 3) := by decide +kernel
theorem dX10_mayBe_33 : decode cX10_mayBe 33 = .ok (.iconst 0, 1) := by decide +kernel
theorem dX10_mayBe_34 : decode cX10_mayBe 34 = .ok (.istore_n 3, 1) := by decide +kernel
theorem dX10_mayBe_35 : decode cX10_mayBe 35 = .ok (.iconst 0, 1) := by decide +kernel
theorem dX10_mayBe_36 : decode cX10_mayBe 36 = .ok (.istore 4, 2) := by decide +kernel
theorem dX10_mayBe_38 : decode cX10_mayBe 38 = .ok (.iload 4, 2) := by decide +kernel
theorem dX10_mayBe_40 : decode cX10_mayBe 40 = .ok (.aload_n 0, 1) := by decide +kernel
theorem dX10_mayBe_41 : decode cX10_mayBe 41 = .ok (.getfield 50, 3) := by decide +kernel
theorem dX10_mayBe_44 : decode cX10_mayBe 44 = .ok (.bipush 15, 2) := by decide +kernel
theorem dX10_mayBe_46 : decode cX10_mayBe 46 = .ok (.iaload, 1) := by decide +kernel
theorem dX10_mayBe_47 : decode cX10_mayBe 47 = .ok (.if_icmp .ge 70, 3) := by decide +kernel
theorem dX10_mayBe_50 : decode cX10_mayBe 50 = .ok (.bipush 16, 2) := by decide +kernel
theorem dX10_mayBe_52 : decode cX10_mayBe 52 = .ok (.iconst 3, 1) := by decide +kernel
theorem dX10_mayBe_53 : decode cX10_mayBe 53 = .ok (.iload 4, 2) := by decide +kernel
theorem dX10_mayBe_55 : decode cX10_mayBe 55 = .ok (.imul, 1) := by decide +kernel
theorem dX10_mayBe_56 : decode cX10_mayBe 56 = .ok (.iadd, 1) := by decide +kernel
theorem dX10_mayBe_57 : decode cX10_mayBe 57 = .ok (.istore 5, 2) := by decide +kernel
theorem dX10_mayBe_59 : decode cX10_mayBe 59 = .ok (.iload_n 3, 1) := by decide +kernel
theorem dX10_mayBe_60 : decode cX10_mayBe 60 = .ok (.ifCond .ne 45, 3) := by decide +kernel
theorem dX10_mayBe_63 : decode cX10_mayBe 63 = .ok (.aload_n 0, 1) := by decide +kernel
theorem dX10_mayBe_64 : decode cX10_mayBe 64 = .ok (.getfield 50, 3) := by decide +kernel
theorem dX10_mayBe_67 : decode cX10_mayBe 67 = .ok (.iload 5, 2) := by decide +kernel
theorem dX10_mayBe_69 : decode cX10_mayBe 69 = .ok (.iaload, 1) := by decide +kernel
theorem dX10_mayBe_70 : decode cX10_mayBe 70 = .ok (.iload_n 1, 1) := by decide +kernel
theorem dX10_mayBe_71 : decode cX10_mayBe 71 = .ok (.if_icmp .ne 38, 3) := by decide +kernel
theorem dX10_mayBe_74 : decode cX10_mayBe 74 = .ok (.aload_n 0, 1) := by decide +kernel
theorem dX10_mayBe_75 : decode cX10_mayBe 75 = .ok (.getfield 50, 3) := by decide +kernel
theorem dX10_mayBe_78 : decode cX10_mayBe 78 = .ok (.iload 5, 2) := by decide +kernel
theorem dX10_mayBe_80 : decode cX10_mayBe 80 = .ok (.iconst 1, 1) := by decide +kernel
theorem dX10_mayBe_81 : decode cX10_mayBe 81 = .ok (.iadd, 1) := by decide +kernel
theorem dX10_mayBe_82 : decode cX10_mayBe 82 = .ok (.iaload, 1) := by decide +kernel
theorem dX10_mayBe_83 : decode cX10_mayBe 83 = .ok (.iload_n 2, 1) := by decide +kernel
theorem dX10_mayBe_84 : decode cX10_mayBe 84 = .ok (.if_icmp .ne 25, 3) := by decide +kernel
theorem dX10_mayBe_87 : decode cX10_mayBe 87 = .ok (.aload_n 0, 1) := by decide +kernel
theorem dX10_mayBe_88 : decode cX10_mayBe 88 = .ok (.getfield 50, 3) := by decide +kernel
theorem dX10_mayBe_91 : decode cX10_mayBe 91 = .ok (.iload 5, 2) := by decide +kernel
theorem dX10_mayBe_93 : decode cX10_mayBe 93 = .ok (.iconst 2, 1) := by decide +kernel
theorem dX10_mayBe_94 : decode cX10_mayBe 94 = .ok (.iadd, 1) := by decide +kernel
theorem dX10_mayBe_95 : decode cX10_mayBe 95 = .ok (.iaload, 1) := by decide +kernel
theorem dX10_mayBe_96 : decode cX10_mayBe 96 = .ok (.aload_n 0, 1) := by decide +kernel
theorem dX10_mayBe_97 : decode cX10_mayBe 97 = .ok (.getfield 50, 3) := by decide +kernel
theorem dX10_mayBe_100 : decode cX10_mayBe 100 = .ok (.iconst 0, 1) := by decide +kernel
theorem dX10_mayBe_101 : decode cX10_mayBe 101 = .ok (.iaload, 1) := by decide +kernel
theorem dX10_mayBe_102 : decode cX10_mayBe 102 = .ok (.if_icmp .lt 7, 3) := by decide +kernel
theorem dX10_mayBe_105 : decode cX10_mayBe 105 = .ok (.iconst 1, 1) := by decide +kernel
theorem dX10_mayBe_106 : decode cX10_mayBe 106 = .ok (.goto 4, 3) := by decide +kernel
theorem dX10_mayBe_109 : decode cX10_mayBe 109 = .ok (.iconst 0, 1) := by decide +kernel
theorem dX10_mayBe_110 : decode cX10_mayBe 110 = .ok (.istore_n 3, 1) := by decide +kernel
theorem dX10_mayBe_111 : decode cX10_mayBe 111 = .ok (.iinc 4 1, 3) := by decide +kernel
theorem dX10_mayBe_114 : decode cX10_mayBe 114 = .ok (.goto (-76), 3) := by decide +kernel
theorem dX10_mayBe_117 : decode cX10_mayBe 117 = .ok (.iload_n 3, 1) := by decide +kernel
theorem dX10_mayBe_118 : decode cX10_mayBe 118 = .ok (.ireturn, 1) := by decide +kernel
def r_X10_mayBe : Room := { frames := 4, cells := 0, slots := 0, locals := 86 }
def f_X10_mayBe_L38 (K : Bool → Option (Bool × PH)) (P : PH) (x0 : Nat) (x1 : Int32) (x2 : Int32) : Nat → Bool → Int32 → Option (Bool × PH)
  | 0, _, _ => none
  | n + 1, x3, x4 =>
    (if ((15 : Int32) < 0 ∨ 46 ≤ (15 : Int32).toNatClampNeg) then none else (if (P.1 (P.2.2 x0 26) (15 : Int32).toNatClampNeg) ≤ x4 then K x3 else (if (b2i x3) = 0 then (if (((16 : Int32) + ((3 : Int32) * x4)) < 0 ∨ 46 ≤ ((16 : Int32) + ((3 : Int32) * x4)).toNatClampNeg) then none else (if (P.1 (P.2.2 x0 26) ((16 : Int32) + ((3 : Int32) * x4)).toNatClampNeg) = x1 then (if ((((16 : Int32) + ((3 : Int32) * x4)) + (1 : Int32)) < 0 ∨ 46 ≤ (((16 : Int32) + ((3 : Int32) * x4)) + (1 : Int32)).toNatClampNeg) then none else (if (P.1 (P.2.2 x0 26) (((16 : Int32) + ((3 : Int32) * x4)) + (1 : Int32)).toNatClampNeg) = x2 then (if ((((16 : Int32) + ((3 : Int32) * x4)) + (2 : Int32)) < 0 ∨ 46 ≤ (((16 : Int32) + ((3 : Int32) * x4)) + (2 : Int32)).toNatClampNeg) then none else (if ((0 : Int32) < 0 ∨ 46 ≤ (0 : Int32).toNatClampNeg) then none else (if (P.1 (P.2.2 x0 26) (((16 : Int32) + ((3 : Int32) * x4)) + (2 : Int32)).toNatClampNeg) < (P.1 (P.2.2 x0 26) (0 : Int32).toNatClampNeg) then f_X10_mayBe_L38 K P x0 x1 x2 n false (x4 + (1 : Int32)) else f_X10_mayBe_L38 K P x0 x1 x2 n true (x4 + (1 : Int32))))) else f_X10_mayBe_L38 K P x0 x1 x2 n false (x4 + (1 : Int32)))) else f_X10_mayBe_L38 K P x0 x1 x2 n false (x4 + (1 : Int32)))) else f_X10_mayBe_L38 K P x0 x1 x2 n true (x4 + (1 : Int32)))))
theorem w_X10_mayBe_L38 {x : Fx} {E : Ev} (S : ZS x E r_X10_mayBe cX10_mayBe 6 RX10 (some .boolean)) (M : ZM x E) {K : Bool → Option (Bool × PH)} (P : PH) (x0 : Nat) (x1 : Int32) (x2 : Int32) (h_x0 : ok x0 8 0) (r : (Bool × PH)) (hK : ∀ (y3 : Bool), K y3 = some r → Wz x E 6 (QI E x (b2i r.1) r.2) P 117 [(3, .int (b2i y3))] []) : ∀ (n : Nat) (x3 : Bool) (x4 : Int32), f_X10_mayBe_L38 K P x0 x1 x2 n x3 x4 = some r → Wz x E 6 (QI E x (b2i r.1) r.2) P 38 [(0, .ref (ad E x0)), (1, .int x1), (2, .int x2), (3, .int (b2i x3)), (4, .int x4)] [] := by
  intro n
  induction n with
  | zero => intro x3 x4 hf; cases hf
  | succ n ih =>
    intro x3 x4 hf
    unfold f_X10_mayBe_L38 at hf
    refine z_iload S 4 dX10_mayBe_38 rfl ?_
    refine z_aload_n S 0 dX10_mayBe_40 rfl rfl ?_
    refine z_getR (K' := 9) (n' := 46) S cf_8 h_x0 26 (by decide) rfl rfl rfl wd693 dX10_mayBe_41 (fun h1 => ?_)
    refine z_bipush (v := 15) S dX10_mayBe_44 (by decide) ?_
    refine z_iald S h1 dX10_mayBe_46 hf (fun hf => ?_)
    refine z_icmp_ge (tgt := 117) S dX10_mayBe_47 (by decide) hf (fun hf => ?_) (fun hf => ?_)
    · refine z_sub [3] rfl ?_
      exact hK x3 hf
    · refine z_bipush (v := 16) S dX10_mayBe_50 (by decide) ?_
      refine z_iconst (v := 3) S dX10_mayBe_52 (by decide) ?_
      refine z_iload S 4 dX10_mayBe_53 rfl ?_
      refine z_imul S dX10_mayBe_55 ?_
      refine z_iadd S dX10_mayBe_56 ?_
      refine z_istore (lv' := [(5, .int ((16 : Int32) + ((3 : Int32) * x4))), (0, .ref (ad E x0)), (1, .int x1), (2, .int x2), (3, .int (b2i x3)), (4, .int x4)]) S dX10_mayBe_57 (by decide) rfl ?_
      refine z_iload_n S 4 dX10_mayBe_59 rfl rfl ?_
      refine z_if_ne (tgt := 105) S dX10_mayBe_60 (by decide) hf (fun hf => ?_) (fun hf => ?_)
      · refine z_aload_n S 1 dX10_mayBe_63 rfl rfl ?_
        refine z_getR (K' := 9) (n' := 46) S cf_8 h_x0 26 (by decide) rfl rfl rfl wd693 dX10_mayBe_64 (fun h2 => ?_)
        refine z_iload S 0 dX10_mayBe_67 rfl ?_
        refine z_iald S h2 dX10_mayBe_69 hf (fun hf => ?_)
        refine z_iload_n S 2 dX10_mayBe_70 rfl rfl ?_
        refine z_icmp_ne (tgt := 109) S dX10_mayBe_71 (by decide) hf (fun hf => ?_) (fun hf => ?_)
        · refine z_aload_n S 1 dX10_mayBe_74 rfl rfl ?_
          refine z_getR (K' := 9) (n' := 46) S cf_8 h_x0 26 (by decide) rfl rfl rfl wd693 dX10_mayBe_75 (fun h3 => ?_)
          refine z_iload S 0 dX10_mayBe_78 rfl ?_
          refine z_iconst (v := 1) S dX10_mayBe_80 (by decide) ?_
          refine z_iadd S dX10_mayBe_81 ?_
          refine z_iald S h3 dX10_mayBe_82 hf (fun hf => ?_)
          refine z_iload_n S 3 dX10_mayBe_83 rfl rfl ?_
          refine z_icmp_ne (tgt := 109) S dX10_mayBe_84 (by decide) hf (fun hf => ?_) (fun hf => ?_)
          · refine z_aload_n S 1 dX10_mayBe_87 rfl rfl ?_
            refine z_getR (K' := 9) (n' := 46) S cf_8 h_x0 26 (by decide) rfl rfl rfl wd693 dX10_mayBe_88 (fun h4 => ?_)
            refine z_iload S 0 dX10_mayBe_91 rfl ?_
            refine z_iconst (v := 2) S dX10_mayBe_93 (by decide) ?_
            refine z_iadd S dX10_mayBe_94 ?_
            refine z_iald S h4 dX10_mayBe_95 hf (fun hf => ?_)
            refine z_aload_n S 1 dX10_mayBe_96 rfl rfl ?_
            refine z_getR (K' := 9) (n' := 46) S cf_8 h_x0 26 (by decide) rfl rfl rfl wd693 dX10_mayBe_97 (fun h5 => ?_)
            refine z_iconst (v := 0) S dX10_mayBe_100 (by decide) ?_
            refine z_iald S h5 dX10_mayBe_101 hf (fun hf => ?_)
            refine z_icmp_lt (tgt := 109) S dX10_mayBe_102 (by decide) hf (fun hf => ?_) (fun hf => ?_)
            · refine z_iconst (v := 0) S dX10_mayBe_109 (by decide) ?_
              refine z_istore_n (lv' := [(3, .int (0 : Int32)), (5, .int ((16 : Int32) + ((3 : Int32) * x4))), (0, .ref (ad E x0)), (1, .int x1), (2, .int x2), (4, .int x4)]) S dX10_mayBe_110 rfl (by decide) rfl ?_
              refine z_iinc (v := (x4 + (1 : Int32))) (lv' := [(4, .int (x4 + (1 : Int32))), (3, .int (0 : Int32)), (5, .int ((16 : Int32) + ((3 : Int32) * x4))), (0, .ref (ad E x0)), (1, .int x1), (2, .int x2)]) S 5 dX10_mayBe_111 rfl (by rfl) (by decide) rfl ?_
              refine z_goto (tgt := 38) S dX10_mayBe_114 (by decide) ?_
              refine z_sub [3, 4, 5, 1, 0] rfl ?_
              exact ih false (x4 + (1 : Int32)) hf
            · refine z_iconst (v := 1) S dX10_mayBe_105 (by decide) ?_
              refine z_goto (tgt := 110) S dX10_mayBe_106 (by decide) ?_
              refine z_istore_n (lv' := [(3, .int (1 : Int32)), (5, .int ((16 : Int32) + ((3 : Int32) * x4))), (0, .ref (ad E x0)), (1, .int x1), (2, .int x2), (4, .int x4)]) S dX10_mayBe_110 rfl (by decide) rfl ?_
              refine z_iinc (v := (x4 + (1 : Int32))) (lv' := [(4, .int (x4 + (1 : Int32))), (3, .int (1 : Int32)), (5, .int ((16 : Int32) + ((3 : Int32) * x4))), (0, .ref (ad E x0)), (1, .int x1), (2, .int x2)]) S 5 dX10_mayBe_111 rfl (by rfl) (by decide) rfl ?_
              refine z_goto (tgt := 38) S dX10_mayBe_114 (by decide) ?_
              refine z_sub [3, 4, 5, 1, 0] rfl ?_
              exact ih true (x4 + (1 : Int32)) hf
          · refine z_iconst (v := 0) S dX10_mayBe_109 (by decide) ?_
            refine z_istore_n (lv' := [(3, .int (0 : Int32)), (5, .int ((16 : Int32) + ((3 : Int32) * x4))), (0, .ref (ad E x0)), (1, .int x1), (2, .int x2), (4, .int x4)]) S dX10_mayBe_110 rfl (by decide) rfl ?_
            refine z_iinc (v := (x4 + (1 : Int32))) (lv' := [(4, .int (x4 + (1 : Int32))), (3, .int (0 : Int32)), (5, .int ((16 : Int32) + ((3 : Int32) * x4))), (0, .ref (ad E x0)), (1, .int x1), (2, .int x2)]) S 5 dX10_mayBe_111 rfl (by rfl) (by decide) rfl ?_
            refine z_goto (tgt := 38) S dX10_mayBe_114 (by decide) ?_
            refine z_sub [3, 4, 5, 1, 0] rfl ?_
            exact ih false (x4 + (1 : Int32)) hf
        · refine z_iconst (v := 0) S dX10_mayBe_109 (by decide) ?_
          refine z_istore_n (lv' := [(3, .int (0 : Int32)), (5, .int ((16 : Int32) + ((3 : Int32) * x4))), (0, .ref (ad E x0)), (1, .int x1), (2, .int x2), (4, .int x4)]) S dX10_mayBe_110 rfl (by decide) rfl ?_
          refine z_iinc (v := (x4 + (1 : Int32))) (lv' := [(4, .int (x4 + (1 : Int32))), (3, .int (0 : Int32)), (5, .int ((16 : Int32) + ((3 : Int32) * x4))), (0, .ref (ad E x0)), (1, .int x1), (2, .int x2)]) S 5 dX10_mayBe_111 rfl (by rfl) (by decide) rfl ?_
          refine z_goto (tgt := 38) S dX10_mayBe_114 (by decide) ?_
          refine z_sub [3, 4, 5, 1, 0] rfl ?_
          exact ih false (x4 + (1 : Int32)) hf
      · refine z_iconst (v := 1) S dX10_mayBe_105 (by decide) ?_
        refine z_goto (tgt := 110) S dX10_mayBe_106 (by decide) ?_
        refine z_istore_n (lv' := [(3, .int (1 : Int32)), (5, .int ((16 : Int32) + ((3 : Int32) * x4))), (0, .ref (ad E x0)), (1, .int x1), (2, .int x2), (4, .int x4)]) S dX10_mayBe_110 rfl (by decide) rfl ?_
        refine z_iinc (v := (x4 + (1 : Int32))) (lv' := [(4, .int (x4 + (1 : Int32))), (3, .int (1 : Int32)), (5, .int ((16 : Int32) + ((3 : Int32) * x4))), (0, .ref (ad E x0)), (1, .int x1), (2, .int x2)]) S 5 dX10_mayBe_111 rfl (by rfl) (by decide) rfl ?_
        refine z_goto (tgt := 38) S dX10_mayBe_114 (by decide) ?_
        refine z_sub [3, 4, 5, 1, 0] rfl ?_
        exact ih true (x4 + (1 : Int32)) hf
def f_X10_mayBe (P : PH) (x0 : Nat) (x1 : Int32) (x2 : Int32) : Option (Bool × PH) :=
  ((f_X10_isAlive P x0 x1).bind fun q6 => (if (b2i q6) = 0 then some (false, P) else ((f_X10_ownerOf P x0 x2).bind fun q7 => (if q7.1 = x1 then f_X10_mayBe_L38 (fun v8 => some (v8, q7.2)) q7.2 x0 x1 x2 1000 true (0 : Int32) else (if (x1 < 0 ∨ 6 ≤ x1.toNatClampNeg) then none else (if (q7.2.1 (q7.2.2.2 x0 2) x1.toNatClampNeg) = x2 then f_X10_mayBe_L38 (fun v10 => some (v10, q7.2)) q7.2 x0 x1 x2 1000 true (0 : Int32) else f_X10_mayBe_L38 (fun v11 => some (v11, q7.2)) q7.2 x0 x1 x2 1000 false (0 : Int32)))))))
theorem w_X10_mayBe {x : Fx} {E : Ev} (S : ZS x E r_X10_mayBe cX10_mayBe 6 RX10 (some .boolean)) (M : ZM x E) (P : PH) (x0 : Nat) (x1 : Int32) (x2 : Int32) (h_x0 : ok x0 8 0) (r : (Bool × PH)) (hf : f_X10_mayBe P x0 x1 x2 = some r) : Wz x E 6 (QI E x (b2i r.1) r.2) P 0 [(0, .ref (ad E x0)), (1, .int x1), (2, .int x2)] [] := by
  unfold f_X10_mayBe at hf
  refine z_aload_n S 0 dX10_mayBe_0 rfl rfl ?_
  refine z_iload_n S 1 dX10_mayBe_1 rfl rfl ?_
  refine z_callVI (rc := r_X10_isAlive) [.int x1] S mo_X10_isAlive wd831 wd20 wd829 h_x0 (by decide) cl_8 rfl rfl (by decide) (z_room0 S M (by rfl) (by rfl)) rfl (Nat.le_of_ble_eq_true rfl) rfl dX10_mayBe_2 (fun q => b2i q) (fun _ => P) (fun q hq => m_X10_isAlive (xl x) E _ _ _ h_x0 q hq) hf (fun q6 hf => ?_)
  refine z_if_ne (tgt := 10) S dX10_mayBe_5 (by decide) hf (fun hf => ?_) (fun hf => ?_)
  · refine z_iconst (v := 0) S dX10_mayBe_8 (by decide) ?_
    exact z_zretI (v := false) S M rfl dX10_mayBe_9 hf
  · refine z_aload_n S 0 dX10_mayBe_10 rfl rfl ?_
    refine z_iload_n S 2 dX10_mayBe_11 rfl rfl ?_
    refine z_callVI (rc := r_X10_ownerOf) [.int x2] S mo_X10_ownerOf wd838 wd21 wd836 h_x0 (by decide) cl_8 rfl rfl (by decide) (z_room0 S M (by rfl) (by rfl)) rfl (Nat.le_of_ble_eq_true rfl) rfl dX10_mayBe_12 (fun q => q.1) (fun q => q.2) (fun q hq => m_X10_ownerOf (xl x) E _ _ _ h_x0 q hq) hf (fun q7 hf => ?_)
    refine z_iload_n S 1 dX10_mayBe_15 rfl rfl ?_
    refine z_icmp_eq (tgt := 29) S dX10_mayBe_16 (by decide) hf (fun hf => ?_) (fun hf => ?_)
    · refine z_iconst (v := 1) S dX10_mayBe_29 (by decide) ?_
      refine z_goto (tgt := 34) S dX10_mayBe_30 (by decide) ?_
      refine z_istore_n (lv' := [(3, .int (1 : Int32)), (0, .ref (ad E x0)), (1, .int x1), (2, .int x2)]) S dX10_mayBe_34 rfl (by decide) rfl ?_
      refine z_iconst (v := 0) S dX10_mayBe_35 (by decide) ?_
      refine z_istore (lv' := [(4, .int (0 : Int32)), (3, .int (1 : Int32)), (0, .ref (ad E x0)), (1, .int x1), (2, .int x2)]) S dX10_mayBe_36 (by decide) rfl ?_
      refine z_sub [2, 3, 4, 1, 0] rfl ?_
      refine w_X10_mayBe_L38 S M _ x0 x1 x2 h_x0 r (fun v8 hf => ?_) 1000 true (0 : Int32) hf
      refine z_iload_n S 0 dX10_mayBe_117 rfl rfl ?_
      exact z_zretI (v := v8) S M rfl dX10_mayBe_118 hf
    · refine z_aload_n S 0 dX10_mayBe_19 rfl rfl ?_
      refine z_getR (K' := 9) (n' := 6) S cf_8 h_x0 2 (by decide) rfl rfl rfl wd669 dX10_mayBe_20 (fun h9 => ?_)
      refine z_iload_n S 1 dX10_mayBe_23 rfl rfl ?_
      refine z_iald S h9 dX10_mayBe_24 hf (fun hf => ?_)
      refine z_iload_n S 2 dX10_mayBe_25 rfl rfl ?_
      refine z_icmp_ne (tgt := 33) S dX10_mayBe_26 (by decide) hf (fun hf => ?_) (fun hf => ?_)
      · refine z_iconst (v := 1) S dX10_mayBe_29 (by decide) ?_
        refine z_goto (tgt := 34) S dX10_mayBe_30 (by decide) ?_
        refine z_istore_n (lv' := [(3, .int (1 : Int32)), (0, .ref (ad E x0)), (1, .int x1), (2, .int x2)]) S dX10_mayBe_34 rfl (by decide) rfl ?_
        refine z_iconst (v := 0) S dX10_mayBe_35 (by decide) ?_
        refine z_istore (lv' := [(4, .int (0 : Int32)), (3, .int (1 : Int32)), (0, .ref (ad E x0)), (1, .int x1), (2, .int x2)]) S dX10_mayBe_36 (by decide) rfl ?_
        refine z_sub [2, 3, 4, 1, 0] rfl ?_
        refine w_X10_mayBe_L38 S M _ x0 x1 x2 h_x0 r (fun v10 hf => ?_) 1000 true (0 : Int32) hf
        refine z_iload_n S 0 dX10_mayBe_117 rfl rfl ?_
        exact z_zretI (v := v10) S M rfl dX10_mayBe_118 hf
      · refine z_iconst (v := 0) S dX10_mayBe_33 (by decide) ?_
        refine z_istore_n (lv' := [(3, .int (0 : Int32)), (0, .ref (ad E x0)), (1, .int x1), (2, .int x2)]) S dX10_mayBe_34 rfl (by decide) rfl ?_
        refine z_iconst (v := 0) S dX10_mayBe_35 (by decide) ?_
        refine z_istore (lv' := [(4, .int (0 : Int32)), (3, .int (0 : Int32)), (0, .ref (ad E x0)), (1, .int x1), (2, .int x2)]) S dX10_mayBe_36 (by decide) rfl ?_
        refine z_sub [2, 3, 4, 1, 0] rfl ?_
        refine w_X10_mayBe_L38 S M _ x0 x1 x2 h_x0 r (fun v11 hf => ?_) 1000 false (0 : Int32) hf
        refine z_iload_n S 0 dX10_mayBe_117 rfl rfl ?_
        exact z_zretI (v := v11) S M rfl dX10_mayBe_118 hf
theorem m_X10_mayBe (l : Launch) (E : Ev) (P : PH) (x0 : Nat) (x1 : Int32) (x2 : Int32) (h_x0 : ok x0 8 0) (r : (Bool × PH)) (hf : f_X10_mayBe P x0 x1 x2 = some r) : CtI l E yX10_mayBe cX10_mayBe 6 (some .boolean) r_X10_mayBe [.ref (ad E x0), .int x1, .int x2] P (b2i r.1) r.2 :=
  z_body (own := RX10) (by decide +kernel) rfl (Nat.le_of_ble_eq_true rfl) rfl (fun x _ S M => w_X10_mayBe S M P x0 x1 x2 h_x0 r hf)
-- yX10_mayIn
theorem dX10_mayIn_0 : decode cX10_mayIn 0 = .ok (.iconst 0, 1) := by decide +kernel
theorem dX10_mayIn_1 : decode cX10_mayIn 1 = .ok (.istore_n 2, 1) := by decide +kernel
theorem dX10_mayIn_2 : decode cX10_mayIn 2 = .ok (.iconst 0, 1) := by decide +kernel
theorem dX10_mayIn_3 : decode cX10_mayIn 3 = .ok (.istore_n 3, 1) := by decide +kernel
theorem dX10_mayIn_4 : decode cX10_mayIn 4 = .ok (.iload_n 3, 1) := by decide +kernel
theorem dX10_mayIn_5 : decode cX10_mayIn 5 = .ok (.aload_n 0, 1) := by decide +kernel
theorem dX10_mayIn_6 : decode cX10_mayIn 6 = .ok (.getfield 61, 3) := by decide +kernel
theorem dX10_mayIn_9 : decode cX10_mayIn 9 = .ok (.if_icmp .ge 28, 3) := by decide +kernel
theorem dX10_mayIn_12 : decode cX10_mayIn 12 = .ok (.iload_n 2, 1) := by decide +kernel
theorem dX10_mayIn_13 : decode cX10_mayIn 13 = .ok (.aload_n 0, 1) := by decide +kernel
theorem dX10_mayIn_14 : decode cX10_mayIn 14 = .ok (.iload_n 1, 1) := by decide +kernel
theorem dX10_mayIn_15 : decode cX10_mayIn 15 = .ok (.iload_n 3, 1) := by decide +kernel
theorem dX10_mayIn_16 : decode cX10_mayIn 16 = .ok (.invokevirtual 150, 3) := by decide +kernel
theorem dX10_mayIn_19 : decode cX10_mayIn 19 = .ok (.ifCond .eq 9, 3) := by decide +kernel
theorem dX10_mayIn_22 : decode cX10_mayIn 22 = .ok (.iconst 1, 1) := by decide +kernel
theorem dX10_mayIn_23 : decode cX10_mayIn 23 = .ok (.iload_n 3, 1) := by decide +kernel
theorem dX10_mayIn_24 : decode cX10_mayIn 24 = .ok (.ishl, 1) := by decide +kernel
theorem dX10_mayIn_25 : decode cX10_mayIn 25 = .ok (.goto 4, 3) := by decide +kernel
theorem dX10_mayIn_28 : decode cX10_mayIn 28 = .ok (.iconst 0, 1) := by decide +kernel
theorem dX10_mayIn_29 : decode cX10_mayIn 29 = .ok (.ior, 1) := by decide +kernel
theorem dX10_mayIn_30 : decode cX10_mayIn 30 = .ok (.istore_n 2, 1) := by decide +kernel
theorem dX10_mayIn_31 : decode cX10_mayIn 31 = .ok (.iinc 3 1, 3) := by decide +kernel
theorem dX10_mayIn_34 : decode cX10_mayIn 34 = .ok (.goto (-30), 3) := by decide +kernel
theorem dX10_mayIn_37 : decode cX10_mayIn 37 = .ok (.iload_n 2, 1) := by decide +kernel
theorem dX10_mayIn_38 : decode cX10_mayIn 38 = .ok (.ireturn, 1) := by decide +kernel
def r_X10_mayIn : Room := { frames := 5, cells := 0, slots := 0, locals := 111 }
def f_X10_mayIn_L4 (K : PH → Int32 → Option (Int32 × PH)) (x0 : Nat) (x1 : Int32) : Nat → PH → Int32 → Int32 → Option (Int32 × PH)
  | 0, _, _, _ => none
  | n + 1, P, x2, x3 =>
    (if (P.1 x0 1) ≤ x3 then K P x2 else ((f_X10_mayBe P x0 x1 x3).bind fun q1 => (if (b2i q1.1) = 0 then f_X10_mayIn_L4 K x0 x1 n q1.2 (x2 ||| (0 : Int32)) (x3 + (1 : Int32)) else f_X10_mayIn_L4 K x0 x1 n q1.2 (x2 ||| ((1 : Int32) <<< (x3 &&& 31))) (x3 + (1 : Int32)))))
theorem w_X10_mayIn_L4 {x : Fx} {E : Ev} (S : ZS x E r_X10_mayIn cX10_mayIn 4 RX10 (some .int)) (M : ZM x E) {K : PH → Int32 → Option (Int32 × PH)} (x0 : Nat) (x1 : Int32) (h_x0 : ok x0 8 0) (r : (Int32 × PH)) (hK : ∀ (P1 : PH) (y2 : Int32), K P1 y2 = some r → Wz x E 4 (QI E x r.1 r.2) P1 37 [(2, .int y2)] []) : ∀ (n : Nat) (P : PH) (x2 : Int32) (x3 : Int32), f_X10_mayIn_L4 K x0 x1 n P x2 x3 = some r → Wz x E 4 (QI E x r.1 r.2) P 4 [(0, .ref (ad E x0)), (1, .int x1), (2, .int x2), (3, .int x3)] [] := by
  intro n
  induction n with
  | zero => intro P x2 x3 hf; cases hf
  | succ n ih =>
    intro P x2 x3 hf
    unfold f_X10_mayIn_L4 at hf
    refine z_iload_n S 3 dX10_mayIn_4 rfl rfl ?_
    refine z_aload_n S 0 dX10_mayIn_5 rfl rfl ?_
    refine z_getI S cf_8 h_x0 1 (by decide) rfl wd668 dX10_mayIn_6 ?_
    refine z_icmp_ge (tgt := 37) S dX10_mayIn_9 (by decide) hf (fun hf => ?_) (fun hf => ?_)
    · refine z_sub [2] rfl ?_
      exact hK P x2 hf
    · refine z_iload_n S 2 dX10_mayIn_12 rfl rfl ?_
      refine z_aload_n S 0 dX10_mayIn_13 rfl rfl ?_
      refine z_iload_n S 1 dX10_mayIn_14 rfl rfl ?_
      refine z_iload_n S 3 dX10_mayIn_15 rfl rfl ?_
      refine z_callVI (rc := r_X10_mayBe) [.int x1, .int x3] S mo_X10_mayBe wd827 wd19 wd825 h_x0 (by decide) cl_8 rfl rfl (by decide) (z_room0 S M (by rfl) (by rfl)) rfl (Nat.le_of_ble_eq_true rfl) rfl dX10_mayIn_16 (fun q => b2i q.1) (fun q => q.2) (fun q hq => m_X10_mayBe (xl x) E _ _ _ _ h_x0 q hq) hf (fun q1 hf => ?_)
      refine z_if_eq (tgt := 28) S dX10_mayIn_19 (by decide) hf (fun hf => ?_) (fun hf => ?_)
      · refine z_iconst (v := 0) S dX10_mayIn_28 (by decide) ?_
        refine z_ior S dX10_mayIn_29 ?_
        refine z_istore_n (lv' := [(2, .int (x2 ||| (0 : Int32))), (0, .ref (ad E x0)), (1, .int x1), (3, .int x3)]) S dX10_mayIn_30 rfl (by decide) rfl ?_
        refine z_iinc (v := (x3 + (1 : Int32))) (lv' := [(3, .int (x3 + (1 : Int32))), (2, .int (x2 ||| (0 : Int32))), (0, .ref (ad E x0)), (1, .int x1)]) S 3 dX10_mayIn_31 rfl (by rfl) (by decide) rfl ?_
        refine z_goto (tgt := 4) S dX10_mayIn_34 (by decide) ?_
        refine z_sub [2, 3, 1, 0] rfl ?_
        exact ih q1.2 (x2 ||| (0 : Int32)) (x3 + (1 : Int32)) hf
      · refine z_iconst (v := 1) S dX10_mayIn_22 (by decide) ?_
        refine z_iload_n S 3 dX10_mayIn_23 rfl rfl ?_
        refine z_ishl S dX10_mayIn_24 ?_
        refine z_goto (tgt := 29) S dX10_mayIn_25 (by decide) ?_
        refine z_ior S dX10_mayIn_29 ?_
        refine z_istore_n (lv' := [(2, .int (x2 ||| ((1 : Int32) <<< (x3 &&& 31)))), (0, .ref (ad E x0)), (1, .int x1), (3, .int x3)]) S dX10_mayIn_30 rfl (by decide) rfl ?_
        refine z_iinc (v := (x3 + (1 : Int32))) (lv' := [(3, .int (x3 + (1 : Int32))), (2, .int (x2 ||| ((1 : Int32) <<< (x3 &&& 31)))), (0, .ref (ad E x0)), (1, .int x1)]) S 3 dX10_mayIn_31 rfl (by rfl) (by decide) rfl ?_
        refine z_goto (tgt := 4) S dX10_mayIn_34 (by decide) ?_
        refine z_sub [2, 3, 1, 0] rfl ?_
        exact ih q1.2 (x2 ||| ((1 : Int32) <<< (x3 &&& 31))) (x3 + (1 : Int32)) hf
def f_X10_mayIn (P : PH) (x0 : Nat) (x1 : Int32) : Option (Int32 × PH) :=
  f_X10_mayIn_L4 (fun P3 v2 => some (v2, P3)) x0 x1 1000 P (0 : Int32) (0 : Int32)
theorem w_X10_mayIn {x : Fx} {E : Ev} (S : ZS x E r_X10_mayIn cX10_mayIn 4 RX10 (some .int)) (M : ZM x E) (P : PH) (x0 : Nat) (x1 : Int32) (h_x0 : ok x0 8 0) (r : (Int32 × PH)) (hf : f_X10_mayIn P x0 x1 = some r) : Wz x E 4 (QI E x r.1 r.2) P 0 [(0, .ref (ad E x0)), (1, .int x1)] [] := by
  unfold f_X10_mayIn at hf
  refine z_iconst (v := 0) S dX10_mayIn_0 (by decide) ?_
  refine z_istore_n (lv' := [(2, .int (0 : Int32)), (0, .ref (ad E x0)), (1, .int x1)]) S dX10_mayIn_1 rfl (by decide) rfl ?_
  refine z_iconst (v := 0) S dX10_mayIn_2 (by decide) ?_
  refine z_istore_n (lv' := [(3, .int (0 : Int32)), (2, .int (0 : Int32)), (0, .ref (ad E x0)), (1, .int x1)]) S dX10_mayIn_3 rfl (by decide) rfl ?_
  refine z_sub [2, 3, 1, 0] rfl ?_
  refine w_X10_mayIn_L4 S M x0 x1 h_x0 r (fun P3 v2 hf => ?_) 1000 P (0 : Int32) (0 : Int32) hf
  refine z_iload_n S 0 dX10_mayIn_37 rfl rfl ?_
  exact z_iretI (v := v2) S M rfl dX10_mayIn_38 hf
theorem m_X10_mayIn (l : Launch) (E : Ev) (P : PH) (x0 : Nat) (x1 : Int32) (h_x0 : ok x0 8 0) (r : (Int32 × PH)) (hf : f_X10_mayIn P x0 x1 = some r) : CtI l E yX10_mayIn cX10_mayIn 4 (some .int) r_X10_mayIn [.ref (ad E x0), .int x1] P r.1 r.2 :=
  z_body (own := RX10) (by decide +kernel) rfl (Nat.le_of_ble_eq_true rfl) rfl (fun x _ S M => w_X10_mayIn S M P x0 x1 h_x0 r hf)
-- yX10_whoMay
theorem dX10_whoMay_0 : decode cX10_whoMay 0 = .ok (.iconst 0, 1) := by decide +kernel
theorem dX10_whoMay_1 : decode cX10_whoMay 1 = .ok (.istore_n 2, 1) := by decide +kernel
theorem dX10_whoMay_2 : decode cX10_whoMay 2 = .ok (.iconst 0, 1) := by decide +kernel
theorem dX10_whoMay_3 : decode cX10_whoMay 3 = .ok (.istore_n 3, 1) := by decide +kernel
theorem dX10_whoMay_4 : decode cX10_whoMay 4 = .ok (.iload_n 3, 1) := by decide +kernel
theorem dX10_whoMay_5 : decode cX10_whoMay 5 = .ok (.aload_n 0, 1) := by decide +kernel
theorem dX10_whoMay_6 : decode cX10_whoMay 6 = .ok (.getfield 53, 3) := by decide +kernel
theorem dX10_whoMay_9 : decode cX10_whoMay 9 = .ok (.if_icmp .ge 28, 3) := by decide +kernel
theorem dX10_whoMay_12 : decode cX10_whoMay 12 = .ok (.iload_n 2, 1) := by decide +kernel
theorem dX10_whoMay_13 : decode cX10_whoMay 13 = .ok (.aload_n 0, 1) := by decide +kernel
theorem dX10_whoMay_14 : decode cX10_whoMay 14 = .ok (.iload_n 3, 1) := by decide +kernel
theorem dX10_whoMay_15 : decode cX10_whoMay 15 = .ok (.iload_n 1, 1) := by decide +kernel
theorem dX10_whoMay_16 : decode cX10_whoMay 16 = .ok (.invokevirtual 150, 3) := by decide +kernel
theorem dX10_whoMay_19 : decode cX10_whoMay 19 = .ok (.ifCond .eq 9, 3) := by decide +kernel
theorem dX10_whoMay_22 : decode cX10_whoMay 22 = .ok (.iconst 1, 1) := by decide +kernel
theorem dX10_whoMay_23 : decode cX10_whoMay 23 = .ok (.iload_n 3, 1) := by decide +kernel
theorem dX10_whoMay_24 : decode cX10_whoMay 24 = .ok (.ishl, 1) := by decide +kernel
theorem dX10_whoMay_25 : decode cX10_whoMay 25 = .ok (.goto 4, 3) := by decide +kernel
theorem dX10_whoMay_28 : decode cX10_whoMay 28 = .ok (.iconst 0, 1) := by decide +kernel
theorem dX10_whoMay_29 : decode cX10_whoMay 29 = .ok (.ior, 1) := by decide +kernel
theorem dX10_whoMay_30 : decode cX10_whoMay 30 = .ok (.istore_n 2, 1) := by decide +kernel
theorem dX10_whoMay_31 : decode cX10_whoMay 31 = .ok (.iinc 3 1, 3) := by decide +kernel
theorem dX10_whoMay_34 : decode cX10_whoMay 34 = .ok (.goto (-30), 3) := by decide +kernel
theorem dX10_whoMay_37 : decode cX10_whoMay 37 = .ok (.iload_n 2, 1) := by decide +kernel
theorem dX10_whoMay_38 : decode cX10_whoMay 38 = .ok (.ireturn, 1) := by decide +kernel
def r_X10_whoMay : Room := { frames := 5, cells := 0, slots := 0, locals := 111 }
def f_X10_whoMay_L4 (K : PH → Int32 → Option (Int32 × PH)) (x0 : Nat) (x1 : Int32) : Nat → PH → Int32 → Int32 → Option (Int32 × PH)
  | 0, _, _, _ => none
  | n + 1, P, x2, x3 =>
    (if (P.1 x0 0) ≤ x3 then K P x2 else ((f_X10_mayBe P x0 x3 x1).bind fun q1 => (if (b2i q1.1) = 0 then f_X10_whoMay_L4 K x0 x1 n q1.2 (x2 ||| (0 : Int32)) (x3 + (1 : Int32)) else f_X10_whoMay_L4 K x0 x1 n q1.2 (x2 ||| ((1 : Int32) <<< (x3 &&& 31))) (x3 + (1 : Int32)))))
theorem w_X10_whoMay_L4 {x : Fx} {E : Ev} (S : ZS x E r_X10_whoMay cX10_whoMay 4 RX10 (some .int)) (M : ZM x E) {K : PH → Int32 → Option (Int32 × PH)} (x0 : Nat) (x1 : Int32) (h_x0 : ok x0 8 0) (r : (Int32 × PH)) (hK : ∀ (P1 : PH) (y2 : Int32), K P1 y2 = some r → Wz x E 4 (QI E x r.1 r.2) P1 37 [(2, .int y2)] []) : ∀ (n : Nat) (P : PH) (x2 : Int32) (x3 : Int32), f_X10_whoMay_L4 K x0 x1 n P x2 x3 = some r → Wz x E 4 (QI E x r.1 r.2) P 4 [(0, .ref (ad E x0)), (1, .int x1), (2, .int x2), (3, .int x3)] [] := by
  intro n
  induction n with
  | zero => intro P x2 x3 hf; cases hf
  | succ n ih =>
    intro P x2 x3 hf
    unfold f_X10_whoMay_L4 at hf
    refine z_iload_n S 3 dX10_whoMay_4 rfl rfl ?_
    refine z_aload_n S 0 dX10_whoMay_5 rfl rfl ?_
    refine z_getI S cf_8 h_x0 0 (by decide) rfl wd667 dX10_whoMay_6 ?_
    refine z_icmp_ge (tgt := 37) S dX10_whoMay_9 (by decide) hf (fun hf => ?_) (fun hf => ?_)
    · refine z_sub [2] rfl ?_
      exact hK P x2 hf
    · refine z_iload_n S 2 dX10_whoMay_12 rfl rfl ?_
      refine z_aload_n S 0 dX10_whoMay_13 rfl rfl ?_
      refine z_iload_n S 3 dX10_whoMay_14 rfl rfl ?_
      refine z_iload_n S 1 dX10_whoMay_15 rfl rfl ?_
      refine z_callVI (rc := r_X10_mayBe) [.int x3, .int x1] S mo_X10_mayBe wd827 wd19 wd825 h_x0 (by decide) cl_8 rfl rfl (by decide) (z_room0 S M (by rfl) (by rfl)) rfl (Nat.le_of_ble_eq_true rfl) rfl dX10_whoMay_16 (fun q => b2i q.1) (fun q => q.2) (fun q hq => m_X10_mayBe (xl x) E _ _ _ _ h_x0 q hq) hf (fun q1 hf => ?_)
      refine z_if_eq (tgt := 28) S dX10_whoMay_19 (by decide) hf (fun hf => ?_) (fun hf => ?_)
      · refine z_iconst (v := 0) S dX10_whoMay_28 (by decide) ?_
        refine z_ior S dX10_whoMay_29 ?_
        refine z_istore_n (lv' := [(2, .int (x2 ||| (0 : Int32))), (0, .ref (ad E x0)), (1, .int x1), (3, .int x3)]) S dX10_whoMay_30 rfl (by decide) rfl ?_
        refine z_iinc (v := (x3 + (1 : Int32))) (lv' := [(3, .int (x3 + (1 : Int32))), (2, .int (x2 ||| (0 : Int32))), (0, .ref (ad E x0)), (1, .int x1)]) S 3 dX10_whoMay_31 rfl (by rfl) (by decide) rfl ?_
        refine z_goto (tgt := 4) S dX10_whoMay_34 (by decide) ?_
        refine z_sub [2, 3, 1, 0] rfl ?_
        exact ih q1.2 (x2 ||| (0 : Int32)) (x3 + (1 : Int32)) hf
      · refine z_iconst (v := 1) S dX10_whoMay_22 (by decide) ?_
        refine z_iload_n S 3 dX10_whoMay_23 rfl rfl ?_
        refine z_ishl S dX10_whoMay_24 ?_
        refine z_goto (tgt := 29) S dX10_whoMay_25 (by decide) ?_
        refine z_ior S dX10_whoMay_29 ?_
        refine z_istore_n (lv' := [(2, .int (x2 ||| ((1 : Int32) <<< (x3 &&& 31)))), (0, .ref (ad E x0)), (1, .int x1), (3, .int x3)]) S dX10_whoMay_30 rfl (by decide) rfl ?_
        refine z_iinc (v := (x3 + (1 : Int32))) (lv' := [(3, .int (x3 + (1 : Int32))), (2, .int (x2 ||| ((1 : Int32) <<< (x3 &&& 31)))), (0, .ref (ad E x0)), (1, .int x1)]) S 3 dX10_whoMay_31 rfl (by rfl) (by decide) rfl ?_
        refine z_goto (tgt := 4) S dX10_whoMay_34 (by decide) ?_
        refine z_sub [2, 3, 1, 0] rfl ?_
        exact ih q1.2 (x2 ||| ((1 : Int32) <<< (x3 &&& 31))) (x3 + (1 : Int32)) hf
def f_X10_whoMay (P : PH) (x0 : Nat) (x1 : Int32) : Option (Int32 × PH) :=
  f_X10_whoMay_L4 (fun P3 v2 => some (v2, P3)) x0 x1 1000 P (0 : Int32) (0 : Int32)
theorem w_X10_whoMay {x : Fx} {E : Ev} (S : ZS x E r_X10_whoMay cX10_whoMay 4 RX10 (some .int)) (M : ZM x E) (P : PH) (x0 : Nat) (x1 : Int32) (h_x0 : ok x0 8 0) (r : (Int32 × PH)) (hf : f_X10_whoMay P x0 x1 = some r) : Wz x E 4 (QI E x r.1 r.2) P 0 [(0, .ref (ad E x0)), (1, .int x1)] [] := by
  unfold f_X10_whoMay at hf
  refine z_iconst (v := 0) S dX10_whoMay_0 (by decide) ?_
  refine z_istore_n (lv' := [(2, .int (0 : Int32)), (0, .ref (ad E x0)), (1, .int x1)]) S dX10_whoMay_1 rfl (by decide) rfl ?_
  refine z_iconst (v := 0) S dX10_whoMay_2 (by decide) ?_
  refine z_istore_n (lv' := [(3, .int (0 : Int32)), (2, .int (0 : Int32)), (0, .ref (ad E x0)), (1, .int x1)]) S dX10_whoMay_3 rfl (by decide) rfl ?_
  refine z_sub [2, 3, 1, 0] rfl ?_
  refine w_X10_whoMay_L4 S M x0 x1 h_x0 r (fun P3 v2 hf => ?_) 1000 P (0 : Int32) (0 : Int32) hf
  refine z_iload_n S 0 dX10_whoMay_37 rfl rfl ?_
  exact z_iretI (v := v2) S M rfl dX10_whoMay_38 hf
theorem m_X10_whoMay (l : Launch) (E : Ev) (P : PH) (x0 : Nat) (x1 : Int32) (h_x0 : ok x0 8 0) (r : (Int32 × PH)) (hf : f_X10_whoMay P x0 x1 = some r) : CtI l E yX10_whoMay cX10_whoMay 4 (some .int) r_X10_whoMay [.ref (ad E x0), .int x1] P r.1 r.2 :=
  z_body (own := RX10) (by decide +kernel) rfl (Nat.le_of_ble_eq_true rfl) rfl (fun x _ S M => w_X10_whoMay S M P x0 x1 h_x0 r hf)
-- yX10_goesBy
theorem dX10_goesBy_0 : decode cX10_goesBy 0 = .ok (.aload_n 0, 1) := by decide +kernel
theorem dX10_goesBy_1 : decode cX10_goesBy 1 = .ok (.iload_n 1, 1) := by decide +kernel
theorem dX10_goesBy_2 : decode cX10_goesBy 2 = .ok (.invokevirtual 144, 3) := by decide +kernel
theorem dX10_goesBy_5 : decode cX10_goesBy 5 = .ok (.ifCond .eq 12, 3) := by decide +kernel
theorem dX10_goesBy_8 : decode cX10_goesBy 8 = .ok (.aload_n 0, 1) := by decide +kernel
theorem dX10_goesBy_9 : decode cX10_goesBy 9 = .ok (.getfield 7, 3) := by decide +kernel
theorem dX10_goesBy_12 : decode cX10_goesBy 12 = .ok (.iload_n 1, 1) := by decide +kernel
theorem dX10_goesBy_13 : decode cX10_goesBy 13 = .ok (.iaload, 1) := by decide +kernel
theorem dX10_goesBy_14 : decode cX10_goesBy 14 = .ok (.ifCond .ge 5, 3) := by decide +kernel
theorem dX10_goesBy_17 : decode cX10_goesBy 17 = .ok (.iconst 0, 1) := by decide +kernel
theorem dX10_goesBy_18 : decode cX10_goesBy 18 = .ok (.ireturn, 1) := by decide +kernel
theorem dX10_goesBy_19 : decode cX10_goesBy 19 = .ok (.iconst 1, 1) := by decide +kernel
theorem dX10_goesBy_20 : decode cX10_goesBy 20 = .ok (.aload_n 0, 1) := by decide +kernel
theorem dX10_goesBy_21 : decode cX10_goesBy 21 = .ok (.getfield 7, 3) := by decide +kernel
theorem dX10_goesBy_24 : decode cX10_goesBy 24 = .ok (.iload_n 1, 1) := by decide +kernel
theorem dX10_goesBy_25 : decode cX10_goesBy 25 = .ok (.iaload, 1) := by decide +kernel
theorem dX10_goesBy_26 : decode cX10_goesBy 26 = .ok (.ishl, 1) := by decide +kernel
theorem dX10_goesBy_27 : decode cX10_goesBy 27 = .ok (.istore_n 3, 1) := by decide +kernel
theorem dX10_goesBy_28 : decode cX10_goesBy 28 = .ok (.iconst 0, 1) := by decide +kernel
theorem dX10_goesBy_29 : decode cX10_goesBy 29 = .ok (.istore 4, 2) := by decide +kernel
theorem dX10_goesBy_31 : decode cX10_goesBy 31 = .ok (.iload 4, 2) := by decide +kernel
theorem dX10_goesBy_33 : decode cX10_goesBy 33 = .ok (.aload_n 0, 1) := by decide +kernel
theorem dX10_goesBy_34 : decode cX10_goesBy 34 = .ok (.getfield 61, 3) := by decide +kernel
theorem dX10_goesBy_37 : decode cX10_goesBy 37 = .ok (.if_icmp .ge 52, 3) := by decide +kernel
theorem dX10_goesBy_40 : decode cX10_goesBy 40 = .ok (.iconst 0, 1) := by decide +kernel
theorem dX10_goesBy_41 : decode cX10_goesBy 41 = .ok (.istore 5, 2) := by decide +kernel
theorem dX10_goesBy_43 : decode cX10_goesBy 43 = .ok (.iload 5, 2) := by decide +kernel
theorem dX10_goesBy_45 : decode cX10_goesBy 45 = .ok (.aload_n 0, 1) := by decide +kernel
theorem dX10_goesBy_46 : decode cX10_goesBy 46 = .ok (.getfield 61, 3) := by decide +kernel
theorem dX10_goesBy_49 : decode cX10_goesBy 49 = .ok (.if_icmp .ge 34, 3) := by decide +kernel
theorem dX10_goesBy_52 : decode cX10_goesBy 52 = .ok (.iload_n 3, 1) := by decide +kernel
theorem dX10_goesBy_53 : decode cX10_goesBy 53 = .ok (.iload_n 3, 1) := by decide +kernel
theorem dX10_goesBy_54 : decode cX10_goesBy 54 = .ok (.iload 5, 2) := by decide +kernel
theorem dX10_goesBy_56 : decode cX10_goesBy 56 = .ok (.invokestatic 137, 3) := by decide +kernel
theorem dX10_goesBy_59 : decode cX10_goesBy 59 = .ok (.ifCond .eq 15, 3) := by decide +kernel
theorem dX10_goesBy_62 : decode cX10_goesBy 62 = .ok (.aload_n 0, 1) := by decide +kernel
theorem dX10_goesBy_63 : decode cX10_goesBy 63 = .ok (.getfield 16, 3) := by decide +kernel
theorem dX10_goesBy_66 : decode cX10_goesBy 66 = .ok (.iload 5, 2) := by decide +kernel
theorem dX10_goesBy_68 : decode cX10_goesBy 68 = .ok (.iaload, 1) := by decide +kernel
theorem dX10_goesBy_69 : decode cX10_goesBy 69 = .ok (.iload_n 2, 1) := by decide +kernel
theorem dX10_goesBy_70 : decode cX10_goesBy 70 = .ok (.iand, 1) := by decide +kernel
theorem dX10_goesBy_71 : decode cX10_goesBy 71 = .ok (.goto 4, 3) := by decide +kernel
theorem dX10_goesBy_74 : decode cX10_goesBy 74 = .ok (.iconst 0, 1) := by decide +kernel
theorem dX10_goesBy_75 : decode cX10_goesBy 75 = .ok (.ior, 1) := by decide +kernel
theorem dX10_goesBy_76 : decode cX10_goesBy 76 = .ok (.istore_n 3, 1) := by decide +kernel
theorem dX10_goesBy_77 : decode cX10_goesBy 77 = .ok (.iinc 5 1, 3) := by decide +kernel
theorem dX10_goesBy_80 : decode cX10_goesBy 80 = .ok (.goto (-37), 3) := by decide +kernel
theorem dX10_goesBy_83 : decode cX10_goesBy 83 = .ok (.iinc 4 1, 3) := by decide +kernel
theorem dX10_goesBy_86 : decode cX10_goesBy 86 = .ok (.goto (-55), 3) := by decide +kernel
theorem dX10_goesBy_89 : decode cX10_goesBy 89 = .ok (.iload_n 3, 1) := by decide +kernel
theorem dX10_goesBy_90 : decode cX10_goesBy 90 = .ok (.ireturn, 1) := by decide +kernel
def r_X10_goesBy : Room := { frames := 3, cells := 0, slots := 0, locals := 64 }
def f_X10_goesBy_L43 (K : Int32 → Option Int32) (P : PH) (x0 : Nat) (x2 : Int32) (x4 : Int32) : Nat → Int32 → Int32 → Option Int32
  | 0, _, _ => none
  | n + 1, x3, x5 =>
    (if (P.1 x0 1) ≤ x5 then K x3 else ((f_X10_has P x3 x5).bind fun q1 => (if (b2i q1) = 0 then f_X10_goesBy_L43 K P x0 x2 x4 n (x3 ||| (0 : Int32)) (x5 + (1 : Int32)) else (if (x5 < 0 ∨ 7 ≤ x5.toNatClampNeg) then none else f_X10_goesBy_L43 K P x0 x2 x4 n (x3 ||| ((P.1 (P.2.2 x0 4) x5.toNatClampNeg) &&& x2)) (x5 + (1 : Int32))))))
theorem w_X10_goesBy_L43 {x : Fx} {E : Ev} (S : ZS x E r_X10_goesBy cX10_goesBy 6 RX10 (some .int)) (M : ZM x E) {K : Int32 → Option Int32} (P : PH) (x0 : Nat) (x2 : Int32) (x4 : Int32) (h_x0 : ok x0 8 0) (r : Int32) (hK : ∀ (y3 : Int32), K y3 = some r → Wz x E 6 (QI E x r P) P 83 [(0, .ref (ad E x0)), (2, .int x2), (3, .int y3), (4, .int x4)] []) : ∀ (n : Nat) (x3 : Int32) (x5 : Int32), f_X10_goesBy_L43 K P x0 x2 x4 n x3 x5 = some r → Wz x E 6 (QI E x r P) P 43 [(0, .ref (ad E x0)), (2, .int x2), (3, .int x3), (4, .int x4), (5, .int x5)] [] := by
  intro n
  induction n with
  | zero => intro x3 x5 hf; cases hf
  | succ n ih =>
    intro x3 x5 hf
    unfold f_X10_goesBy_L43 at hf
    refine z_iload S 4 dX10_goesBy_43 rfl ?_
    refine z_aload_n S 0 dX10_goesBy_45 rfl rfl ?_
    refine z_getI S cf_8 h_x0 1 (by decide) rfl wd668 dX10_goesBy_46 ?_
    refine z_icmp_ge (tgt := 83) S dX10_goesBy_49 (by decide) hf (fun hf => ?_) (fun hf => ?_)
    · refine z_sub [0, 1, 2, 3] rfl ?_
      exact hK x3 hf
    · refine z_iload_n S 2 dX10_goesBy_52 rfl rfl ?_
      refine z_iload_n S 2 dX10_goesBy_53 rfl rfl ?_
      refine z_iload S 4 dX10_goesBy_54 rfl ?_
      refine z_callSI (rc := r_X10_has) [.int x3, .int x5] S mo_X10_has wd834 wd833 rfl rfl (by decide) (z_room0 S M (by rfl) (by rfl)) rfl (Nat.le_of_ble_eq_true rfl) rfl dX10_goesBy_56 (fun q => b2i q) (fun _ => P) (fun q hq => m_X10_has (xl x) E _ _ _  q hq) hf (fun q1 hf => ?_)
      refine z_if_eq (tgt := 74) S dX10_goesBy_59 (by decide) hf (fun hf => ?_) (fun hf => ?_)
      · refine z_iconst (v := 0) S dX10_goesBy_74 (by decide) ?_
        refine z_ior S dX10_goesBy_75 ?_
        refine z_istore_n (lv' := [(3, .int (x3 ||| (0 : Int32))), (0, .ref (ad E x0)), (2, .int x2), (4, .int x4), (5, .int x5)]) S dX10_goesBy_76 rfl (by decide) rfl ?_
        refine z_iinc (v := (x5 + (1 : Int32))) (lv' := [(5, .int (x5 + (1 : Int32))), (3, .int (x3 ||| (0 : Int32))), (0, .ref (ad E x0)), (2, .int x2), (4, .int x4)]) S 4 dX10_goesBy_77 rfl (by rfl) (by decide) rfl ?_
        refine z_goto (tgt := 43) S dX10_goesBy_80 (by decide) ?_
        refine z_sub [2, 3, 1, 4, 0] rfl ?_
        exact ih (x3 ||| (0 : Int32)) (x5 + (1 : Int32)) hf
      · refine z_aload_n S 0 dX10_goesBy_62 rfl rfl ?_
        refine z_getR (K' := 9) (n' := 7) S cf_8 h_x0 4 (by decide) rfl rfl rfl wd671 dX10_goesBy_63 (fun h2 => ?_)
        refine z_iload S 4 dX10_goesBy_66 rfl ?_
        refine z_iald S h2 dX10_goesBy_68 hf (fun hf => ?_)
        refine z_iload_n S 1 dX10_goesBy_69 rfl rfl ?_
        refine z_iand S dX10_goesBy_70 ?_
        refine z_goto (tgt := 75) S dX10_goesBy_71 (by decide) ?_
        refine z_ior S dX10_goesBy_75 ?_
        refine z_istore_n (lv' := [(3, .int (x3 ||| ((P.1 (P.2.2 x0 4) x5.toNatClampNeg) &&& x2))), (0, .ref (ad E x0)), (2, .int x2), (4, .int x4), (5, .int x5)]) S dX10_goesBy_76 rfl (by decide) rfl ?_
        refine z_iinc (v := (x5 + (1 : Int32))) (lv' := [(5, .int (x5 + (1 : Int32))), (3, .int (x3 ||| ((P.1 (P.2.2 x0 4) x5.toNatClampNeg) &&& x2))), (0, .ref (ad E x0)), (2, .int x2), (4, .int x4)]) S 4 dX10_goesBy_77 rfl (by rfl) (by decide) rfl ?_
        refine z_goto (tgt := 43) S dX10_goesBy_80 (by decide) ?_
        refine z_sub [2, 3, 1, 4, 0] rfl ?_
        exact ih (x3 ||| ((P.1 (P.2.2 x0 4) x5.toNatClampNeg) &&& x2)) (x5 + (1 : Int32)) hf
def f_X10_goesBy_L31 (K : Int32 → Option Int32) (P : PH) (x0 : Nat) (x2 : Int32) : Nat → Int32 → Int32 → Option Int32
  | 0, _, _ => none
  | n + 1, x3, x4 =>
    (if (P.1 x0 1) ≤ x4 then K x3 else f_X10_goesBy_L43 (fun v3 => f_X10_goesBy_L31 K P x0 x2 n v3 (x4 + (1 : Int32))) P x0 x2 x4 1000 x3 (0 : Int32))
theorem w_X10_goesBy_L31 {x : Fx} {E : Ev} (S : ZS x E r_X10_goesBy cX10_goesBy 6 RX10 (some .int)) (M : ZM x E) {K : Int32 → Option Int32} (P : PH) (x0 : Nat) (x2 : Int32) (h_x0 : ok x0 8 0) (r : Int32) (hK : ∀ (y3 : Int32), K y3 = some r → Wz x E 6 (QI E x r P) P 89 [(3, .int y3)] []) : ∀ (n : Nat) (x3 : Int32) (x4 : Int32), f_X10_goesBy_L31 K P x0 x2 n x3 x4 = some r → Wz x E 6 (QI E x r P) P 31 [(0, .ref (ad E x0)), (2, .int x2), (3, .int x3), (4, .int x4)] [] := by
  intro n
  induction n with
  | zero => intro x3 x4 hf; cases hf
  | succ n ih =>
    intro x3 x4 hf
    unfold f_X10_goesBy_L31 at hf
    refine z_iload S 3 dX10_goesBy_31 rfl ?_
    refine z_aload_n S 0 dX10_goesBy_33 rfl rfl ?_
    refine z_getI S cf_8 h_x0 1 (by decide) rfl wd668 dX10_goesBy_34 ?_
    refine z_icmp_ge (tgt := 89) S dX10_goesBy_37 (by decide) hf (fun hf => ?_) (fun hf => ?_)
    · refine z_sub [2] rfl ?_
      exact hK x3 hf
    · refine z_iconst (v := 0) S dX10_goesBy_40 (by decide) ?_
      refine z_istore (lv' := [(5, .int (0 : Int32)), (0, .ref (ad E x0)), (2, .int x2), (3, .int x3), (4, .int x4)]) S dX10_goesBy_41 (by decide) rfl ?_
      refine z_sub [1, 2, 3, 4, 0] rfl ?_
      refine w_X10_goesBy_L43 S M _ x0 x2 x4 h_x0 r (fun v3 hf => ?_) 1000 x3 (0 : Int32) hf
      refine z_iinc (v := (x4 + (1 : Int32))) (lv' := [(4, .int (x4 + (1 : Int32))), (0, .ref (ad E x0)), (2, .int x2), (3, .int v3)]) S 3 dX10_goesBy_83 rfl (by rfl) (by decide) rfl ?_
      refine z_goto (tgt := 31) S dX10_goesBy_86 (by decide) ?_
      refine z_sub [1, 2, 3, 0] rfl ?_
      exact ih v3 (x4 + (1 : Int32)) hf
def f_X10_goesBy (P : PH) (x0 : Nat) (x1 : Int32) (x2 : Int32) : Option Int32 :=
  ((f_X10_isAlive P x0 x1).bind fun q4 => (if (b2i q4) = 0 then some (0 : Int32) else (if (x1 < 0 ∨ 6 ≤ x1.toNatClampNeg) then none else (if 0 ≤ (P.1 (P.2.2 x0 2) x1.toNatClampNeg) then (if (x1 < 0 ∨ 6 ≤ x1.toNatClampNeg) then none else ((some ((1 : Int32) <<< ((P.1 (P.2.2 x0 2) x1.toNatClampNeg) &&& 31))).bind fun u7 => f_X10_goesBy_L31 (fun v8 => some v8) P x0 x2 1000 u7 (0 : Int32))) else some (0 : Int32)))))
theorem w_X10_goesBy {x : Fx} {E : Ev} (S : ZS x E r_X10_goesBy cX10_goesBy 6 RX10 (some .int)) (M : ZM x E) (P : PH) (x0 : Nat) (x1 : Int32) (x2 : Int32) (h_x0 : ok x0 8 0) (r : Int32) (hf : f_X10_goesBy P x0 x1 x2 = some r) : Wz x E 6 (QI E x r P) P 0 [(0, .ref (ad E x0)), (1, .int x1), (2, .int x2)] [] := by
  unfold f_X10_goesBy at hf
  refine z_aload_n S 0 dX10_goesBy_0 rfl rfl ?_
  refine z_iload_n S 1 dX10_goesBy_1 rfl rfl ?_
  refine z_callVI (rc := r_X10_isAlive) [.int x1] S mo_X10_isAlive wd831 wd20 wd829 h_x0 (by decide) cl_8 rfl rfl (by decide) (z_room0 S M (by rfl) (by rfl)) rfl (Nat.le_of_ble_eq_true rfl) rfl dX10_goesBy_2 (fun q => b2i q) (fun _ => P) (fun q hq => m_X10_isAlive (xl x) E _ _ _ h_x0 q hq) hf (fun q4 hf => ?_)
  refine z_if_eq (tgt := 17) S dX10_goesBy_5 (by decide) hf (fun hf => ?_) (fun hf => ?_)
  · refine z_iconst (v := 0) S dX10_goesBy_17 (by decide) ?_
    exact z_iretP (v := (0 : Int32)) S M rfl dX10_goesBy_18 hf
  · refine z_aload_n S 0 dX10_goesBy_8 rfl rfl ?_
    refine z_getR (K' := 9) (n' := 6) S cf_8 h_x0 2 (by decide) rfl rfl rfl wd669 dX10_goesBy_9 (fun h5 => ?_)
    refine z_iload_n S 1 dX10_goesBy_12 rfl rfl ?_
    refine z_iald S h5 dX10_goesBy_13 hf (fun hf => ?_)
    refine z_if_ge (tgt := 19) S dX10_goesBy_14 (by decide) hf (fun hf => ?_) (fun hf => ?_)
    · refine z_iconst (v := 1) S dX10_goesBy_19 (by decide) ?_
      refine z_aload_n S 0 dX10_goesBy_20 rfl rfl ?_
      refine z_getR (K' := 9) (n' := 6) S cf_8 h_x0 2 (by decide) rfl rfl rfl wd669 dX10_goesBy_21 (fun h6 => ?_)
      refine z_iload_n S 1 dX10_goesBy_24 rfl rfl ?_
      refine z_iald S h6 dX10_goesBy_25 hf (fun hf => ?_)
      refine z_ishl S dX10_goesBy_26 ?_
      refine z_nm hf (fun u7 hf => ?_)
      refine z_istore_n (lv' := [(3, .int u7), (0, .ref (ad E x0)), (1, .int x1), (2, .int x2)]) S dX10_goesBy_27 rfl (by decide) rfl ?_
      refine z_iconst (v := 0) S dX10_goesBy_28 (by decide) ?_
      refine z_istore (lv' := [(4, .int (0 : Int32)), (3, .int u7), (0, .ref (ad E x0)), (1, .int x1), (2, .int x2)]) S dX10_goesBy_29 (by decide) rfl ?_
      refine z_sub [2, 4, 1, 0] rfl ?_
      refine w_X10_goesBy_L31 S M _ x0 x2 h_x0 r (fun v8 hf => ?_) 1000 u7 (0 : Int32) hf
      refine z_iload_n S 0 dX10_goesBy_89 rfl rfl ?_
      exact z_iretP (v := v8) S M rfl dX10_goesBy_90 hf
    · refine z_iconst (v := 0) S dX10_goesBy_17 (by decide) ?_
      exact z_iretP (v := (0 : Int32)) S M rfl dX10_goesBy_18 hf
theorem m_X10_goesBy (l : Launch) (E : Ev) (P : PH) (x0 : Nat) (x1 : Int32) (x2 : Int32) (h_x0 : ok x0 8 0) (r : Int32) (hf : f_X10_goesBy P x0 x1 x2 = some r) : CtI l E yX10_goesBy cX10_goesBy 6 (some .int) r_X10_goesBy [.ref (ad E x0), .int x1, .int x2] P r P :=
  z_body (own := RX10) (by decide +kernel) rfl (Nat.le_of_ble_eq_true rfl) rfl (fun x _ S M => w_X10_goesBy S M P x0 x1 x2 h_x0 r hf)
-- yX10_isCutOffBy
theorem dX10_isCutOffBy_0 : decode cX10_isCutOffBy 0 = .ok (.aload_n 0, 1) := by decide +kernel
theorem dX10_isCutOffBy_1 : decode cX10_isCutOffBy 1 = .ok (.iload_n 1, 1) := by decide +kernel
theorem dX10_isCutOffBy_2 : decode cX10_isCutOffBy 2 = .ok (.invokevirtual 144, 3) := by decide +kernel
theorem dX10_isCutOffBy_5 : decode cX10_isCutOffBy 5 = .ok (.ifCond .eq 25, 3) := by decide +kernel
theorem dX10_isCutOffBy_8 : decode cX10_isCutOffBy 8 = .ok (.aload_n 0, 1) := by decide +kernel
theorem dX10_isCutOffBy_9 : decode cX10_isCutOffBy 9 = .ok (.getfield 13, 3) := by decide +kernel
theorem dX10_isCutOffBy_12 : decode cX10_isCutOffBy 12 = .ok (.iload_n 1, 1) := by decide +kernel
theorem dX10_isCutOffBy_13 : decode cX10_isCutOffBy 13 = .ok (.iaload, 1) := by decide +kernel
theorem dX10_isCutOffBy_14 : decode cX10_isCutOffBy 14 = .ok (.aload_n 0, 1) := by decide +kernel
theorem dX10_isCutOffBy_15 : decode cX10_isCutOffBy 15 = .ok (.iload_n 1, 1) := by decide +kernel
theorem dX10_isCutOffBy_16 : decode cX10_isCutOffBy 16 = .ok (.iload_n 2, 1) := by decide +kernel
theorem dX10_isCutOffBy_17 : decode cX10_isCutOffBy 17 = .ok (.invokevirtual 153, 3) := by decide +kernel
theorem dX10_isCutOffBy_20 : decode cX10_isCutOffBy 20 = .ok (.iconst (-1), 1) := by decide +kernel
theorem dX10_isCutOffBy_21 : decode cX10_isCutOffBy 21 = .ok (.ixor, 1) := by decide +kernel
theorem dX10_isCutOffBy_22 : decode cX10_isCutOffBy 22 = .ok (.iand, 1) := by decide +kernel
theorem dX10_isCutOffBy_23 : decode cX10_isCutOffBy 23 = .ok (.ifCond .eq 7, 3) := by decide +kernel
theorem dX10_isCutOffBy_26 : decode cX10_isCutOffBy 26 = .ok (.iconst 1, 1) := by decide +kernel
theorem dX10_isCutOffBy_27 : decode cX10_isCutOffBy 27 = .ok (.goto 4, 3) := by decide +kernel
theorem dX10_isCutOffBy_30 : decode cX10_isCutOffBy 30 = .ok (.iconst 0, 1) := by decide +kernel
theorem dX10_isCutOffBy_31 : decode cX10_isCutOffBy 31 = .ok (.ireturn, 1) := by decide +kernel
def r_X10_isCutOffBy : Room := { frames := 4, cells := 0, slots := 0, locals := 89 }
def f_X10_isCutOffBy (P : PH) (x0 : Nat) (x1 : Int32) (x2 : Int32) : Option Bool :=
  ((f_X10_isAlive P x0 x1).bind fun q1 => (if (b2i q1) = 0 then some false else (if (x1 < 0 ∨ 6 ≤ x1.toNatClampNeg) then none else ((f_X10_goesBy P x0 x1 x2).bind fun q3 => (if ((P.1 (P.2.2 x0 3) x1.toNatClampNeg) &&& (q3 ^^^ (-1 : Int32))) = 0 then some false else some true)))))
theorem w_X10_isCutOffBy {x : Fx} {E : Ev} (S : ZS x E r_X10_isCutOffBy cX10_isCutOffBy 3 RX10 (some .boolean)) (M : ZM x E) (P : PH) (x0 : Nat) (x1 : Int32) (x2 : Int32) (h_x0 : ok x0 8 0) (r : Bool) (hf : f_X10_isCutOffBy P x0 x1 x2 = some r) : Wz x E 3 (QI E x (b2i r) P) P 0 [(0, .ref (ad E x0)), (1, .int x1), (2, .int x2)] [] := by
  unfold f_X10_isCutOffBy at hf
  refine z_aload_n S 0 dX10_isCutOffBy_0 rfl rfl ?_
  refine z_iload_n S 1 dX10_isCutOffBy_1 rfl rfl ?_
  refine z_callVI (rc := r_X10_isAlive) [.int x1] S mo_X10_isAlive wd831 wd20 wd829 h_x0 (by decide) cl_8 rfl rfl (by decide) (z_room0 S M (by rfl) (by rfl)) rfl (Nat.le_of_ble_eq_true rfl) rfl dX10_isCutOffBy_2 (fun q => b2i q) (fun _ => P) (fun q hq => m_X10_isAlive (xl x) E _ _ _ h_x0 q hq) hf (fun q1 hf => ?_)
  refine z_if_eq (tgt := 30) S dX10_isCutOffBy_5 (by decide) hf (fun hf => ?_) (fun hf => ?_)
  · refine z_iconst (v := 0) S dX10_isCutOffBy_30 (by decide) ?_
    exact z_zretP (v := false) S M rfl dX10_isCutOffBy_31 hf
  · refine z_aload_n S 0 dX10_isCutOffBy_8 rfl rfl ?_
    refine z_getR (K' := 9) (n' := 6) S cf_8 h_x0 3 (by decide) rfl rfl rfl wd670 dX10_isCutOffBy_9 (fun h2 => ?_)
    refine z_iload_n S 1 dX10_isCutOffBy_12 rfl rfl ?_
    refine z_iald S h2 dX10_isCutOffBy_13 hf (fun hf => ?_)
    refine z_aload_n S 0 dX10_isCutOffBy_14 rfl rfl ?_
    refine z_iload_n S 1 dX10_isCutOffBy_15 rfl rfl ?_
    refine z_iload_n S 2 dX10_isCutOffBy_16 rfl rfl ?_
    refine z_callVI (rc := r_X10_goesBy) [.int x1, .int x2] S mo_X10_goesBy wd842 wd22 wd840 h_x0 (by decide) cl_8 rfl rfl (by decide) (z_room0 S M (by rfl) (by rfl)) rfl (Nat.le_of_ble_eq_true rfl) rfl dX10_isCutOffBy_17 (fun q => q) (fun _ => P) (fun q hq => m_X10_goesBy (xl x) E _ _ _ _ h_x0 q hq) hf (fun q3 hf => ?_)
    refine z_iconst (v := (-1 : Int32)) S dX10_isCutOffBy_20 (by decide) ?_
    refine z_ixor S dX10_isCutOffBy_21 ?_
    refine z_iand S dX10_isCutOffBy_22 ?_
    refine z_if_eq (tgt := 30) S dX10_isCutOffBy_23 (by decide) hf (fun hf => ?_) (fun hf => ?_)
    · refine z_iconst (v := 0) S dX10_isCutOffBy_30 (by decide) ?_
      exact z_zretP (v := false) S M rfl dX10_isCutOffBy_31 hf
    · refine z_iconst (v := 1) S dX10_isCutOffBy_26 (by decide) ?_
      refine z_goto (tgt := 31) S dX10_isCutOffBy_27 (by decide) ?_
      exact z_zretP (v := true) S M rfl dX10_isCutOffBy_31 hf
theorem m_X10_isCutOffBy (l : Launch) (E : Ev) (P : PH) (x0 : Nat) (x1 : Int32) (x2 : Int32) (h_x0 : ok x0 8 0) (r : Bool) (hf : f_X10_isCutOffBy P x0 x1 x2 = some r) : CtI l E yX10_isCutOffBy cX10_isCutOffBy 3 (some .boolean) r_X10_isCutOffBy [.ref (ad E x0), .int x1, .int x2] P (b2i r) P :=
  z_body (own := RX10) (by decide +kernel) rfl (Nat.le_of_ble_eq_true rfl) rfl (fun x _ S M => w_X10_isCutOffBy S M P x0 x1 x2 h_x0 r hf)
-- yX10_isCutOff
theorem dX10_isCutOff_0 : decode cX10_isCutOff 0 = .ok (.aload_n 0, 1) := by decide +kernel
theorem dX10_isCutOff_1 : decode cX10_isCutOff 1 = .ok (.iload_n 1, 1) := by decide +kernel
theorem dX10_isCutOff_2 : decode cX10_isCutOff 2 = .ok (.aload_n 0, 1) := by decide +kernel
theorem dX10_isCutOff_3 : decode cX10_isCutOff 3 = .ok (.iload_n 1, 1) := by decide +kernel
theorem dX10_isCutOff_4 : decode cX10_isCutOff 4 = .ok (.invokevirtual 157, 3) := by decide +kernel
theorem dX10_isCutOff_7 : decode cX10_isCutOff 7 = .ok (.invokevirtual 160, 3) := by decide +kernel
theorem dX10_isCutOff_10 : decode cX10_isCutOff 10 = .ok (.ireturn, 1) := by decide +kernel
def r_X10_isCutOff : Room := { frames := 6, cells := 0, slots := 0, locals := 134 }
def f_X10_isCutOff (P : PH) (x0 : Nat) (x1 : Int32) : Option (Bool × PH) :=
  ((f_X10_mayIn P x0 x1).bind fun q1 => ((f_X10_isCutOffBy q1.2 x0 x1 q1.1).bind fun q2 => some (q2, q1.2)))
theorem w_X10_isCutOff {x : Fx} {E : Ev} (S : ZS x E r_X10_isCutOff cX10_isCutOff 2 RX10 (some .boolean)) (M : ZM x E) (P : PH) (x0 : Nat) (x1 : Int32) (h_x0 : ok x0 8 0) (r : (Bool × PH)) (hf : f_X10_isCutOff P x0 x1 = some r) : Wz x E 2 (QI E x (b2i r.1) r.2) P 0 [(0, .ref (ad E x0)), (1, .int x1)] [] := by
  unfold f_X10_isCutOff at hf
  refine z_aload_n S 0 dX10_isCutOff_0 rfl rfl ?_
  refine z_iload_n S 1 dX10_isCutOff_1 rfl rfl ?_
  refine z_aload_n S 0 dX10_isCutOff_2 rfl rfl ?_
  refine z_iload_n S 1 dX10_isCutOff_3 rfl rfl ?_
  refine z_callVI (rc := r_X10_mayIn) [.int x1] S mo_X10_mayIn wd823 wd18 wd821 h_x0 (by decide) cl_8 rfl rfl (by decide) (z_room0 S M (by rfl) (by rfl)) rfl (Nat.le_of_ble_eq_true rfl) rfl dX10_isCutOff_4 (fun q => q.1) (fun q => q.2) (fun q hq => m_X10_mayIn (xl x) E _ _ _ h_x0 q hq) hf (fun q1 hf => ?_)
  refine z_callVI (rc := r_X10_isCutOffBy) [.int x1, .int q1.1] S mo_X10_isCutOffBy wd850 wd24 wd848 h_x0 (by decide) cl_8 rfl rfl (by decide) (z_room0 S M (by rfl) (by rfl)) rfl (Nat.le_of_ble_eq_true rfl) rfl dX10_isCutOff_7 (fun q => b2i q) (fun _ => q1.2) (fun q hq => m_X10_isCutOffBy (xl x) E _ _ _ _ h_x0 q hq) hf (fun q2 hf => ?_)
  exact z_zretI (v := q2) S M rfl dX10_isCutOff_10 hf
theorem m_X10_isCutOff (l : Launch) (E : Ev) (P : PH) (x0 : Nat) (x1 : Int32) (h_x0 : ok x0 8 0) (r : (Bool × PH)) (hf : f_X10_isCutOff P x0 x1 = some r) : CtI l E yX10_isCutOff cX10_isCutOff 2 (some .boolean) r_X10_isCutOff [.ref (ad E x0), .int x1] P (b2i r.1) r.2 :=
  z_body (own := RX10) (by decide +kernel) rfl (Nat.le_of_ble_eq_true rfl) rfl (fun x _ S M => w_X10_isCutOff S M P x0 x1 h_x0 r hf)
-- yX10_cutOff
theorem dX10_cutOff_0 : decode cX10_cutOff 0 = .ok (.iconst 0, 1) := by decide +kernel
theorem dX10_cutOff_1 : decode cX10_cutOff 1 = .ok (.istore_n 1, 1) := by decide +kernel
theorem dX10_cutOff_2 : decode cX10_cutOff 2 = .ok (.iconst 0, 1) := by decide +kernel
theorem dX10_cutOff_3 : decode cX10_cutOff 3 = .ok (.istore_n 2, 1) := by decide +kernel
theorem dX10_cutOff_4 : decode cX10_cutOff 4 = .ok (.iload_n 2, 1) := by decide +kernel
theorem dX10_cutOff_5 : decode cX10_cutOff 5 = .ok (.aload_n 0, 1) := by decide +kernel
theorem dX10_cutOff_6 : decode cX10_cutOff 6 = .ok (.getfield 53, 3) := by decide +kernel
theorem dX10_cutOff_9 : decode cX10_cutOff 9 = .ok (.if_icmp .ge 27, 3) := by decide +kernel
theorem dX10_cutOff_12 : decode cX10_cutOff 12 = .ok (.iload_n 1, 1) := by decide +kernel
theorem dX10_cutOff_13 : decode cX10_cutOff 13 = .ok (.aload_n 0, 1) := by decide +kernel
theorem dX10_cutOff_14 : decode cX10_cutOff 14 = .ok (.iload_n 2, 1) := by decide +kernel
theorem dX10_cutOff_15 : decode cX10_cutOff 15 = .ok (.invokevirtual 163, 3) := by decide +kernel
theorem dX10_cutOff_18 : decode cX10_cutOff 18 = .ok (.ifCond .eq 9, 3) := by decide +kernel
theorem dX10_cutOff_21 : decode cX10_cutOff 21 = .ok (.iconst 1, 1) := by decide +kernel
theorem dX10_cutOff_22 : decode cX10_cutOff 22 = .ok (.iload_n 2, 1) := by decide +kernel
theorem dX10_cutOff_23 : decode cX10_cutOff 23 = .ok (.ishl, 1) := by decide +kernel
theorem dX10_cutOff_24 : decode cX10_cutOff 24 = .ok (.goto 4, 3) := by decide +kernel
theorem dX10_cutOff_27 : decode cX10_cutOff 27 = .ok (.iconst 0, 1) := by decide +kernel
theorem dX10_cutOff_28 : decode cX10_cutOff 28 = .ok (.ior, 1) := by decide +kernel
theorem dX10_cutOff_29 : decode cX10_cutOff 29 = .ok (.istore_n 1, 1) := by decide +kernel
theorem dX10_cutOff_30 : decode cX10_cutOff 30 = .ok (.iinc 2 1, 3) := by decide +kernel
theorem dX10_cutOff_33 : decode cX10_cutOff 33 = .ok (.goto (-29), 3) := by decide +kernel
theorem dX10_cutOff_36 : decode cX10_cutOff 36 = .ok (.iload_n 1, 1) := by decide +kernel
theorem dX10_cutOff_37 : decode cX10_cutOff 37 = .ok (.ireturn, 1) := by decide +kernel
def r_X10_cutOff : Room := { frames := 7, cells := 0, slots := 0, locals := 155 }
def f_X10_cutOff_L4 (K : PH → Int32 → Option (Int32 × PH)) (x0 : Nat) : Nat → PH → Int32 → Int32 → Option (Int32 × PH)
  | 0, _, _, _ => none
  | n + 1, P, x1, x2 =>
    (if (P.1 x0 0) ≤ x2 then K P x1 else ((f_X10_isCutOff P x0 x2).bind fun q1 => (if (b2i q1.1) = 0 then f_X10_cutOff_L4 K x0 n q1.2 (x1 ||| (0 : Int32)) (x2 + (1 : Int32)) else f_X10_cutOff_L4 K x0 n q1.2 (x1 ||| ((1 : Int32) <<< (x2 &&& 31))) (x2 + (1 : Int32)))))
theorem w_X10_cutOff_L4 {x : Fx} {E : Ev} (S : ZS x E r_X10_cutOff cX10_cutOff 3 RX10 (some .int)) (M : ZM x E) {K : PH → Int32 → Option (Int32 × PH)} (x0 : Nat) (h_x0 : ok x0 8 0) (r : (Int32 × PH)) (hK : ∀ (P1 : PH) (y1 : Int32), K P1 y1 = some r → Wz x E 3 (QI E x r.1 r.2) P1 36 [(1, .int y1)] []) : ∀ (n : Nat) (P : PH) (x1 : Int32) (x2 : Int32), f_X10_cutOff_L4 K x0 n P x1 x2 = some r → Wz x E 3 (QI E x r.1 r.2) P 4 [(0, .ref (ad E x0)), (1, .int x1), (2, .int x2)] [] := by
  intro n
  induction n with
  | zero => intro P x1 x2 hf; cases hf
  | succ n ih =>
    intro P x1 x2 hf
    unfold f_X10_cutOff_L4 at hf
    refine z_iload_n S 2 dX10_cutOff_4 rfl rfl ?_
    refine z_aload_n S 0 dX10_cutOff_5 rfl rfl ?_
    refine z_getI S cf_8 h_x0 0 (by decide) rfl wd667 dX10_cutOff_6 ?_
    refine z_icmp_ge (tgt := 36) S dX10_cutOff_9 (by decide) hf (fun hf => ?_) (fun hf => ?_)
    · refine z_sub [1] rfl ?_
      exact hK P x1 hf
    · refine z_iload_n S 1 dX10_cutOff_12 rfl rfl ?_
      refine z_aload_n S 0 dX10_cutOff_13 rfl rfl ?_
      refine z_iload_n S 2 dX10_cutOff_14 rfl rfl ?_
      refine z_callVI (rc := r_X10_isCutOff) [.int x2] S mo_X10_isCutOff wd846 wd23 wd844 h_x0 (by decide) cl_8 rfl rfl (by decide) (z_room0 S M (by rfl) (by rfl)) rfl (Nat.le_of_ble_eq_true rfl) rfl dX10_cutOff_15 (fun q => b2i q.1) (fun q => q.2) (fun q hq => m_X10_isCutOff (xl x) E _ _ _ h_x0 q hq) hf (fun q1 hf => ?_)
      refine z_if_eq (tgt := 27) S dX10_cutOff_18 (by decide) hf (fun hf => ?_) (fun hf => ?_)
      · refine z_iconst (v := 0) S dX10_cutOff_27 (by decide) ?_
        refine z_ior S dX10_cutOff_28 ?_
        refine z_istore_n (lv' := [(1, .int (x1 ||| (0 : Int32))), (0, .ref (ad E x0)), (2, .int x2)]) S dX10_cutOff_29 rfl (by decide) rfl ?_
        refine z_iinc (v := (x2 + (1 : Int32))) (lv' := [(2, .int (x2 + (1 : Int32))), (1, .int (x1 ||| (0 : Int32))), (0, .ref (ad E x0))]) S 2 dX10_cutOff_30 rfl (by rfl) (by decide) rfl ?_
        refine z_goto (tgt := 4) S dX10_cutOff_33 (by decide) ?_
        refine z_sub [2, 1, 0] rfl ?_
        exact ih q1.2 (x1 ||| (0 : Int32)) (x2 + (1 : Int32)) hf
      · refine z_iconst (v := 1) S dX10_cutOff_21 (by decide) ?_
        refine z_iload_n S 2 dX10_cutOff_22 rfl rfl ?_
        refine z_ishl S dX10_cutOff_23 ?_
        refine z_goto (tgt := 28) S dX10_cutOff_24 (by decide) ?_
        refine z_ior S dX10_cutOff_28 ?_
        refine z_istore_n (lv' := [(1, .int (x1 ||| ((1 : Int32) <<< (x2 &&& 31)))), (0, .ref (ad E x0)), (2, .int x2)]) S dX10_cutOff_29 rfl (by decide) rfl ?_
        refine z_iinc (v := (x2 + (1 : Int32))) (lv' := [(2, .int (x2 + (1 : Int32))), (1, .int (x1 ||| ((1 : Int32) <<< (x2 &&& 31)))), (0, .ref (ad E x0))]) S 2 dX10_cutOff_30 rfl (by rfl) (by decide) rfl ?_
        refine z_goto (tgt := 4) S dX10_cutOff_33 (by decide) ?_
        refine z_sub [2, 1, 0] rfl ?_
        exact ih q1.2 (x1 ||| ((1 : Int32) <<< (x2 &&& 31))) (x2 + (1 : Int32)) hf
def f_X10_cutOff (P : PH) (x0 : Nat) : Option (Int32 × PH) :=
  f_X10_cutOff_L4 (fun P3 v2 => some (v2, P3)) x0 1000 P (0 : Int32) (0 : Int32)
theorem w_X10_cutOff {x : Fx} {E : Ev} (S : ZS x E r_X10_cutOff cX10_cutOff 3 RX10 (some .int)) (M : ZM x E) (P : PH) (x0 : Nat) (h_x0 : ok x0 8 0) (r : (Int32 × PH)) (hf : f_X10_cutOff P x0 = some r) : Wz x E 3 (QI E x r.1 r.2) P 0 [(0, .ref (ad E x0))] [] := by
  unfold f_X10_cutOff at hf
  refine z_iconst (v := 0) S dX10_cutOff_0 (by decide) ?_
  refine z_istore_n (lv' := [(1, .int (0 : Int32)), (0, .ref (ad E x0))]) S dX10_cutOff_1 rfl (by decide) rfl ?_
  refine z_iconst (v := 0) S dX10_cutOff_2 (by decide) ?_
  refine z_istore_n (lv' := [(2, .int (0 : Int32)), (1, .int (0 : Int32)), (0, .ref (ad E x0))]) S dX10_cutOff_3 rfl (by decide) rfl ?_
  refine z_sub [2, 1, 0] rfl ?_
  refine w_X10_cutOff_L4 S M x0 h_x0 r (fun P3 v2 hf => ?_) 1000 P (0 : Int32) (0 : Int32) hf
  refine z_iload_n S 0 dX10_cutOff_36 rfl rfl ?_
  exact z_iretI (v := v2) S M rfl dX10_cutOff_37 hf
theorem m_X10_cutOff (l : Launch) (E : Ev) (P : PH) (x0 : Nat) (h_x0 : ok x0 8 0) (r : (Int32 × PH)) (hf : f_X10_cutOff P x0 = some r) : CtI l E yX10_cutOff cX10_cutOff 3 (some .int) r_X10_cutOff [.ref (ad E x0)] P r.1 r.2 :=
  z_body (own := RX10) (by decide +kernel) rfl (Nat.le_of_ble_eq_true rfl) rfl (fun x _ S M => w_X10_cutOff S M P x0 h_x0 r hf)
-- yX10_person
theorem dX10_person_0 : decode cX10_person 0 = .ok (.aload_n 0, 1) := by decide +kernel
theorem dX10_person_1 : decode cX10_person 1 = .ok (.iload_n 1, 1) := by decide +kernel
theorem dX10_person_2 : decode cX10_person 2 = .ok (.invokevirtual 134, 3) := by decide +kernel
theorem dX10_person_5 : decode cX10_person 5 = .ok (.ifCond .ne 5, 3) := by decide +kernel
theorem dX10_person_8 : decode cX10_person 8 = .ok (.iconst (-1), 1) := by decide +kernel
theorem dX10_person_9 : decode cX10_person 9 = .ok (.ireturn, 1) := by decide +kernel
theorem dX10_person_10 : decode cX10_person 10 = .ok (.aload_n 0, 1) := by decide +kernel
theorem dX10_person_11 : decode cX10_person 11 = .ok (.invokevirtual 166, 3) := by decide +kernel
theorem dX10_person_14 : decode cX10_person 14 = .ok (.iload_n 2, 1) := by decide +kernel
theorem dX10_person_15 : decode cX10_person 15 = .ok (.tableswitch 106 0 6 #[41, 52, 61, 68, 75, 86, 100], 41) := by decide +kernel
theorem dX10_person_56 : decode cX10_person 56 = .ok (.aload_n 0, 1) := by decide +kernel
theorem dX10_person_57 : decode cX10_person 57 = .ok (.getfield 19, 3) := by decide +kernel
theorem dX10_person_60 : decode cX10_person 60 = .ok (.iconst 1, 1) := by decide +kernel
theorem dX10_person_61 : decode cX10_person 61 = .ok (.iaload, 1) := by decide +kernel
theorem dX10_person_62 : decode cX10_person 62 = .ok (.iload_n 1, 1) := by decide +kernel
theorem dX10_person_63 : decode cX10_person 63 = .ok (.ishr, 1) := by decide +kernel
theorem dX10_person_64 : decode cX10_person 64 = .ok (.iconst 1, 1) := by decide +kernel
theorem dX10_person_65 : decode cX10_person 65 = .ok (.iand, 1) := by decide +kernel
theorem dX10_person_66 : decode cX10_person 66 = .ok (.ireturn, 1) := by decide +kernel
theorem dX10_person_67 : decode cX10_person 67 = .ok (.aload_n 0, 1) := by decide +kernel
theorem dX10_person_68 : decode cX10_person 68 = .ok (.getfield 19, 3) := by decide +kernel
theorem dX10_person_71 : decode cX10_person 71 = .ok (.iconst 2, 1) := by decide +kernel
theorem dX10_person_72 : decode cX10_person 72 = .ok (.iload_n 1, 1) := by decide +kernel
theorem dX10_person_73 : decode cX10_person 73 = .ok (.iadd, 1) := by decide +kernel
theorem dX10_person_74 : decode cX10_person 74 = .ok (.iaload, 1) := by decide +kernel
theorem dX10_person_75 : decode cX10_person 75 = .ok (.ireturn, 1) := by decide +kernel
theorem dX10_person_76 : decode cX10_person 76 = .ok (.aload_n 0, 1) := by decide +kernel
theorem dX10_person_77 : decode cX10_person 77 = .ok (.getfield 7, 3) := by decide +kernel
theorem dX10_person_80 : decode cX10_person 80 = .ok (.iload_n 1, 1) := by decide +kernel
theorem dX10_person_81 : decode cX10_person 81 = .ok (.iaload, 1) := by decide +kernel
theorem dX10_person_82 : decode cX10_person 82 = .ok (.ireturn, 1) := by decide +kernel
theorem dX10_person_83 : decode cX10_person 83 = .ok (.aload_n 0, 1) := by decide +kernel
theorem dX10_person_84 : decode cX10_person 84 = .ok (.getfield 13, 3) := by decide +kernel
theorem dX10_person_87 : decode cX10_person 87 = .ok (.iload_n 1, 1) := by decide +kernel
theorem dX10_person_88 : decode cX10_person 88 = .ok (.iaload, 1) := by decide +kernel
theorem dX10_person_89 : decode cX10_person 89 = .ok (.ireturn, 1) := by decide +kernel
theorem dX10_person_90 : decode cX10_person 90 = .ok (.aload_n 0, 1) := by decide +kernel
theorem dX10_person_91 : decode cX10_person 91 = .ok (.iload_n 1, 1) := by decide +kernel
theorem dX10_person_92 : decode cX10_person 92 = .ok (.aload_n 0, 1) := by decide +kernel
theorem dX10_person_93 : decode cX10_person 93 = .ok (.iload_n 1, 1) := by decide +kernel
theorem dX10_person_94 : decode cX10_person 94 = .ok (.invokevirtual 157, 3) := by decide +kernel
theorem dX10_person_97 : decode cX10_person 97 = .ok (.invokevirtual 153, 3) := by decide +kernel
theorem dX10_person_100 : decode cX10_person 100 = .ok (.ireturn, 1) := by decide +kernel
theorem dX10_person_101 : decode cX10_person 101 = .ok (.aload_n 0, 1) := by decide +kernel
theorem dX10_person_102 : decode cX10_person 102 = .ok (.iload_n 1, 1) := by decide +kernel
theorem dX10_person_103 : decode cX10_person 103 = .ok (.invokevirtual 163, 3) := by decide +kernel
theorem dX10_person_106 : decode cX10_person 106 = .ok (.ifCond .eq 7, 3) := by decide +kernel
theorem dX10_person_109 : decode cX10_person 109 = .ok (.iconst 1, 1) := by decide +kernel
theorem dX10_person_110 : decode cX10_person 110 = .ok (.goto 4, 3) := by decide +kernel
theorem dX10_person_113 : decode cX10_person 113 = .ok (.iconst 0, 1) := by decide +kernel
theorem dX10_person_114 : decode cX10_person 114 = .ok (.ireturn, 1) := by decide +kernel
theorem dX10_person_115 : decode cX10_person 115 = .ok (.aload_n 0, 1) := by decide +kernel
theorem dX10_person_116 : decode cX10_person 116 = .ok (.iload_n 1, 1) := by decide +kernel
theorem dX10_person_117 : decode cX10_person 117 = .ok (.invokevirtual 157, 3) := by decide +kernel
theorem dX10_person_120 : decode cX10_person 120 = .ok (.ireturn, 1) := by decide +kernel
theorem dX10_person_121 : decode cX10_person 121 = .ok (.iconst (-1), 1) := by decide +kernel
theorem dX10_person_122 : decode cX10_person 122 = .ok (.ireturn, 1) := by decide +kernel
def r_X10_person : Room := { frames := 7, cells := 0, slots := 0, locals := 155 }
def f_X10_person (P : PH) (x0 : Nat) (x1 : Int32) (x2 : Int32) : Option (Int32 × PH) :=
  ((f_X10_isPerson P x0 x1).bind fun q1 => (if (b2i q1) = 0 then some ((-1 : Int32), P) else ((f_X10_asItIs P x0).bind fun q2 => (if x2 = (0 : Int32) then (if ((1 : Int32) < 0 ∨ 46 ≤ (1 : Int32).toNatClampNeg) then none else some ((((q2.1 (q2.2.2 x0 5) (1 : Int32).toNatClampNeg) >>> (x1 &&& 31)) &&& (1 : Int32)), q2)) else (if x2 = (1 : Int32) then (if (((2 : Int32) + x1) < 0 ∨ 46 ≤ ((2 : Int32) + x1).toNatClampNeg) then none else some ((q2.1 (q2.2.2 x0 5) ((2 : Int32) + x1).toNatClampNeg), q2)) else (if x2 = (2 : Int32) then (if (x1 < 0 ∨ 6 ≤ x1.toNatClampNeg) then none else some ((q2.1 (q2.2.2 x0 2) x1.toNatClampNeg), q2)) else (if x2 = (3 : Int32) then (if (x1 < 0 ∨ 6 ≤ x1.toNatClampNeg) then none else some ((q2.1 (q2.2.2 x0 3) x1.toNatClampNeg), q2)) else (if x2 = (4 : Int32) then ((f_X10_mayIn q2 x0 x1).bind fun q12 => ((f_X10_goesBy q12.2 x0 x1 q12.1).bind fun q13 => some (q13, q12.2))) else (if x2 = (5 : Int32) then ((f_X10_isCutOff q2 x0 x1).bind fun q15 => (if (b2i q15.1) = 0 then some ((0 : Int32), q15.2) else some ((1 : Int32), q15.2))) else (if x2 = (6 : Int32) then ((f_X10_mayIn q2 x0 x1).bind fun q17 => some (q17.1, q17.2)) else some ((-1 : Int32), q2)))))))))))
theorem w_X10_person {x : Fx} {E : Ev} (S : ZS x E r_X10_person cX10_person 3 RX10 (some .int)) (M : ZM x E) (P : PH) (x0 : Nat) (x1 : Int32) (x2 : Int32) (h_x0 : ok x0 8 0) (r : (Int32 × PH)) (hf : f_X10_person P x0 x1 x2 = some r) : Wz x E 3 (QI E x r.1 r.2) P 0 [(0, .ref (ad E x0)), (1, .int x1), (2, .int x2)] [] := by
  unfold f_X10_person at hf
  refine z_aload_n S 0 dX10_person_0 rfl rfl ?_
  refine z_iload_n S 1 dX10_person_1 rfl rfl ?_
  refine z_callVI (rc := r_X10_isPerson) [.int x1] S mo_X10_isPerson wd815 wd16 wd813 h_x0 (by decide) cl_8 rfl rfl (by decide) (z_room0 S M (by rfl) (by rfl)) rfl (Nat.le_of_ble_eq_true rfl) rfl dX10_person_2 (fun q => b2i q) (fun _ => P) (fun q hq => m_X10_isPerson (xl x) E _ _ _ h_x0 q hq) hf (fun q1 hf => ?_)
  refine z_if_ne (tgt := 10) S dX10_person_5 (by decide) hf (fun hf => ?_) (fun hf => ?_)
  · refine z_iconst (v := (-1 : Int32)) S dX10_person_8 (by decide) ?_
    exact z_iretI (v := (-1 : Int32)) S M rfl dX10_person_9 hf
  · refine z_aload_n S 0 dX10_person_10 rfl rfl ?_
    refine z_callVV (rc := r_X10_asItIs) [] S mo_X10_asItIs wd819 wd17 wd817 h_x0 (by decide) cl_8 rfl rfl (by decide) (z_room0 S M (by rfl) (by rfl)) rfl (Nat.le_of_ble_eq_true rfl) rfl dX10_person_11  (fun q => q) (fun q hq => m_X10_asItIs (xl x) E _ _ h_x0 q hq) hf (fun q2 hf => ?_)
    refine z_iload_n S 2 dX10_person_14 rfl rfl ?_
    refine z_tif hf (fun h3 hf => ?_) (fun h3 hf => ?_)
    · refine z_tabIn (tgt := 56) S 0 dX10_person_15 (by rw [h3]; rfl) (by decide) rfl (by decide) ?_
      refine z_aload_n S 0 dX10_person_56 rfl rfl ?_
      refine z_getR (K' := 9) (n' := 46) S cf_8 h_x0 5 (by decide) rfl rfl rfl wd672 dX10_person_57 (fun h4 => ?_)
      refine z_iconst (v := 1) S dX10_person_60 (by decide) ?_
      refine z_iald S h4 dX10_person_61 hf (fun hf => ?_)
      refine z_iload_n S 1 dX10_person_62 rfl rfl ?_
      refine z_ishr S dX10_person_63 ?_
      refine z_iconst (v := 1) S dX10_person_64 (by decide) ?_
      refine z_iand S dX10_person_65 ?_
      exact z_iretI (v := (((q2.1 (q2.2.2 x0 5) (1 : Int32).toNatClampNeg) >>> (x1 &&& 31)) &&& (1 : Int32))) S M rfl dX10_person_66 hf
    refine z_tif hf (fun h5 hf => ?_) (fun h5 hf => ?_)
    · refine z_tabIn (tgt := 67) S 1 dX10_person_15 (by rw [h5]; rfl) (by decide) rfl (by decide) ?_
      refine z_aload_n S 0 dX10_person_67 rfl rfl ?_
      refine z_getR (K' := 9) (n' := 46) S cf_8 h_x0 5 (by decide) rfl rfl rfl wd672 dX10_person_68 (fun h6 => ?_)
      refine z_iconst (v := 2) S dX10_person_71 (by decide) ?_
      refine z_iload_n S 1 dX10_person_72 rfl rfl ?_
      refine z_iadd S dX10_person_73 ?_
      refine z_iald S h6 dX10_person_74 hf (fun hf => ?_)
      exact z_iretI (v := (q2.1 (q2.2.2 x0 5) ((2 : Int32) + x1).toNatClampNeg)) S M rfl dX10_person_75 hf
    refine z_tif hf (fun h7 hf => ?_) (fun h7 hf => ?_)
    · refine z_tabIn (tgt := 76) S 2 dX10_person_15 (by rw [h7]; rfl) (by decide) rfl (by decide) ?_
      refine z_aload_n S 0 dX10_person_76 rfl rfl ?_
      refine z_getR (K' := 9) (n' := 6) S cf_8 h_x0 2 (by decide) rfl rfl rfl wd669 dX10_person_77 (fun h8 => ?_)
      refine z_iload_n S 1 dX10_person_80 rfl rfl ?_
      refine z_iald S h8 dX10_person_81 hf (fun hf => ?_)
      exact z_iretI (v := (q2.1 (q2.2.2 x0 2) x1.toNatClampNeg)) S M rfl dX10_person_82 hf
    refine z_tif hf (fun h9 hf => ?_) (fun h9 hf => ?_)
    · refine z_tabIn (tgt := 83) S 3 dX10_person_15 (by rw [h9]; rfl) (by decide) rfl (by decide) ?_
      refine z_aload_n S 0 dX10_person_83 rfl rfl ?_
      refine z_getR (K' := 9) (n' := 6) S cf_8 h_x0 3 (by decide) rfl rfl rfl wd670 dX10_person_84 (fun h10 => ?_)
      refine z_iload_n S 1 dX10_person_87 rfl rfl ?_
      refine z_iald S h10 dX10_person_88 hf (fun hf => ?_)
      exact z_iretI (v := (q2.1 (q2.2.2 x0 3) x1.toNatClampNeg)) S M rfl dX10_person_89 hf
    refine z_tif hf (fun h11 hf => ?_) (fun h11 hf => ?_)
    · refine z_tabIn (tgt := 90) S 4 dX10_person_15 (by rw [h11]; rfl) (by decide) rfl (by decide) ?_
      refine z_aload_n S 0 dX10_person_90 rfl rfl ?_
      refine z_iload_n S 1 dX10_person_91 rfl rfl ?_
      refine z_aload_n S 0 dX10_person_92 rfl rfl ?_
      refine z_iload_n S 1 dX10_person_93 rfl rfl ?_
      refine z_callVI (rc := r_X10_mayIn) [.int x1] S mo_X10_mayIn wd823 wd18 wd821 h_x0 (by decide) cl_8 rfl rfl (by decide) (z_room0 S M (by rfl) (by rfl)) rfl (Nat.le_of_ble_eq_true rfl) rfl dX10_person_94 (fun q => q.1) (fun q => q.2) (fun q hq => m_X10_mayIn (xl x) E _ _ _ h_x0 q hq) hf (fun q12 hf => ?_)
      refine z_callVI (rc := r_X10_goesBy) [.int x1, .int q12.1] S mo_X10_goesBy wd842 wd22 wd840 h_x0 (by decide) cl_8 rfl rfl (by decide) (z_room0 S M (by rfl) (by rfl)) rfl (Nat.le_of_ble_eq_true rfl) rfl dX10_person_97 (fun q => q) (fun _ => q12.2) (fun q hq => m_X10_goesBy (xl x) E _ _ _ _ h_x0 q hq) hf (fun q13 hf => ?_)
      exact z_iretI (v := q13) S M rfl dX10_person_100 hf
    refine z_tif hf (fun h14 hf => ?_) (fun h14 hf => ?_)
    · refine z_tabIn (tgt := 101) S 5 dX10_person_15 (by rw [h14]; rfl) (by decide) rfl (by decide) ?_
      refine z_aload_n S 0 dX10_person_101 rfl rfl ?_
      refine z_iload_n S 1 dX10_person_102 rfl rfl ?_
      refine z_callVI (rc := r_X10_isCutOff) [.int x1] S mo_X10_isCutOff wd846 wd23 wd844 h_x0 (by decide) cl_8 rfl rfl (by decide) (z_room0 S M (by rfl) (by rfl)) rfl (Nat.le_of_ble_eq_true rfl) rfl dX10_person_103 (fun q => b2i q.1) (fun q => q.2) (fun q hq => m_X10_isCutOff (xl x) E _ _ _ h_x0 q hq) hf (fun q15 hf => ?_)
      refine z_if_eq (tgt := 113) S dX10_person_106 (by decide) hf (fun hf => ?_) (fun hf => ?_)
      · refine z_iconst (v := 0) S dX10_person_113 (by decide) ?_
        exact z_iretI (v := (0 : Int32)) S M rfl dX10_person_114 hf
      · refine z_iconst (v := 1) S dX10_person_109 (by decide) ?_
        refine z_goto (tgt := 114) S dX10_person_110 (by decide) ?_
        exact z_iretI (v := (1 : Int32)) S M rfl dX10_person_114 hf
    refine z_tif hf (fun h16 hf => ?_) (fun h16 hf => ?_)
    · refine z_tabIn (tgt := 115) S 6 dX10_person_15 (by rw [h16]; rfl) (by decide) rfl (by decide) ?_
      refine z_aload_n S 0 dX10_person_115 rfl rfl ?_
      refine z_iload_n S 1 dX10_person_116 rfl rfl ?_
      refine z_callVI (rc := r_X10_mayIn) [.int x1] S mo_X10_mayIn wd823 wd18 wd821 h_x0 (by decide) cl_8 rfl rfl (by decide) (z_room0 S M (by rfl) (by rfl)) rfl (Nat.le_of_ble_eq_true rfl) rfl dX10_person_117 (fun q => q.1) (fun q => q.2) (fun q hq => m_X10_mayIn (xl x) E _ _ _ h_x0 q hq) hf (fun q17 hf => ?_)
      exact z_iretI (v := q17.1) S M rfl dX10_person_120 hf
    refine z_tabOut (tgt := 121) S dX10_person_15 (by have e0 := lv_neT h3 (a := 0) rfl; have e1 := lv_neT h5 (a := 1) rfl; have e2 := lv_neT h7 (a := 2) rfl; have e3 := lv_neT h9 (a := 3) rfl; have e4 := lv_neT h11 (a := 4) rfl; have e5 := lv_neT h14 (a := 5) rfl; have e6 := lv_neT h16 (a := 6) rfl; omega) (by decide) ?_
    refine z_iconst (v := (-1 : Int32)) S dX10_person_121 (by decide) ?_
    exact z_iretI (v := (-1 : Int32)) S M rfl dX10_person_122 hf
theorem m_X10_person (l : Launch) (E : Ev) (P : PH) (x0 : Nat) (x1 : Int32) (x2 : Int32) (h_x0 : ok x0 8 0) (r : (Int32 × PH)) (hf : f_X10_person P x0 x1 x2 = some r) : CtI l E yX10_person cX10_person 3 (some .int) r_X10_person [.ref (ad E x0), .int x1, .int x2] P r.1 r.2 :=
  z_body (own := RX10) (by decide +kernel) rfl (Nat.le_of_ble_eq_true rfl) rfl (fun x _ S M => w_X10_person S M P x0 x1 x2 h_x0 r hf)
-- yX10_room
theorem dX10_room_0 : decode cX10_room 0 = .ok (.aload_n 0, 1) := by decide +kernel
theorem dX10_room_1 : decode cX10_room 1 = .ok (.iload_n 1, 1) := by decide +kernel
theorem dX10_room_2 : decode cX10_room 2 = .ok (.invokevirtual 169, 3) := by decide +kernel
theorem dX10_room_5 : decode cX10_room 5 = .ok (.ifCond .ne 5, 3) := by decide +kernel
theorem dX10_room_8 : decode cX10_room 8 = .ok (.iconst (-1), 1) := by decide +kernel
theorem dX10_room_9 : decode cX10_room 9 = .ok (.ireturn, 1) := by decide +kernel
theorem dX10_room_10 : decode cX10_room 10 = .ok (.aload_n 0, 1) := by decide +kernel
theorem dX10_room_11 : decode cX10_room 11 = .ok (.invokevirtual 166, 3) := by decide +kernel
theorem dX10_room_14 : decode cX10_room 14 = .ok (.aload_n 0, 1) := by decide +kernel
theorem dX10_room_15 : decode cX10_room 15 = .ok (.iload_n 1, 1) := by decide +kernel
theorem dX10_room_16 : decode cX10_room 16 = .ok (.invokevirtual 147, 3) := by decide +kernel
theorem dX10_room_19 : decode cX10_room 19 = .ok (.istore_n 3, 1) := by decide +kernel
theorem dX10_room_20 : decode cX10_room 20 = .ok (.iload_n 2, 1) := by decide +kernel
theorem dX10_room_21 : decode cX10_room 21 = .ok (.tableswitch 92 0 4 #[35, 45, 47, 79, 86], 35) := by decide +kernel
theorem dX10_room_56 : decode cX10_room 56 = .ok (.aload_n 0, 1) := by decide +kernel
theorem dX10_room_57 : decode cX10_room 57 = .ok (.getfield 19, 3) := by decide +kernel
theorem dX10_room_60 : decode cX10_room 60 = .ok (.bipush 8, 2) := by decide +kernel
theorem dX10_room_62 : decode cX10_room 62 = .ok (.iload_n 1, 1) := by decide +kernel
theorem dX10_room_63 : decode cX10_room 63 = .ok (.iadd, 1) := by decide +kernel
theorem dX10_room_64 : decode cX10_room 64 = .ok (.iaload, 1) := by decide +kernel
theorem dX10_room_65 : decode cX10_room 65 = .ok (.ireturn, 1) := by decide +kernel
theorem dX10_room_66 : decode cX10_room 66 = .ok (.iload_n 3, 1) := by decide +kernel
theorem dX10_room_67 : decode cX10_room 67 = .ok (.ireturn, 1) := by decide +kernel
theorem dX10_room_68 : decode cX10_room 68 = .ok (.aload_n 0, 1) := by decide +kernel
theorem dX10_room_69 : decode cX10_room 69 = .ok (.getfield 19, 3) := by decide +kernel
theorem dX10_room_72 : decode cX10_room 72 = .ok (.bipush 8, 2) := by decide +kernel
theorem dX10_room_74 : decode cX10_room 74 = .ok (.iload_n 1, 1) := by decide +kernel
theorem dX10_room_75 : decode cX10_room 75 = .ok (.iadd, 1) := by decide +kernel
theorem dX10_room_76 : decode cX10_room 76 = .ok (.iaload, 1) := by decide +kernel
theorem dX10_room_77 : decode cX10_room 77 = .ok (.bipush 9, 2) := by decide +kernel
theorem dX10_room_79 : decode cX10_room 79 = .ok (.if_icmp .ne 7, 3) := by decide +kernel
theorem dX10_room_82 : decode cX10_room 82 = .ok (.iconst 0, 1) := by decide +kernel
theorem dX10_room_83 : decode cX10_room 83 = .ok (.goto 16, 3) := by decide +kernel
theorem dX10_room_86 : decode cX10_room 86 = .ok (.iload_n 3, 1) := by decide +kernel
theorem dX10_room_87 : decode cX10_room 87 = .ok (.ifCond .ge 8, 3) := by decide +kernel
theorem dX10_room_90 : decode cX10_room 90 = .ok (.bipush (-9), 2) := by decide +kernel
theorem dX10_room_92 : decode cX10_room 92 = .ok (.goto 7, 3) := by decide +kernel
theorem dX10_room_95 : decode cX10_room 95 = .ok (.aload_n 0, 1) := by decide +kernel
theorem dX10_room_96 : decode cX10_room 96 = .ok (.getfield 141, 3) := by decide +kernel
theorem dX10_room_99 : decode cX10_room 99 = .ok (.ireturn, 1) := by decide +kernel
theorem dX10_room_100 : decode cX10_room 100 = .ok (.aload_n 0, 1) := by decide +kernel
theorem dX10_room_101 : decode cX10_room 101 = .ok (.getfield 16, 3) := by decide +kernel
theorem dX10_room_104 : decode cX10_room 104 = .ok (.iload_n 1, 1) := by decide +kernel
theorem dX10_room_105 : decode cX10_room 105 = .ok (.iaload, 1) := by decide +kernel
theorem dX10_room_106 : decode cX10_room 106 = .ok (.ireturn, 1) := by decide +kernel
theorem dX10_room_107 : decode cX10_room 107 = .ok (.aload_n 0, 1) := by decide +kernel
theorem dX10_room_108 : decode cX10_room 108 = .ok (.iload_n 1, 1) := by decide +kernel
theorem dX10_room_109 : decode cX10_room 109 = .ok (.invokevirtual 172, 3) := by decide +kernel
theorem dX10_room_112 : decode cX10_room 112 = .ok (.ireturn, 1) := by decide +kernel
theorem dX10_room_113 : decode cX10_room 113 = .ok (.iconst (-1), 1) := by decide +kernel
theorem dX10_room_114 : decode cX10_room 114 = .ok (.ireturn, 1) := by decide +kernel
def r_X10_room : Room := { frames := 6, cells := 0, slots := 0, locals := 134 }
def f_X10_room (P : PH) (x0 : Nat) (x1 : Int32) (x2 : Int32) : Option (Int32 × PH) :=
  ((f_X10_isRoom P x0 x1).bind fun q1 => (if (b2i q1) = 0 then some ((-1 : Int32), P) else ((f_X10_asItIs P x0).bind fun q2 => ((f_X10_ownerOf q2 x0 x1).bind fun q3 => (if x2 = (0 : Int32) then (if (((8 : Int32) + x1) < 0 ∨ 46 ≤ ((8 : Int32) + x1).toNatClampNeg) then none else some ((q3.2.1 (q3.2.2.2 x0 5) ((8 : Int32) + x1).toNatClampNeg), q3.2)) else (if x2 = (1 : Int32) then some (q3.1, q3.2) else (if x2 = (2 : Int32) then (if (((8 : Int32) + x1) < 0 ∨ 46 ≤ ((8 : Int32) + x1).toNatClampNeg) then none else (if (q3.2.1 (q3.2.2.2 x0 5) ((8 : Int32) + x1).toNatClampNeg) = (9 : Int32) then some ((0 : Int32), q3.2) else (if 0 ≤ q3.1 then some ((q3.2.1 x0 27), q3.2) else some ((-9 : Int32), q3.2)))) else (if x2 = (3 : Int32) then (if (x1 < 0 ∨ 7 ≤ x1.toNatClampNeg) then none else some ((q3.2.1 (q3.2.2.2 x0 4) x1.toNatClampNeg), q3.2)) else (if x2 = (4 : Int32) then ((f_X10_whoMay q3.2 x0 x1).bind fun q12 => some (q12.1, q12.2)) else some ((-1 : Int32), q3.2))))))))))
theorem w_X10_room {x : Fx} {E : Ev} (S : ZS x E r_X10_room cX10_room 4 RX10 (some .int)) (M : ZM x E) (P : PH) (x0 : Nat) (x1 : Int32) (x2 : Int32) (h_x0 : ok x0 8 0) (r : (Int32 × PH)) (hf : f_X10_room P x0 x1 x2 = some r) : Wz x E 4 (QI E x r.1 r.2) P 0 [(0, .ref (ad E x0)), (1, .int x1), (2, .int x2)] [] := by
  unfold f_X10_room at hf
  refine z_aload_n S 0 dX10_room_0 rfl rfl ?_
  refine z_iload_n S 1 dX10_room_1 rfl rfl ?_
  refine z_callVI (rc := r_X10_isRoom) [.int x1] S mo_X10_isRoom wd858 wd25 wd856 h_x0 (by decide) cl_8 rfl rfl (by decide) (z_room0 S M (by rfl) (by rfl)) rfl (Nat.le_of_ble_eq_true rfl) rfl dX10_room_2 (fun q => b2i q) (fun _ => P) (fun q hq => m_X10_isRoom (xl x) E _ _ _ h_x0 q hq) hf (fun q1 hf => ?_)
  refine z_if_ne (tgt := 10) S dX10_room_5 (by decide) hf (fun hf => ?_) (fun hf => ?_)
  · refine z_iconst (v := (-1 : Int32)) S dX10_room_8 (by decide) ?_
    exact z_iretI (v := (-1 : Int32)) S M rfl dX10_room_9 hf
  · refine z_aload_n S 0 dX10_room_10 rfl rfl ?_
    refine z_callVV (rc := r_X10_asItIs) [] S mo_X10_asItIs wd819 wd17 wd817 h_x0 (by decide) cl_8 rfl rfl (by decide) (z_room0 S M (by rfl) (by rfl)) rfl (Nat.le_of_ble_eq_true rfl) rfl dX10_room_11  (fun q => q) (fun q hq => m_X10_asItIs (xl x) E _ _ h_x0 q hq) hf (fun q2 hf => ?_)
    refine z_aload_n S 0 dX10_room_14 rfl rfl ?_
    refine z_iload_n S 1 dX10_room_15 rfl rfl ?_
    refine z_callVI (rc := r_X10_ownerOf) [.int x1] S mo_X10_ownerOf wd838 wd21 wd836 h_x0 (by decide) cl_8 rfl rfl (by decide) (z_room0 S M (by rfl) (by rfl)) rfl (Nat.le_of_ble_eq_true rfl) rfl dX10_room_16 (fun q => q.1) (fun q => q.2) (fun q hq => m_X10_ownerOf (xl x) E _ _ _ h_x0 q hq) hf (fun q3 hf => ?_)
    refine z_istore_n (lv' := [(3, .int q3.1), (0, .ref (ad E x0)), (1, .int x1), (2, .int x2)]) S dX10_room_19 rfl (by decide) rfl ?_
    refine z_iload_n S 3 dX10_room_20 rfl rfl ?_
    refine z_tif hf (fun h4 hf => ?_) (fun h4 hf => ?_)
    · refine z_tabIn (tgt := 56) S 0 dX10_room_21 (by rw [h4]; rfl) (by decide) rfl (by decide) ?_
      refine z_aload_n S 1 dX10_room_56 rfl rfl ?_
      refine z_getR (K' := 9) (n' := 46) S cf_8 h_x0 5 (by decide) rfl rfl rfl wd672 dX10_room_57 (fun h5 => ?_)
      refine z_bipush (v := 8) S dX10_room_60 (by decide) ?_
      refine z_iload_n S 2 dX10_room_62 rfl rfl ?_
      refine z_iadd S dX10_room_63 ?_
      refine z_iald S h5 dX10_room_64 hf (fun hf => ?_)
      exact z_iretI (v := (q3.2.1 (q3.2.2.2 x0 5) ((8 : Int32) + x1).toNatClampNeg)) S M rfl dX10_room_65 hf
    refine z_tif hf (fun h6 hf => ?_) (fun h6 hf => ?_)
    · refine z_tabIn (tgt := 66) S 1 dX10_room_21 (by rw [h6]; rfl) (by decide) rfl (by decide) ?_
      refine z_iload_n S 0 dX10_room_66 rfl rfl ?_
      exact z_iretI (v := q3.1) S M rfl dX10_room_67 hf
    refine z_tif hf (fun h7 hf => ?_) (fun h7 hf => ?_)
    · refine z_tabIn (tgt := 68) S 2 dX10_room_21 (by rw [h7]; rfl) (by decide) rfl (by decide) ?_
      refine z_aload_n S 1 dX10_room_68 rfl rfl ?_
      refine z_getR (K' := 9) (n' := 46) S cf_8 h_x0 5 (by decide) rfl rfl rfl wd672 dX10_room_69 (fun h8 => ?_)
      refine z_bipush (v := 8) S dX10_room_72 (by decide) ?_
      refine z_iload_n S 2 dX10_room_74 rfl rfl ?_
      refine z_iadd S dX10_room_75 ?_
      refine z_iald S h8 dX10_room_76 hf (fun hf => ?_)
      refine z_bipush (v := 9) S dX10_room_77 (by decide) ?_
      refine z_icmp_ne (tgt := 86) S dX10_room_79 (by decide) hf (fun hf => ?_) (fun hf => ?_)
      · refine z_iconst (v := 0) S dX10_room_82 (by decide) ?_
        refine z_goto (tgt := 99) S dX10_room_83 (by decide) ?_
        exact z_iretI (v := (0 : Int32)) S M rfl dX10_room_99 hf
      · refine z_iload_n S 0 dX10_room_86 rfl rfl ?_
        refine z_if_ge (tgt := 95) S dX10_room_87 (by decide) hf (fun hf => ?_) (fun hf => ?_)
        · refine z_aload_n S 1 dX10_room_95 rfl rfl ?_
          refine z_getI S cf_8 h_x0 27 (by decide) rfl wd694 dX10_room_96 ?_
          exact z_iretI (v := (q3.2.1 x0 27)) S M rfl dX10_room_99 hf
        · refine z_bipush (v := (-9 : Int32)) S dX10_room_90 (by decide) ?_
          refine z_goto (tgt := 99) S dX10_room_92 (by decide) ?_
          exact z_iretI (v := (-9 : Int32)) S M rfl dX10_room_99 hf
    refine z_tif hf (fun h9 hf => ?_) (fun h9 hf => ?_)
    · refine z_tabIn (tgt := 100) S 3 dX10_room_21 (by rw [h9]; rfl) (by decide) rfl (by decide) ?_
      refine z_aload_n S 1 dX10_room_100 rfl rfl ?_
      refine z_getR (K' := 9) (n' := 7) S cf_8 h_x0 4 (by decide) rfl rfl rfl wd671 dX10_room_101 (fun h10 => ?_)
      refine z_iload_n S 2 dX10_room_104 rfl rfl ?_
      refine z_iald S h10 dX10_room_105 hf (fun hf => ?_)
      exact z_iretI (v := (q3.2.1 (q3.2.2.2 x0 4) x1.toNatClampNeg)) S M rfl dX10_room_106 hf
    refine z_tif hf (fun h11 hf => ?_) (fun h11 hf => ?_)
    · refine z_tabIn (tgt := 107) S 4 dX10_room_21 (by rw [h11]; rfl) (by decide) rfl (by decide) ?_
      refine z_aload_n S 1 dX10_room_107 rfl rfl ?_
      refine z_iload_n S 2 dX10_room_108 rfl rfl ?_
      refine z_callVI (rc := r_X10_whoMay) [.int x1] S mo_X10_whoMay wd862 wd26 wd860 h_x0 (by decide) cl_8 rfl rfl (by decide) (z_room0 S M (by rfl) (by rfl)) rfl (Nat.le_of_ble_eq_true rfl) rfl dX10_room_109 (fun q => q.1) (fun q => q.2) (fun q hq => m_X10_whoMay (xl x) E _ _ _ h_x0 q hq) hf (fun q12 hf => ?_)
      exact z_iretI (v := q12.1) S M rfl dX10_room_112 hf
    refine z_tabOut (tgt := 113) S dX10_room_21 (by have e0 := lv_neT h4 (a := 0) rfl; have e1 := lv_neT h6 (a := 1) rfl; have e2 := lv_neT h7 (a := 2) rfl; have e3 := lv_neT h9 (a := 3) rfl; have e4 := lv_neT h11 (a := 4) rfl; omega) (by decide) ?_
    refine z_iconst (v := (-1 : Int32)) S dX10_room_113 (by decide) ?_
    exact z_iretI (v := (-1 : Int32)) S M rfl dX10_room_114 hf
theorem m_X10_room (l : Launch) (E : Ev) (P : PH) (x0 : Nat) (x1 : Int32) (x2 : Int32) (h_x0 : ok x0 8 0) (r : (Int32 × PH)) (hf : f_X10_room P x0 x1 x2 = some r) : CtI l E yX10_room cX10_room 4 (some .int) r_X10_room [.ref (ad E x0), .int x1, .int x2] P r.1 r.2 :=
  z_body (own := RX10) (by decide +kernel) rfl (Nat.le_of_ble_eq_true rfl) rfl (fun x _ S M => w_X10_room S M P x0 x1 x2 h_x0 r hf)
