-- yJ6_bitCount_0f7a4
theorem dJ6_bitCount_0f7a4_0 : decode cJ6_bitCount_0f7a4 0 = .ok (.iload_n 0, 1) := by decide +kernel
theorem dJ6_bitCount_0f7a4_1 : decode cJ6_bitCount_0f7a4 1 = .ok (.iload_n 0, 1) := by decide +kernel
theorem dJ6_bitCount_0f7a4_2 : decode cJ6_bitCount_0f7a4 2 = .ok (.iconst 1, 1) := by decide +kernel
theorem dJ6_bitCount_0f7a4_3 : decode cJ6_bitCount_0f7a4 3 = .ok (.iushr, 1) := by decide +kernel
theorem dJ6_bitCount_0f7a4_4 : decode cJ6_bitCount_0f7a4 4 = .ok (.ldc_w 265, 3) := by decide +kernel
theorem dJ6_bitCount_0f7a4_7 : decode cJ6_bitCount_0f7a4 7 = .ok (.iand, 1) := by decide +kernel
theorem dJ6_bitCount_0f7a4_8 : decode cJ6_bitCount_0f7a4 8 = .ok (.isub, 1) := by decide +kernel
theorem dJ6_bitCount_0f7a4_9 : decode cJ6_bitCount_0f7a4 9 = .ok (.istore_n 0, 1) := by decide +kernel
theorem dJ6_bitCount_0f7a4_10 : decode cJ6_bitCount_0f7a4 10 = .ok (.iload_n 0, 1) := by decide +kernel
theorem dJ6_bitCount_0f7a4_11 : decode cJ6_bitCount_0f7a4 11 = .ok (.ldc_w 266, 3) := by decide +kernel
theorem dJ6_bitCount_0f7a4_14 : decode cJ6_bitCount_0f7a4 14 = .ok (.iand, 1) := by decide +kernel
theorem dJ6_bitCount_0f7a4_15 : decode cJ6_bitCount_0f7a4 15 = .ok (.iload_n 0, 1) := by decide +kernel
theorem dJ6_bitCount_0f7a4_16 : decode cJ6_bitCount_0f7a4 16 = .ok (.iconst 2, 1) := by decide +kernel
theorem dJ6_bitCount_0f7a4_17 : decode cJ6_bitCount_0f7a4 17 = .ok (.iushr, 1) := by decide +kernel
theorem dJ6_bitCount_0f7a4_18 : decode cJ6_bitCount_0f7a4 18 = .ok (.ldc_w 266, 3) := by decide +kernel
theorem dJ6_bitCount_0f7a4_21 : decode cJ6_bitCount_0f7a4 21 = .ok (.iand, 1) := by decide +kernel
theorem dJ6_bitCount_0f7a4_22 : decode cJ6_bitCount_0f7a4 22 = .ok (.iadd, 1) := by decide +kernel
theorem dJ6_bitCount_0f7a4_23 : decode cJ6_bitCount_0f7a4 23 = .ok (.istore_n 0, 1) := by decide +kernel
theorem dJ6_bitCount_0f7a4_24 : decode cJ6_bitCount_0f7a4 24 = .ok (.iload_n 0, 1) := by decide +kernel
theorem dJ6_bitCount_0f7a4_25 : decode cJ6_bitCount_0f7a4 25 = .ok (.iload_n 0, 1) := by decide +kernel
theorem dJ6_bitCount_0f7a4_26 : decode cJ6_bitCount_0f7a4 26 = .ok (.iconst 4, 1) := by decide +kernel
theorem dJ6_bitCount_0f7a4_27 : decode cJ6_bitCount_0f7a4 27 = .ok (.iushr, 1) := by decide +kernel
theorem dJ6_bitCount_0f7a4_28 : decode cJ6_bitCount_0f7a4 28 = .ok (.iadd, 1) := by decide +kernel
theorem dJ6_bitCount_0f7a4_29 : decode cJ6_bitCount_0f7a4 29 = .ok (.ldc_w 267, 3) := by decide +kernel
theorem dJ6_bitCount_0f7a4_32 : decode cJ6_bitCount_0f7a4 32 = .ok (.iand, 1) := by decide +kernel
theorem dJ6_bitCount_0f7a4_33 : decode cJ6_bitCount_0f7a4 33 = .ok (.istore_n 0, 1) := by decide +kernel
theorem dJ6_bitCount_0f7a4_34 : decode cJ6_bitCount_0f7a4 34 = .ok (.iload_n 0, 1) := by decide +kernel
theorem dJ6_bitCount_0f7a4_35 : decode cJ6_bitCount_0f7a4 35 = .ok (.iload_n 0, 1) := by decide +kernel
theorem dJ6_bitCount_0f7a4_36 : decode cJ6_bitCount_0f7a4 36 = .ok (.bipush 8, 2) := by decide +kernel
theorem dJ6_bitCount_0f7a4_38 : decode cJ6_bitCount_0f7a4 38 = .ok (.iushr, 1) := by decide +kernel
theorem dJ6_bitCount_0f7a4_39 : decode cJ6_bitCount_0f7a4 39 = .ok (.iadd, 1) := by decide +kernel
theorem dJ6_bitCount_0f7a4_40 : decode cJ6_bitCount_0f7a4 40 = .ok (.istore_n 0, 1) := by decide +kernel
theorem dJ6_bitCount_0f7a4_41 : decode cJ6_bitCount_0f7a4 41 = .ok (.iload_n 0, 1) := by decide +kernel
theorem dJ6_bitCount_0f7a4_42 : decode cJ6_bitCount_0f7a4 42 = .ok (.iload_n 0, 1) := by decide +kernel
theorem dJ6_bitCount_0f7a4_43 : decode cJ6_bitCount_0f7a4 43 = .ok (.bipush 16, 2) := by decide +kernel
theorem dJ6_bitCount_0f7a4_45 : decode cJ6_bitCount_0f7a4 45 = .ok (.iushr, 1) := by decide +kernel
theorem dJ6_bitCount_0f7a4_46 : decode cJ6_bitCount_0f7a4 46 = .ok (.iadd, 1) := by decide +kernel
theorem dJ6_bitCount_0f7a4_47 : decode cJ6_bitCount_0f7a4 47 = .ok (.istore_n 0, 1) := by decide +kernel
theorem dJ6_bitCount_0f7a4_48 : decode cJ6_bitCount_0f7a4 48 = .ok (.iload_n 0, 1) := by decide +kernel
theorem dJ6_bitCount_0f7a4_49 : decode cJ6_bitCount_0f7a4 49 = .ok (.bipush 63, 2) := by decide +kernel
theorem dJ6_bitCount_0f7a4_51 : decode cJ6_bitCount_0f7a4 51 = .ok (.iand, 1) := by decide +kernel
theorem dJ6_bitCount_0f7a4_52 : decode cJ6_bitCount_0f7a4 52 = .ok (.ireturn, 1) := by decide +kernel
def r_J6_bitCount_0f7a4 : Room := { frames := 0, cells := 0, slots := 0, locals := 0 }
def f_J6_bitCount_0f7a4 (P : PH) (x0 : Int32) : Option Int32 :=
  ((some (x0 - ((x0.toUInt32 >>> ((1 : Int32).toUInt32 &&& Int32.toUInt32 31)).toInt32 &&& (1431655765 : Int32)))).bind fun u1 => ((some ((u1 &&& (858993459 : Int32)) + ((u1.toUInt32 >>> ((2 : Int32).toUInt32 &&& Int32.toUInt32 31)).toInt32 &&& (858993459 : Int32)))).bind fun u2 => ((some ((u2 + (u2.toUInt32 >>> ((4 : Int32).toUInt32 &&& Int32.toUInt32 31)).toInt32) &&& (252645135 : Int32))).bind fun u3 => ((some (u3 + (u3.toUInt32 >>> ((8 : Int32).toUInt32 &&& Int32.toUInt32 31)).toInt32)).bind fun u4 => ((some (u4 + (u4.toUInt32 >>> ((16 : Int32).toUInt32 &&& Int32.toUInt32 31)).toInt32)).bind fun u5 => some (u5 &&& (63 : Int32)))))))
theorem w_J6_bitCount_0f7a4 {x : Fx} {E : Ev} (S : ZS x E r_J6_bitCount_0f7a4 cJ6_bitCount_0f7a4 1 RJ6 (some .int)) (M : ZM x E) (P : PH) (x0 : Int32)  (r : Int32) (hf : f_J6_bitCount_0f7a4 P x0 = some r) : Wz x E 1 (QI E x r P) P 0 [(0, .int x0)] [] := by
  unfold f_J6_bitCount_0f7a4 at hf
  refine z_iload_n S 0 dJ6_bitCount_0f7a4_0 rfl rfl ?_
  refine z_iload_n S 0 dJ6_bitCount_0f7a4_1 rfl rfl ?_
  refine z_iconst (v := 1) S dJ6_bitCount_0f7a4_2 (by decide) ?_
  refine z_iushr S dJ6_bitCount_0f7a4_3 ?_
  refine z_ldcw (v := (1431655765)) S wd457 dJ6_bitCount_0f7a4_4 ?_
  refine z_iand S dJ6_bitCount_0f7a4_7 ?_
  refine z_isub S dJ6_bitCount_0f7a4_8 ?_
  refine z_nm hf (fun u1 hf => ?_)
  refine z_istore_n (lv' := [(0, .int u1)]) S dJ6_bitCount_0f7a4_9 rfl (by decide) rfl ?_
  refine z_iload_n S 0 dJ6_bitCount_0f7a4_10 rfl rfl ?_
  refine z_ldcw (v := (858993459)) S wd458 dJ6_bitCount_0f7a4_11 ?_
  refine z_iand S dJ6_bitCount_0f7a4_14 ?_
  refine z_iload_n S 0 dJ6_bitCount_0f7a4_15 rfl rfl ?_
  refine z_iconst (v := 2) S dJ6_bitCount_0f7a4_16 (by decide) ?_
  refine z_iushr S dJ6_bitCount_0f7a4_17 ?_
  refine z_ldcw (v := (858993459)) S wd458 dJ6_bitCount_0f7a4_18 ?_
  refine z_iand S dJ6_bitCount_0f7a4_21 ?_
  refine z_iadd S dJ6_bitCount_0f7a4_22 ?_
  refine z_nm hf (fun u2 hf => ?_)
  refine z_istore_n (lv' := [(0, .int u2)]) S dJ6_bitCount_0f7a4_23 rfl (by decide) rfl ?_
  refine z_iload_n S 0 dJ6_bitCount_0f7a4_24 rfl rfl ?_
  refine z_iload_n S 0 dJ6_bitCount_0f7a4_25 rfl rfl ?_
  refine z_iconst (v := 4) S dJ6_bitCount_0f7a4_26 (by decide) ?_
  refine z_iushr S dJ6_bitCount_0f7a4_27 ?_
  refine z_iadd S dJ6_bitCount_0f7a4_28 ?_
  refine z_ldcw (v := (252645135)) S wd459 dJ6_bitCount_0f7a4_29 ?_
  refine z_iand S dJ6_bitCount_0f7a4_32 ?_
  refine z_nm hf (fun u3 hf => ?_)
  refine z_istore_n (lv' := [(0, .int u3)]) S dJ6_bitCount_0f7a4_33 rfl (by decide) rfl ?_
  refine z_iload_n S 0 dJ6_bitCount_0f7a4_34 rfl rfl ?_
  refine z_iload_n S 0 dJ6_bitCount_0f7a4_35 rfl rfl ?_
  refine z_bipush (v := 8) S dJ6_bitCount_0f7a4_36 (by decide) ?_
  refine z_iushr S dJ6_bitCount_0f7a4_38 ?_
  refine z_iadd S dJ6_bitCount_0f7a4_39 ?_
  refine z_nm hf (fun u4 hf => ?_)
  refine z_istore_n (lv' := [(0, .int u4)]) S dJ6_bitCount_0f7a4_40 rfl (by decide) rfl ?_
  refine z_iload_n S 0 dJ6_bitCount_0f7a4_41 rfl rfl ?_
  refine z_iload_n S 0 dJ6_bitCount_0f7a4_42 rfl rfl ?_
  refine z_bipush (v := 16) S dJ6_bitCount_0f7a4_43 (by decide) ?_
  refine z_iushr S dJ6_bitCount_0f7a4_45 ?_
  refine z_iadd S dJ6_bitCount_0f7a4_46 ?_
  refine z_nm hf (fun u5 hf => ?_)
  refine z_istore_n (lv' := [(0, .int u5)]) S dJ6_bitCount_0f7a4_47 rfl (by decide) rfl ?_
  refine z_iload_n S 0 dJ6_bitCount_0f7a4_48 rfl rfl ?_
  refine z_bipush (v := 63) S dJ6_bitCount_0f7a4_49 (by decide) ?_
  refine z_iand S dJ6_bitCount_0f7a4_51 ?_
  exact z_iretP (v := (u5 &&& (63 : Int32))) S M rfl dJ6_bitCount_0f7a4_52 hf
theorem m_J6_bitCount_0f7a4 (l : Launch) (E : Ev) (P : PH) (x0 : Int32)  (r : Int32) (hf : f_J6_bitCount_0f7a4 P x0 = some r) : CtI l E yJ6_bitCount_0f7a4 cJ6_bitCount_0f7a4 1 (some .int) r_J6_bitCount_0f7a4 [.int x0] P r P :=
  z_body (own := RJ6) (by decide +kernel) rfl (Nat.le_of_ble_eq_true rfl) rfl (fun x _ S M => w_J6_bitCount_0f7a4 S M P x0  r hf)
-- yX4_roomsByRight
theorem dX4_roomsByRight_0 : decode cX4_roomsByRight 0 = .ok (.iconst 0, 1) := by decide +kernel
theorem dX4_roomsByRight_1 : decode cX4_roomsByRight 1 = .ok (.istore_n 3, 1) := by decide +kernel
theorem dX4_roomsByRight_2 : decode cX4_roomsByRight 2 = .ok (.iconst 0, 1) := by decide +kernel
theorem dX4_roomsByRight_3 : decode cX4_roomsByRight 3 = .ok (.istore 4, 2) := by decide +kernel
theorem dX4_roomsByRight_5 : decode cX4_roomsByRight 5 = .ok (.iload 4, 2) := by decide +kernel
theorem dX4_roomsByRight_7 : decode cX4_roomsByRight 7 = .ok (.aload_n 0, 1) := by decide +kernel
theorem dX4_roomsByRight_8 : decode cX4_roomsByRight 8 = .ok (.getfield 34, 3) := by decide +kernel
theorem dX4_roomsByRight_11 : decode cX4_roomsByRight 11 = .ok (.if_icmp .ge 43, 3) := by decide +kernel
theorem dX4_roomsByRight_14 : decode cX4_roomsByRight 14 = .ok (.aload_n 0, 1) := by decide +kernel
theorem dX4_roomsByRight_15 : decode cX4_roomsByRight 15 = .ok (.getfield 18, 3) := by decide +kernel
theorem dX4_roomsByRight_18 : decode cX4_roomsByRight 18 = .ok (.iload 4, 2) := by decide +kernel
theorem dX4_roomsByRight_20 : decode cX4_roomsByRight 20 = .ok (.iaload, 1) := by decide +kernel
theorem dX4_roomsByRight_21 : decode cX4_roomsByRight 21 = .ok (.iload_n 1, 1) := by decide +kernel
theorem dX4_roomsByRight_22 : decode cX4_roomsByRight 22 = .ok (.if_icmp .ne 26, 3) := by decide +kernel
theorem dX4_roomsByRight_25 : decode cX4_roomsByRight 25 = .ok (.aload_n 0, 1) := by decide +kernel
theorem dX4_roomsByRight_26 : decode cX4_roomsByRight 26 = .ok (.getfield 24, 3) := by decide +kernel
theorem dX4_roomsByRight_29 : decode cX4_roomsByRight 29 = .ok (.iload 4, 2) := by decide +kernel
theorem dX4_roomsByRight_31 : decode cX4_roomsByRight 31 = .ok (.iaload, 1) := by decide +kernel
theorem dX4_roomsByRight_32 : decode cX4_roomsByRight 32 = .ok (.iload_n 2, 1) := by decide +kernel
theorem dX4_roomsByRight_33 : decode cX4_roomsByRight 33 = .ok (.if_icmp .lt 15, 3) := by decide +kernel
theorem dX4_roomsByRight_36 : decode cX4_roomsByRight 36 = .ok (.iload_n 3, 1) := by decide +kernel
theorem dX4_roomsByRight_37 : decode cX4_roomsByRight 37 = .ok (.iconst 1, 1) := by decide +kernel
theorem dX4_roomsByRight_38 : decode cX4_roomsByRight 38 = .ok (.aload_n 0, 1) := by decide +kernel
theorem dX4_roomsByRight_39 : decode cX4_roomsByRight 39 = .ok (.getfield 21, 3) := by decide +kernel
theorem dX4_roomsByRight_42 : decode cX4_roomsByRight 42 = .ok (.iload 4, 2) := by decide +kernel
theorem dX4_roomsByRight_44 : decode cX4_roomsByRight 44 = .ok (.iaload, 1) := by decide +kernel
theorem dX4_roomsByRight_45 : decode cX4_roomsByRight 45 = .ok (.ishl, 1) := by decide +kernel
theorem dX4_roomsByRight_46 : decode cX4_roomsByRight 46 = .ok (.ior, 1) := by decide +kernel
theorem dX4_roomsByRight_47 : decode cX4_roomsByRight 47 = .ok (.istore_n 3, 1) := by decide +kernel
theorem dX4_roomsByRight_48 : decode cX4_roomsByRight 48 = .ok (.iinc 4 1, 3) := by decide +kernel
theorem dX4_roomsByRight_51 : decode cX4_roomsByRight 51 = .ok (.goto (-46), 3) := by decide +kernel
theorem dX4_roomsByRight_54 : decode cX4_roomsByRight 54 = .ok (.iload_n 3, 1) := by decide +kernel
theorem dX4_roomsByRight_55 : decode cX4_roomsByRight 55 = .ok (.ireturn, 1) := by decide +kernel
def r_X4_roomsByRight : Room := { frames := 0, cells := 0, slots := 0, locals := 0 }
def f_X4_roomsByRight_L5 (K : Int32 → Option Int32) (P : PH) (x0 : Nat) (x1 : Int32) (x2 : Int32) : Nat → Int32 → Int32 → Option Int32
  | 0, _, _ => none
  | n + 1, x3, x4 =>
    (if (P.1 x0 2) ≤ x4 then K x3 else (if (x4 < 0 ∨ 10 ≤ x4.toNatClampNeg) then none else (if (P.1 (P.2.2 x0 5) x4.toNatClampNeg) = x1 then (if (x4 < 0 ∨ 10 ≤ x4.toNatClampNeg) then none else (if (P.1 (P.2.2 x0 7) x4.toNatClampNeg) < x2 then f_X4_roomsByRight_L5 K P x0 x1 x2 n x3 (x4 + (1 : Int32)) else (if (x4 < 0 ∨ 10 ≤ x4.toNatClampNeg) then none else ((some (x3 ||| ((1 : Int32) <<< ((P.1 (P.2.2 x0 6) x4.toNatClampNeg) &&& 31)))).bind fun u4 => f_X4_roomsByRight_L5 K P x0 x1 x2 n u4 (x4 + (1 : Int32)))))) else f_X4_roomsByRight_L5 K P x0 x1 x2 n x3 (x4 + (1 : Int32)))))
theorem w_X4_roomsByRight_L5 {x : Fx} {E : Ev} (S : ZS x E r_X4_roomsByRight cX4_roomsByRight 5 RX4 (some .int)) (M : ZM x E) {K : Int32 → Option Int32} (P : PH) (x0 : Nat) (x1 : Int32) (x2 : Int32) (h_x0 : ok x0 2 0) (r : Int32) (hK : ∀ (y3 : Int32), K y3 = some r → Wz x E 5 (QI E x r P) P 54 [(3, .int y3)] []) : ∀ (n : Nat) (x3 : Int32) (x4 : Int32), f_X4_roomsByRight_L5 K P x0 x1 x2 n x3 x4 = some r → Wz x E 5 (QI E x r P) P 5 [(0, .ref (ad E x0)), (1, .int x1), (2, .int x2), (3, .int x3), (4, .int x4)] [] := by
  intro n
  induction n with
  | zero => intro x3 x4 hf; cases hf
  | succ n ih =>
    intro x3 x4 hf
    unfold f_X4_roomsByRight_L5 at hf
    refine z_iload S 4 dX4_roomsByRight_5 rfl ?_
    refine z_aload_n S 0 dX4_roomsByRight_7 rfl rfl ?_
    refine z_getI S cf_2 h_x0 2 (by decide) rfl wd177 dX4_roomsByRight_8 ?_
    refine z_icmp_ge (tgt := 54) S dX4_roomsByRight_11 (by decide) hf (fun hf => ?_) (fun hf => ?_)
    · refine z_sub [3] rfl ?_
      exact hK x3 hf
    · refine z_aload_n S 0 dX4_roomsByRight_14 rfl rfl ?_
      refine z_getR (K' := 9) (n' := 10) S cf_2 h_x0 5 (by decide) rfl rfl rfl wd190 dX4_roomsByRight_15 (fun h1 => ?_)
      refine z_iload S 4 dX4_roomsByRight_18 rfl ?_
      refine z_iald S h1 dX4_roomsByRight_20 hf (fun hf => ?_)
      refine z_iload_n S 1 dX4_roomsByRight_21 rfl rfl ?_
      refine z_icmp_ne (tgt := 48) S dX4_roomsByRight_22 (by decide) hf (fun hf => ?_) (fun hf => ?_)
      · refine z_aload_n S 0 dX4_roomsByRight_25 rfl rfl ?_
        refine z_getR (K' := 9) (n' := 10) S cf_2 h_x0 7 (by decide) rfl rfl rfl wd194 dX4_roomsByRight_26 (fun h2 => ?_)
        refine z_iload S 4 dX4_roomsByRight_29 rfl ?_
        refine z_iald S h2 dX4_roomsByRight_31 hf (fun hf => ?_)
        refine z_iload_n S 2 dX4_roomsByRight_32 rfl rfl ?_
        refine z_icmp_lt (tgt := 48) S dX4_roomsByRight_33 (by decide) hf (fun hf => ?_) (fun hf => ?_)
        · refine z_iinc (v := (x4 + (1 : Int32))) (lv' := [(4, .int (x4 + (1 : Int32))), (0, .ref (ad E x0)), (1, .int x1), (2, .int x2), (3, .int x3)]) S 4 dX4_roomsByRight_48 rfl (by rfl) (by decide) rfl ?_
          refine z_goto (tgt := 5) S dX4_roomsByRight_51 (by decide) ?_
          refine z_sub [1, 2, 3, 4, 0] rfl ?_
          exact ih x3 (x4 + (1 : Int32)) hf
        · refine z_iload_n S 3 dX4_roomsByRight_36 rfl rfl ?_
          refine z_iconst (v := 1) S dX4_roomsByRight_37 (by decide) ?_
          refine z_aload_n S 0 dX4_roomsByRight_38 rfl rfl ?_
          refine z_getR (K' := 9) (n' := 10) S cf_2 h_x0 6 (by decide) rfl rfl rfl wd192 dX4_roomsByRight_39 (fun h3 => ?_)
          refine z_iload S 4 dX4_roomsByRight_42 rfl ?_
          refine z_iald S h3 dX4_roomsByRight_44 hf (fun hf => ?_)
          refine z_ishl S dX4_roomsByRight_45 ?_
          refine z_ior S dX4_roomsByRight_46 ?_
          refine z_nm hf (fun u4 hf => ?_)
          refine z_istore_n (lv' := [(3, .int u4), (0, .ref (ad E x0)), (1, .int x1), (2, .int x2), (4, .int x4)]) S dX4_roomsByRight_47 rfl (by decide) rfl ?_
          refine z_iinc (v := (x4 + (1 : Int32))) (lv' := [(4, .int (x4 + (1 : Int32))), (3, .int u4), (0, .ref (ad E x0)), (1, .int x1), (2, .int x2)]) S 4 dX4_roomsByRight_48 rfl (by rfl) (by decide) rfl ?_
          refine z_goto (tgt := 5) S dX4_roomsByRight_51 (by decide) ?_
          refine z_sub [2, 3, 4, 1, 0] rfl ?_
          exact ih u4 (x4 + (1 : Int32)) hf
      · refine z_iinc (v := (x4 + (1 : Int32))) (lv' := [(4, .int (x4 + (1 : Int32))), (0, .ref (ad E x0)), (1, .int x1), (2, .int x2), (3, .int x3)]) S 4 dX4_roomsByRight_48 rfl (by rfl) (by decide) rfl ?_
        refine z_goto (tgt := 5) S dX4_roomsByRight_51 (by decide) ?_
        refine z_sub [1, 2, 3, 4, 0] rfl ?_
        exact ih x3 (x4 + (1 : Int32)) hf
def f_X4_roomsByRight (P : PH) (x0 : Nat) (x1 : Int32) (x2 : Int32) : Option Int32 :=
  f_X4_roomsByRight_L5 (fun v5 => some v5) P x0 x1 x2 1000 (0 : Int32) (0 : Int32)
theorem w_X4_roomsByRight {x : Fx} {E : Ev} (S : ZS x E r_X4_roomsByRight cX4_roomsByRight 5 RX4 (some .int)) (M : ZM x E) (P : PH) (x0 : Nat) (x1 : Int32) (x2 : Int32) (h_x0 : ok x0 2 0) (r : Int32) (hf : f_X4_roomsByRight P x0 x1 x2 = some r) : Wz x E 5 (QI E x r P) P 0 [(0, .ref (ad E x0)), (1, .int x1), (2, .int x2)] [] := by
  unfold f_X4_roomsByRight at hf
  refine z_iconst (v := 0) S dX4_roomsByRight_0 (by decide) ?_
  refine z_istore_n (lv' := [(3, .int (0 : Int32)), (0, .ref (ad E x0)), (1, .int x1), (2, .int x2)]) S dX4_roomsByRight_1 rfl (by decide) rfl ?_
  refine z_iconst (v := 0) S dX4_roomsByRight_2 (by decide) ?_
  refine z_istore (lv' := [(4, .int (0 : Int32)), (3, .int (0 : Int32)), (0, .ref (ad E x0)), (1, .int x1), (2, .int x2)]) S dX4_roomsByRight_3 (by decide) rfl ?_
  refine z_sub [2, 3, 4, 1, 0] rfl ?_
  refine w_X4_roomsByRight_L5 S M _ x0 x1 x2 h_x0 r (fun v5 hf => ?_) 1000 (0 : Int32) (0 : Int32) hf
  refine z_iload_n S 0 dX4_roomsByRight_54 rfl rfl ?_
  exact z_iretP (v := v5) S M rfl dX4_roomsByRight_55 hf
theorem m_X4_roomsByRight (l : Launch) (E : Ev) (P : PH) (x0 : Nat) (x1 : Int32) (x2 : Int32) (h_x0 : ok x0 2 0) (r : Int32) (hf : f_X4_roomsByRight P x0 x1 x2 = some r) : CtI l E yX4_roomsByRight cX4_roomsByRight 5 (some .int) r_X4_roomsByRight [.ref (ad E x0), .int x1, .int x2] P r P :=
  z_body (own := RX4) (by decide +kernel) rfl (Nat.le_of_ble_eq_true rfl) rfl (fun x _ S M => w_X4_roomsByRight S M P x0 x1 x2 h_x0 r hf)
-- yX1_loseOldest
theorem dX1_loseOldest_0 : decode cX1_loseOldest 0 = .ok (.aload_n 0, 1) := by decide +kernel
theorem dX1_loseOldest_1 : decode cX1_loseOldest 1 = .ok (.bipush 9, 2) := by decide +kernel
theorem dX1_loseOldest_3 : decode cX1_loseOldest 3 = .ok (.putfield 21, 3) := by decide +kernel
theorem dX1_loseOldest_6 : decode cX1_loseOldest 6 = .ok (.aload_n 0, 1) := by decide +kernel
theorem dX1_loseOldest_7 : decode cX1_loseOldest 7 = .ok (.getfield 9, 3) := by decide +kernel
theorem dX1_loseOldest_10 : decode cX1_loseOldest 10 = .ok (.iconst 1, 1) := by decide +kernel
theorem dX1_loseOldest_11 : decode cX1_loseOldest 11 = .ok (.aload_n 0, 1) := by decide +kernel
theorem dX1_loseOldest_12 : decode cX1_loseOldest 12 = .ok (.getfield 9, 3) := by decide +kernel
theorem dX1_loseOldest_15 : decode cX1_loseOldest 15 = .ok (.iconst 0, 1) := by decide +kernel
theorem dX1_loseOldest_16 : decode cX1_loseOldest 16 = .ok (.aload_n 0, 1) := by decide +kernel
theorem dX1_loseOldest_17 : decode cX1_loseOldest 17 = .ok (.getfield 21, 3) := by decide +kernel
theorem dX1_loseOldest_20 : decode cX1_loseOldest 20 = .ok (.invokestatic 28, 3) := by decide +kernel
theorem dX1_loseOldest_23 : decode cX1_loseOldest 23 = .ok (.aload_n 0, 1) := by decide +kernel
theorem dX1_loseOldest_24 : decode cX1_loseOldest 24 = .ok (.getfield 15, 3) := by decide +kernel
theorem dX1_loseOldest_27 : decode cX1_loseOldest 27 = .ok (.iconst 1, 1) := by decide +kernel
theorem dX1_loseOldest_28 : decode cX1_loseOldest 28 = .ok (.aload_n 0, 1) := by decide +kernel
theorem dX1_loseOldest_29 : decode cX1_loseOldest 29 = .ok (.getfield 15, 3) := by decide +kernel
theorem dX1_loseOldest_32 : decode cX1_loseOldest 32 = .ok (.iconst 0, 1) := by decide +kernel
theorem dX1_loseOldest_33 : decode cX1_loseOldest 33 = .ok (.aload_n 0, 1) := by decide +kernel
theorem dX1_loseOldest_34 : decode cX1_loseOldest 34 = .ok (.getfield 21, 3) := by decide +kernel
theorem dX1_loseOldest_37 : decode cX1_loseOldest 37 = .ok (.invokestatic 28, 3) := by decide +kernel
theorem dX1_loseOldest_40 : decode cX1_loseOldest 40 = .ok (.aload_n 0, 1) := by decide +kernel
theorem dX1_loseOldest_41 : decode cX1_loseOldest 41 = .ok (.getfield 18, 3) := by decide +kernel
theorem dX1_loseOldest_44 : decode cX1_loseOldest 44 = .ok (.iconst 1, 1) := by decide +kernel
theorem dX1_loseOldest_45 : decode cX1_loseOldest 45 = .ok (.aload_n 0, 1) := by decide +kernel
theorem dX1_loseOldest_46 : decode cX1_loseOldest 46 = .ok (.getfield 18, 3) := by decide +kernel
theorem dX1_loseOldest_49 : decode cX1_loseOldest 49 = .ok (.iconst 0, 1) := by decide +kernel
theorem dX1_loseOldest_50 : decode cX1_loseOldest 50 = .ok (.aload_n 0, 1) := by decide +kernel
theorem dX1_loseOldest_51 : decode cX1_loseOldest 51 = .ok (.getfield 21, 3) := by decide +kernel
theorem dX1_loseOldest_54 : decode cX1_loseOldest 54 = .ok (.invokestatic 28, 3) := by decide +kernel
theorem dX1_loseOldest_57 : decode cX1_loseOldest 57 = .ok (.return_, 1) := by decide +kernel
def r_X1_loseOldest : Room := { frames := 1, cells := 0, slots := 0, locals := 26 }
def f_X1_loseOldest (P : PH) (x0 : Nat) : Option PH :=
  (if ((1 : Int32) < 0 ∨ (0 : Int32) < 0 ∨ ((sI P x0 0 (9 : Int32)).1 x0 0) < 0 ∨ 10 < (1 : Int32).toNatClampNeg + ((sI P x0 0 (9 : Int32)).1 x0 0).toNatClampNeg ∨ 10 < (0 : Int32).toNatClampNeg + ((sI P x0 0 (9 : Int32)).1 x0 0).toNatClampNeg) then none else ((some (sA (sI P x0 0 (9 : Int32)) ((sI P x0 0 (9 : Int32)).2.2 x0 1) (va_cpy ((sI P x0 0 (9 : Int32)).1 ((sI P x0 0 (9 : Int32)).2.2 x0 1)) ((sI P x0 0 (9 : Int32)).1 ((sI P x0 0 (9 : Int32)).2.2 x0 1)) (1 : Int32).toNatClampNeg (0 : Int32).toNatClampNeg ((sI P x0 0 (9 : Int32)).1 x0 0).toNatClampNeg))).bind fun P3 => (if ((1 : Int32) < 0 ∨ (0 : Int32) < 0 ∨ (P3.1 x0 0) < 0 ∨ 10 < (1 : Int32).toNatClampNeg + (P3.1 x0 0).toNatClampNeg ∨ 10 < (0 : Int32).toNatClampNeg + (P3.1 x0 0).toNatClampNeg) then none else ((some (sA P3 (P3.2.2 x0 2) (va_cpy (P3.1 (P3.2.2 x0 2)) (P3.1 (P3.2.2 x0 2)) (1 : Int32).toNatClampNeg (0 : Int32).toNatClampNeg (P3.1 x0 0).toNatClampNeg))).bind fun P6 => (if ((1 : Int32) < 0 ∨ (0 : Int32) < 0 ∨ (P6.1 x0 0) < 0 ∨ 10 < (1 : Int32).toNatClampNeg + (P6.1 x0 0).toNatClampNeg ∨ 10 < (0 : Int32).toNatClampNeg + (P6.1 x0 0).toNatClampNeg) then none else ((some (sA P6 (P6.2.2 x0 3) (va_cpy (P6.1 (P6.2.2 x0 3)) (P6.1 (P6.2.2 x0 3)) (1 : Int32).toNatClampNeg (0 : Int32).toNatClampNeg (P6.1 x0 0).toNatClampNeg))).bind fun P9 => some P9))))))
theorem w_X1_loseOldest {x : Fx} {E : Ev} (S : ZS x E r_X1_loseOldest cX1_loseOldest 1 RX1 none) (M : ZM x E) (P : PH) (x0 : Nat) (h_x0 : ok x0 0 0) (r : PH) (hf : f_X1_loseOldest P x0 = some r) : Wz x E 1 (QV E x r) P 0 [(0, .ref (ad E x0))] [] := by
  unfold f_X1_loseOldest at hf
  refine z_aload_n S 0 dX1_loseOldest_0 rfl rfl ?_
  refine z_bipush (v := 9) S dX1_loseOldest_1 (by decide) ?_
  refine z_putI S cf_0 h_x0 0 (by decide) rfl rfl rfl rfl wd105 dX1_loseOldest_3 ?_
  refine z_aload_n S 0 dX1_loseOldest_6 rfl rfl ?_
  refine z_getR (K' := 9) (n' := 10) S cf_0 h_x0 1 (by decide) rfl rfl rfl wd107 dX1_loseOldest_7 (fun h1 => ?_)
  refine z_iconst (v := 1) S dX1_loseOldest_10 (by decide) ?_
  refine z_aload_n S 0 dX1_loseOldest_11 rfl rfl ?_
  refine z_getR (K' := 9) (n' := 10) S cf_0 h_x0 1 (by decide) rfl rfl rfl wd107 dX1_loseOldest_12 (fun h2 => ?_)
  refine z_iconst (v := 0) S dX1_loseOldest_15 (by decide) ?_
  refine z_aload_n S 0 dX1_loseOldest_16 rfl rfl ?_
  refine z_getI S cf_0 h_x0 0 (by decide) rfl wd105 dX1_loseOldest_17 ?_
  refine z_copy S h1 h2 wd447 wd449 wd448 wd43 (by decide) (Nat.le_of_ble_eq_true rfl) dX1_loseOldest_20 hf (fun hf => ?_)
  refine z_nmP hf (fun P3 hf => ?_)
  refine z_aload_n S 0 dX1_loseOldest_23 rfl rfl ?_
  refine z_getR (K' := 9) (n' := 10) S cf_0 h_x0 2 (by decide) rfl rfl rfl wd108 dX1_loseOldest_24 (fun h4 => ?_)
  refine z_iconst (v := 1) S dX1_loseOldest_27 (by decide) ?_
  refine z_aload_n S 0 dX1_loseOldest_28 rfl rfl ?_
  refine z_getR (K' := 9) (n' := 10) S cf_0 h_x0 2 (by decide) rfl rfl rfl wd108 dX1_loseOldest_29 (fun h5 => ?_)
  refine z_iconst (v := 0) S dX1_loseOldest_32 (by decide) ?_
  refine z_aload_n S 0 dX1_loseOldest_33 rfl rfl ?_
  refine z_getI S cf_0 h_x0 0 (by decide) rfl wd105 dX1_loseOldest_34 ?_
  refine z_copy S h4 h5 wd447 wd449 wd448 wd43 (by decide) (Nat.le_of_ble_eq_true rfl) dX1_loseOldest_37 hf (fun hf => ?_)
  refine z_nmP hf (fun P6 hf => ?_)
  refine z_aload_n S 0 dX1_loseOldest_40 rfl rfl ?_
  refine z_getR (K' := 9) (n' := 10) S cf_0 h_x0 3 (by decide) rfl rfl rfl wd109 dX1_loseOldest_41 (fun h7 => ?_)
  refine z_iconst (v := 1) S dX1_loseOldest_44 (by decide) ?_
  refine z_aload_n S 0 dX1_loseOldest_45 rfl rfl ?_
  refine z_getR (K' := 9) (n' := 10) S cf_0 h_x0 3 (by decide) rfl rfl rfl wd109 dX1_loseOldest_46 (fun h8 => ?_)
  refine z_iconst (v := 0) S dX1_loseOldest_49 (by decide) ?_
  refine z_aload_n S 0 dX1_loseOldest_50 rfl rfl ?_
  refine z_getI S cf_0 h_x0 0 (by decide) rfl wd105 dX1_loseOldest_51 ?_
  refine z_copy S h7 h8 wd447 wd449 wd448 wd43 (by decide) (Nat.le_of_ble_eq_true rfl) dX1_loseOldest_54 hf (fun hf => ?_)
  refine z_nmP hf (fun P9 hf => ?_)
  exact z_vretI S M rfl dX1_loseOldest_57 hf
theorem m_X1_loseOldest (l : Launch) (E : Ev) (P : PH) (x0 : Nat) (h_x0 : ok x0 0 0) (r : PH) (hf : f_X1_loseOldest P x0 = some r) : CtV l E yX1_loseOldest cX1_loseOldest 1 none r_X1_loseOldest [.ref (ad E x0)] P r :=
  z_body (own := RX1) (by decide +kernel) rfl (Nat.le_of_ble_eq_true rfl) rfl (fun x _ S M => w_X1_loseOldest S M P x0 h_x0 r hf)
-- yX1_add
theorem dX1_add_0 : decode cX1_add 0 = .ok (.aload_n 0, 1) := by decide +kernel
theorem dX1_add_1 : decode cX1_add 1 = .ok (.getfield 21, 3) := by decide +kernel
theorem dX1_add_4 : decode cX1_add 4 = .ok (.bipush 10, 2) := by decide +kernel
theorem dX1_add_6 : decode cX1_add 6 = .ok (.if_icmp .lt 7, 3) := by decide +kernel
theorem dX1_add_9 : decode cX1_add 9 = .ok (.aload_n 0, 1) := by decide +kernel
theorem dX1_add_10 : decode cX1_add 10 = .ok (.invokevirtual 25, 3) := by decide +kernel
theorem dX1_add_13 : decode cX1_add 13 = .ok (.aload_n 0, 1) := by decide +kernel
theorem dX1_add_14 : decode cX1_add 14 = .ok (.getfield 9, 3) := by decide +kernel
theorem dX1_add_17 : decode cX1_add 17 = .ok (.aload_n 0, 1) := by decide +kernel
theorem dX1_add_18 : decode cX1_add 18 = .ok (.getfield 21, 3) := by decide +kernel
theorem dX1_add_21 : decode cX1_add 21 = .ok (.iload_n 1, 1) := by decide +kernel
theorem dX1_add_22 : decode cX1_add 22 = .ok (.iastore, 1) := by decide +kernel
theorem dX1_add_23 : decode cX1_add 23 = .ok (.aload_n 0, 1) := by decide +kernel
theorem dX1_add_24 : decode cX1_add 24 = .ok (.getfield 15, 3) := by decide +kernel
theorem dX1_add_27 : decode cX1_add 27 = .ok (.aload_n 0, 1) := by decide +kernel
theorem dX1_add_28 : decode cX1_add 28 = .ok (.getfield 21, 3) := by decide +kernel
theorem dX1_add_31 : decode cX1_add 31 = .ok (.iload_n 2, 1) := by decide +kernel
theorem dX1_add_32 : decode cX1_add 32 = .ok (.iastore, 1) := by decide +kernel
theorem dX1_add_33 : decode cX1_add 33 = .ok (.aload_n 0, 1) := by decide +kernel
theorem dX1_add_34 : decode cX1_add 34 = .ok (.getfield 18, 3) := by decide +kernel
theorem dX1_add_37 : decode cX1_add 37 = .ok (.aload_n 0, 1) := by decide +kernel
theorem dX1_add_38 : decode cX1_add 38 = .ok (.getfield 21, 3) := by decide +kernel
theorem dX1_add_41 : decode cX1_add 41 = .ok (.iload_n 3, 1) := by decide +kernel
theorem dX1_add_42 : decode cX1_add 42 = .ok (.iastore, 1) := by decide +kernel
theorem dX1_add_43 : decode cX1_add 43 = .ok (.aload_n 0, 1) := by decide +kernel
theorem dX1_add_44 : decode cX1_add 44 = .ok (.dup, 1) := by decide +kernel
theorem dX1_add_45 : decode cX1_add 45 = .ok (.getfield 21, 3) := by decide +kernel
theorem dX1_add_48 : decode cX1_add 48 = .ok (.iconst 1, 1) := by decide +kernel
theorem dX1_add_49 : decode cX1_add 49 = .ok (.iadd, 1) := by decide +kernel
theorem dX1_add_50 : decode cX1_add 50 = .ok (.putfield 21, 3) := by decide +kernel
theorem dX1_add_53 : decode cX1_add 53 = .ok (.return_, 1) := by decide +kernel
def r_X1_add : Room := { frames := 2, cells := 0, slots := 0, locals := 46 }
def f_X1_add_J13 (P : PH) (x0 : Nat) (x1 : Int32) (x2 : Int32) (x3 : Int32) : Option PH :=
  (if ((P.1 x0 0) < 0 ∨ 10 ≤ (P.1 x0 0).toNatClampNeg) then none else ((some (sI P (P.2.2 x0 1) (P.1 x0 0).toNatClampNeg x1)).bind fun P2 => (if ((P2.1 x0 0) < 0 ∨ 10 ≤ (P2.1 x0 0).toNatClampNeg) then none else ((some (sI P2 (P2.2.2 x0 2) (P2.1 x0 0).toNatClampNeg x2)).bind fun P4 => (if ((P4.1 x0 0) < 0 ∨ 10 ≤ (P4.1 x0 0).toNatClampNeg) then none else ((some (sI P4 (P4.2.2 x0 3) (P4.1 x0 0).toNatClampNeg x3)).bind fun P6 => some (sI P6 x0 0 ((P6.1 x0 0) + (1 : Int32)))))))))
theorem w_X1_add_J13 {x : Fx} {E : Ev} (S : ZS x E r_X1_add cX1_add 4 RX1 none) (M : ZM x E) (P : PH) (x0 : Nat) (x1 : Int32) (x2 : Int32) (x3 : Int32) (h_x0 : ok x0 0 0) (r : PH) (hf : f_X1_add_J13 P x0 x1 x2 x3 = some r) : Wz x E 4 (QV E x r) P 13 [(0, .ref (ad E x0)), (1, .int x1), (2, .int x2), (3, .int x3)] [] := by
  unfold f_X1_add_J13 at hf
  refine z_aload_n S 0 dX1_add_13 rfl rfl ?_
  refine z_getR (K' := 9) (n' := 10) S cf_0 h_x0 1 (by decide) rfl rfl rfl wd107 dX1_add_14 (fun h1 => ?_)
  refine z_aload_n S 0 dX1_add_17 rfl rfl ?_
  refine z_getI S cf_0 h_x0 0 (by decide) rfl wd105 dX1_add_18 ?_
  refine z_iload_n S 1 dX1_add_21 rfl rfl ?_
  refine z_iast S h1 dX1_add_22 hf (fun hf => ?_)
  refine z_nmP hf (fun P2 hf => ?_)
  refine z_aload_n S 0 dX1_add_23 rfl rfl ?_
  refine z_getR (K' := 9) (n' := 10) S cf_0 h_x0 2 (by decide) rfl rfl rfl wd108 dX1_add_24 (fun h3 => ?_)
  refine z_aload_n S 0 dX1_add_27 rfl rfl ?_
  refine z_getI S cf_0 h_x0 0 (by decide) rfl wd105 dX1_add_28 ?_
  refine z_iload_n S 2 dX1_add_31 rfl rfl ?_
  refine z_iast S h3 dX1_add_32 hf (fun hf => ?_)
  refine z_nmP hf (fun P4 hf => ?_)
  refine z_aload_n S 0 dX1_add_33 rfl rfl ?_
  refine z_getR (K' := 9) (n' := 10) S cf_0 h_x0 3 (by decide) rfl rfl rfl wd109 dX1_add_34 (fun h5 => ?_)
  refine z_aload_n S 0 dX1_add_37 rfl rfl ?_
  refine z_getI S cf_0 h_x0 0 (by decide) rfl wd105 dX1_add_38 ?_
  refine z_iload_n S 3 dX1_add_41 rfl rfl ?_
  refine z_iast S h5 dX1_add_42 hf (fun hf => ?_)
  refine z_nmP hf (fun P6 hf => ?_)
  refine z_aload_n S 0 dX1_add_43 rfl rfl ?_
  refine z_dup S dX1_add_44 rfl ?_
  refine z_getI S cf_0 h_x0 0 (by decide) rfl wd105 dX1_add_45 ?_
  refine z_iconst (v := 1) S dX1_add_48 (by decide) ?_
  refine z_iadd S dX1_add_49 ?_
  refine z_putI S cf_0 h_x0 0 (by decide) rfl rfl rfl rfl wd105 dX1_add_50 ?_
  exact z_vretI S M rfl dX1_add_53 hf
def f_X1_add (P : PH) (x0 : Nat) (x1 : Int32) (x2 : Int32) (x3 : Int32) : Option PH :=
  (if (P.1 x0 0) < (10 : Int32) then f_X1_add_J13 P x0 x1 x2 x3 else ((f_X1_loseOldest P x0).bind fun q7 => f_X1_add_J13 q7 x0 x1 x2 x3))
theorem w_X1_add {x : Fx} {E : Ev} (S : ZS x E r_X1_add cX1_add 4 RX1 none) (M : ZM x E) (P : PH) (x0 : Nat) (x1 : Int32) (x2 : Int32) (x3 : Int32) (h_x0 : ok x0 0 0) (r : PH) (hf : f_X1_add P x0 x1 x2 x3 = some r) : Wz x E 4 (QV E x r) P 0 [(0, .ref (ad E x0)), (1, .int x1), (2, .int x2), (3, .int x3)] [] := by
  unfold f_X1_add at hf
  refine z_aload_n S 0 dX1_add_0 rfl rfl ?_
  refine z_getI S cf_0 h_x0 0 (by decide) rfl wd105 dX1_add_1 ?_
  refine z_bipush (v := 10) S dX1_add_4 (by decide) ?_
  refine z_icmp_lt (tgt := 13) S dX1_add_6 (by decide) hf (fun hf => ?_) (fun hf => ?_)
  · exact w_X1_add_J13 S M P x0 x1 x2 x3 h_x0 r hf
  · refine z_aload_n S 0 dX1_add_9 rfl rfl ?_
    refine z_callVV (rc := r_X1_loseOldest) [] S mo_X1_loseOldest wd445 wd5 wd443 h_x0 (by decide) cl_0 rfl rfl (by decide) (z_room0 S M (by rfl) (by rfl)) rfl (Nat.le_of_ble_eq_true rfl) rfl dX1_add_10  (fun q => q) (fun q hq => m_X1_loseOldest (xl x) E _ _ h_x0 q hq) hf (fun q7 hf => ?_)
    exact w_X1_add_J13 S M q7 x0 x1 x2 x3 h_x0 r hf
theorem m_X1_add (l : Launch) (E : Ev) (P : PH) (x0 : Nat) (x1 : Int32) (x2 : Int32) (x3 : Int32) (h_x0 : ok x0 0 0) (r : PH) (hf : f_X1_add P x0 x1 x2 x3 = some r) : CtV l E yX1_add cX1_add 4 none r_X1_add [.ref (ad E x0), .int x1, .int x2, .int x3] P r :=
  z_body (own := RX1) (by decide +kernel) rfl (Nat.le_of_ble_eq_true rfl) rfl (fun x _ S M => w_X1_add S M P x0 x1 x2 x3 h_x0 r hf)
-- yX4_swap
theorem dX4_swap_0 : decode cX4_swap 0 = .ok (.aload_n 0, 1) := by decide +kernel
theorem dX4_swap_1 : decode cX4_swap 1 = .ok (.getfield 15, 3) := by decide +kernel
theorem dX4_swap_4 : decode cX4_swap 4 = .ok (.iload_n 1, 1) := by decide +kernel
theorem dX4_swap_5 : decode cX4_swap 5 = .ok (.iaload, 1) := by decide +kernel
theorem dX4_swap_6 : decode cX4_swap 6 = .ok (.istore_n 3, 1) := by decide +kernel
theorem dX4_swap_7 : decode cX4_swap 7 = .ok (.aload_n 0, 1) := by decide +kernel
theorem dX4_swap_8 : decode cX4_swap 8 = .ok (.getfield 15, 3) := by decide +kernel
theorem dX4_swap_11 : decode cX4_swap 11 = .ok (.iload_n 1, 1) := by decide +kernel
theorem dX4_swap_12 : decode cX4_swap 12 = .ok (.aload_n 0, 1) := by decide +kernel
theorem dX4_swap_13 : decode cX4_swap 13 = .ok (.getfield 15, 3) := by decide +kernel
theorem dX4_swap_16 : decode cX4_swap 16 = .ok (.iload_n 2, 1) := by decide +kernel
theorem dX4_swap_17 : decode cX4_swap 17 = .ok (.iaload, 1) := by decide +kernel
theorem dX4_swap_18 : decode cX4_swap 18 = .ok (.iastore, 1) := by decide +kernel
theorem dX4_swap_19 : decode cX4_swap 19 = .ok (.aload_n 0, 1) := by decide +kernel
theorem dX4_swap_20 : decode cX4_swap 20 = .ok (.getfield 15, 3) := by decide +kernel
theorem dX4_swap_23 : decode cX4_swap 23 = .ok (.iload_n 2, 1) := by decide +kernel
theorem dX4_swap_24 : decode cX4_swap 24 = .ok (.iload_n 3, 1) := by decide +kernel
theorem dX4_swap_25 : decode cX4_swap 25 = .ok (.iastore, 1) := by decide +kernel
theorem dX4_swap_26 : decode cX4_swap 26 = .ok (.return_, 1) := by decide +kernel
def r_X4_swap : Room := { frames := 0, cells := 0, slots := 0, locals := 0 }
def f_X4_swap (P : PH) (x0 : Nat) (x1 : Int32) (x2 : Int32) : Option PH :=
  (if (x1 < 0 ∨ 7 ≤ x1.toNatClampNeg) then none else (if (x2 < 0 ∨ 7 ≤ x2.toNatClampNeg) then none else (if (x1 < 0 ∨ 7 ≤ x1.toNatClampNeg) then none else ((some (sI P (P.2.2 x0 4) x1.toNatClampNeg (P.1 (P.2.2 x0 4) x2.toNatClampNeg))).bind fun P4 => (if (x2 < 0 ∨ 7 ≤ x2.toNatClampNeg) then none else ((some (sI P4 (P4.2.2 x0 4) x2.toNatClampNeg (P.1 (P.2.2 x0 4) x1.toNatClampNeg))).bind fun P6 => some P6))))))
theorem w_X4_swap {x : Fx} {E : Ev} (S : ZS x E r_X4_swap cX4_swap 4 RX4 none) (M : ZM x E) (P : PH) (x0 : Nat) (x1 : Int32) (x2 : Int32) (h_x0 : ok x0 2 0) (r : PH) (hf : f_X4_swap P x0 x1 x2 = some r) : Wz x E 4 (QV E x r) P 0 [(0, .ref (ad E x0)), (1, .int x1), (2, .int x2)] [] := by
  unfold f_X4_swap at hf
  refine z_aload_n S 0 dX4_swap_0 rfl rfl ?_
  refine z_getR (K' := 9) (n' := 7) S cf_2 h_x0 4 (by decide) rfl rfl rfl wd187 dX4_swap_1 (fun h1 => ?_)
  refine z_iload_n S 1 dX4_swap_4 rfl rfl ?_
  refine z_iald S h1 dX4_swap_5 hf (fun hf => ?_)
  refine z_istore_n (lv' := [(3, .int (P.1 (P.2.2 x0 4) x1.toNatClampNeg)), (0, .ref (ad E x0)), (1, .int x1), (2, .int x2)]) S dX4_swap_6 rfl (by decide) rfl ?_
  refine z_aload_n S 1 dX4_swap_7 rfl rfl ?_
  refine z_getR (K' := 9) (n' := 7) S cf_2 h_x0 4 (by decide) rfl rfl rfl wd187 dX4_swap_8 (fun h2 => ?_)
  refine z_iload_n S 2 dX4_swap_11 rfl rfl ?_
  refine z_aload_n S 1 dX4_swap_12 rfl rfl ?_
  refine z_getR (K' := 9) (n' := 7) S cf_2 h_x0 4 (by decide) rfl rfl rfl wd187 dX4_swap_13 (fun h3 => ?_)
  refine z_iload_n S 3 dX4_swap_16 rfl rfl ?_
  refine z_iald S h3 dX4_swap_17 hf (fun hf => ?_)
  refine z_iast S h2 dX4_swap_18 hf (fun hf => ?_)
  refine z_nmP hf (fun P4 hf => ?_)
  refine z_aload_n S 1 dX4_swap_19 rfl rfl ?_
  refine z_getR (K' := 9) (n' := 7) S cf_2 h_x0 4 (by decide) rfl rfl rfl wd187 dX4_swap_20 (fun h5 => ?_)
  refine z_iload_n S 3 dX4_swap_23 rfl rfl ?_
  refine z_iload_n S 0 dX4_swap_24 rfl rfl ?_
  refine z_iast S h5 dX4_swap_25 hf (fun hf => ?_)
  refine z_nmP hf (fun P6 hf => ?_)
  exact z_vretI S M rfl dX4_swap_26 hf
theorem m_X4_swap (l : Launch) (E : Ev) (P : PH) (x0 : Nat) (x1 : Int32) (x2 : Int32) (h_x0 : ok x0 2 0) (r : PH) (hf : f_X4_swap P x0 x1 x2 = some r) : CtV l E yX4_swap cX4_swap 4 none r_X4_swap [.ref (ad E x0), .int x1, .int x2] P r :=
  z_body (own := RX4) (by decide +kernel) rfl (Nat.le_of_ble_eq_true rfl) rfl (fun x _ S M => w_X4_swap S M P x0 x1 x2 h_x0 r hf)
-- yX1_takeBack
theorem dX1_takeBack_0 : decode cX1_takeBack 0 = .ok (.aload_n 0, 1) := by decide +kernel
theorem dX1_takeBack_1 : decode cX1_takeBack 1 = .ok (.getfield 21, 3) := by decide +kernel
theorem dX1_takeBack_4 : decode cX1_takeBack 4 = .ok (.ifCond .gt 4, 3) := by decide +kernel
theorem dX1_takeBack_7 : decode cX1_takeBack 7 = .ok (.return_, 1) := by decide +kernel
theorem dX1_takeBack_8 : decode cX1_takeBack 8 = .ok (.aload_n 0, 1) := by decide +kernel
theorem dX1_takeBack_9 : decode cX1_takeBack 9 = .ok (.dup, 1) := by decide +kernel
theorem dX1_takeBack_10 : decode cX1_takeBack 10 = .ok (.getfield 21, 3) := by decide +kernel
theorem dX1_takeBack_13 : decode cX1_takeBack 13 = .ok (.iconst 1, 1) := by decide +kernel
theorem dX1_takeBack_14 : decode cX1_takeBack 14 = .ok (.isub, 1) := by decide +kernel
theorem dX1_takeBack_15 : decode cX1_takeBack 15 = .ok (.putfield 21, 3) := by decide +kernel
theorem dX1_takeBack_18 : decode cX1_takeBack 18 = .ok (.aload_n 0, 1) := by decide +kernel
theorem dX1_takeBack_19 : decode cX1_takeBack 19 = .ok (.getfield 15, 3) := by decide +kernel
theorem dX1_takeBack_22 : decode cX1_takeBack 22 = .ok (.aload_n 0, 1) := by decide +kernel
theorem dX1_takeBack_23 : decode cX1_takeBack 23 = .ok (.getfield 21, 3) := by decide +kernel
theorem dX1_takeBack_26 : decode cX1_takeBack 26 = .ok (.iaload, 1) := by decide +kernel
theorem dX1_takeBack_27 : decode cX1_takeBack 27 = .ok (.istore_n 2, 1) := by decide +kernel
theorem dX1_takeBack_28 : decode cX1_takeBack 28 = .ok (.aload_n 0, 1) := by decide +kernel
theorem dX1_takeBack_29 : decode cX1_takeBack 29 = .ok (.getfield 18, 3) := by decide +kernel
theorem dX1_takeBack_32 : decode cX1_takeBack 32 = .ok (.aload_n 0, 1) := by decide +kernel
theorem dX1_takeBack_33 : decode cX1_takeBack 33 = .ok (.getfield 21, 3) := by decide +kernel
theorem dX1_takeBack_36 : decode cX1_takeBack 36 = .ok (.iaload, 1) := by decide +kernel
theorem dX1_takeBack_37 : decode cX1_takeBack 37 = .ok (.istore_n 3, 1) := by decide +kernel
theorem dX1_takeBack_38 : decode cX1_takeBack 38 = .ok (.aload_n 0, 1) := by decide +kernel
theorem dX1_takeBack_39 : decode cX1_takeBack 39 = .ok (.getfield 9, 3) := by decide +kernel
theorem dX1_takeBack_42 : decode cX1_takeBack 42 = .ok (.aload_n 0, 1) := by decide +kernel
theorem dX1_takeBack_43 : decode cX1_takeBack 43 = .ok (.getfield 21, 3) := by decide +kernel
theorem dX1_takeBack_46 : decode cX1_takeBack 46 = .ok (.iaload, 1) := by decide +kernel
theorem dX1_takeBack_47 : decode cX1_takeBack 47 = .ok (.tableswitch 93 0 4 #[33, 46, 61, 74, 83], 33) := by decide +kernel
theorem dX1_takeBack_80 : decode cX1_takeBack 80 = .ok (.aload_n 1, 1) := by decide +kernel
theorem dX1_takeBack_81 : decode cX1_takeBack 81 = .ok (.dup, 1) := by decide +kernel
theorem dX1_takeBack_82 : decode cX1_takeBack 82 = .ok (.getfield 34, 3) := by decide +kernel
theorem dX1_takeBack_85 : decode cX1_takeBack 85 = .ok (.iconst 1, 1) := by decide +kernel
theorem dX1_takeBack_86 : decode cX1_takeBack 86 = .ok (.isub, 1) := by decide +kernel
theorem dX1_takeBack_87 : decode cX1_takeBack 87 = .ok (.putfield 34, 3) := by decide +kernel
theorem dX1_takeBack_90 : decode cX1_takeBack 90 = .ok (.goto 50, 3) := by decide +kernel
theorem dX1_takeBack_93 : decode cX1_takeBack 93 = .ok (.aload_n 1, 1) := by decide +kernel
theorem dX1_takeBack_94 : decode cX1_takeBack 94 = .ok (.dup, 1) := by decide +kernel
theorem dX1_takeBack_95 : decode cX1_takeBack 95 = .ok (.getfield 39, 3) := by decide +kernel
theorem dX1_takeBack_98 : decode cX1_takeBack 98 = .ok (.iconst 1, 1) := by decide +kernel
theorem dX1_takeBack_99 : decode cX1_takeBack 99 = .ok (.iload_n 2, 1) := by decide +kernel
theorem dX1_takeBack_100 : decode cX1_takeBack 100 = .ok (.ishl, 1) := by decide +kernel
theorem dX1_takeBack_101 : decode cX1_takeBack 101 = .ok (.ior, 1) := by decide +kernel
theorem dX1_takeBack_102 : decode cX1_takeBack 102 = .ok (.putfield 39, 3) := by decide +kernel
theorem dX1_takeBack_105 : decode cX1_takeBack 105 = .ok (.goto 35, 3) := by decide +kernel
theorem dX1_takeBack_108 : decode cX1_takeBack 108 = .ok (.aload_n 1, 1) := by decide +kernel
theorem dX1_takeBack_109 : decode cX1_takeBack 109 = .ok (.dup, 1) := by decide +kernel
theorem dX1_takeBack_110 : decode cX1_takeBack 110 = .ok (.getfield 42, 3) := by decide +kernel
theorem dX1_takeBack_113 : decode cX1_takeBack 113 = .ok (.iconst 1, 1) := by decide +kernel
theorem dX1_takeBack_114 : decode cX1_takeBack 114 = .ok (.isub, 1) := by decide +kernel
theorem dX1_takeBack_115 : decode cX1_takeBack 115 = .ok (.putfield 42, 3) := by decide +kernel
theorem dX1_takeBack_118 : decode cX1_takeBack 118 = .ok (.goto 22, 3) := by decide +kernel
theorem dX1_takeBack_121 : decode cX1_takeBack 121 = .ok (.aload_n 1, 1) := by decide +kernel
theorem dX1_takeBack_122 : decode cX1_takeBack 122 = .ok (.iload_n 2, 1) := by decide +kernel
theorem dX1_takeBack_123 : decode cX1_takeBack 123 = .ok (.iload_n 3, 1) := by decide +kernel
theorem dX1_takeBack_124 : decode cX1_takeBack 124 = .ok (.invokevirtual 45, 3) := by decide +kernel
theorem dX1_takeBack_127 : decode cX1_takeBack 127 = .ok (.goto 13, 3) := by decide +kernel
theorem dX1_takeBack_130 : decode cX1_takeBack 130 = .ok (.aload_n 1, 1) := by decide +kernel
theorem dX1_takeBack_131 : decode cX1_takeBack 131 = .ok (.getfield 49, 3) := by decide +kernel
theorem dX1_takeBack_134 : decode cX1_takeBack 134 = .ok (.iload_n 2, 1) := by decide +kernel
theorem dX1_takeBack_135 : decode cX1_takeBack 135 = .ok (.iload_n 3, 1) := by decide +kernel
theorem dX1_takeBack_136 : decode cX1_takeBack 136 = .ok (.iastore, 1) := by decide +kernel
theorem dX1_takeBack_137 : decode cX1_takeBack 137 = .ok (.goto 3, 3) := by decide +kernel
theorem dX1_takeBack_140 : decode cX1_takeBack 140 = .ok (.return_, 1) := by decide +kernel
def r_X1_takeBack : Room := { frames := 1, cells := 0, slots := 0, locals := 23 }
def f_X1_takeBack (P : PH) (x0 : Nat) (x1 : Nat) : Option PH :=
  (if 0 < (P.1 x0 0) then (if (((sI P x0 0 ((P.1 x0 0) - (1 : Int32))).1 x0 0) < 0 ∨ 10 ≤ ((sI P x0 0 ((P.1 x0 0) - (1 : Int32))).1 x0 0).toNatClampNeg) then none else ((some ((sI P x0 0 ((P.1 x0 0) - (1 : Int32))).1 ((sI P x0 0 ((P.1 x0 0) - (1 : Int32))).2.2 x0 2) ((sI P x0 0 ((P.1 x0 0) - (1 : Int32))).1 x0 0).toNatClampNeg)).bind fun u2 => (if (((sI P x0 0 ((P.1 x0 0) - (1 : Int32))).1 x0 0) < 0 ∨ 10 ≤ ((sI P x0 0 ((P.1 x0 0) - (1 : Int32))).1 x0 0).toNatClampNeg) then none else ((some ((sI P x0 0 ((P.1 x0 0) - (1 : Int32))).1 ((sI P x0 0 ((P.1 x0 0) - (1 : Int32))).2.2 x0 3) ((sI P x0 0 ((P.1 x0 0) - (1 : Int32))).1 x0 0).toNatClampNeg)).bind fun u4 => (if (((sI P x0 0 ((P.1 x0 0) - (1 : Int32))).1 x0 0) < 0 ∨ 10 ≤ ((sI P x0 0 ((P.1 x0 0) - (1 : Int32))).1 x0 0).toNatClampNeg) then none else (if ((sI P x0 0 ((P.1 x0 0) - (1 : Int32))).1 ((sI P x0 0 ((P.1 x0 0) - (1 : Int32))).2.2 x0 1) ((sI P x0 0 ((P.1 x0 0) - (1 : Int32))).1 x0 0).toNatClampNeg) = (0 : Int32) then ((some (sI (sI P x0 0 ((P.1 x0 0) - (1 : Int32))) x1 0 (((sI P x0 0 ((P.1 x0 0) - (1 : Int32))).1 x1 0) - (1 : Int32)))).bind fun P7 => some P7) else (if ((sI P x0 0 ((P.1 x0 0) - (1 : Int32))).1 ((sI P x0 0 ((P.1 x0 0) - (1 : Int32))).2.2 x0 1) ((sI P x0 0 ((P.1 x0 0) - (1 : Int32))).1 x0 0).toNatClampNeg) = (1 : Int32) then ((some (sI (sI P x0 0 ((P.1 x0 0) - (1 : Int32))) x1 1 (((sI P x0 0 ((P.1 x0 0) - (1 : Int32))).1 x1 1) ||| ((1 : Int32) <<< (u2 &&& 31))))).bind fun P9 => some P9) else (if ((sI P x0 0 ((P.1 x0 0) - (1 : Int32))).1 ((sI P x0 0 ((P.1 x0 0) - (1 : Int32))).2.2 x0 1) ((sI P x0 0 ((P.1 x0 0) - (1 : Int32))).1 x0 0).toNatClampNeg) = (2 : Int32) then ((some (sI (sI P x0 0 ((P.1 x0 0) - (1 : Int32))) x1 2 (((sI P x0 0 ((P.1 x0 0) - (1 : Int32))).1 x1 2) - (1 : Int32)))).bind fun P11 => some P11) else (if ((sI P x0 0 ((P.1 x0 0) - (1 : Int32))).1 ((sI P x0 0 ((P.1 x0 0) - (1 : Int32))).2.2 x0 1) ((sI P x0 0 ((P.1 x0 0) - (1 : Int32))).1 x0 0).toNatClampNeg) = (3 : Int32) then ((f_X4_swap (sI P x0 0 ((P.1 x0 0) - (1 : Int32))) x1 u2 u4).bind fun q13 => some q13) else (if ((sI P x0 0 ((P.1 x0 0) - (1 : Int32))).1 ((sI P x0 0 ((P.1 x0 0) - (1 : Int32))).2.2 x0 1) ((sI P x0 0 ((P.1 x0 0) - (1 : Int32))).1 x0 0).toNatClampNeg) = (4 : Int32) then (if (u2 < 0 ∨ 6 ≤ u2.toNatClampNeg) then none else ((some (sI (sI P x0 0 ((P.1 x0 0) - (1 : Int32))) ((sI P x0 0 ((P.1 x0 0) - (1 : Int32))).2.2 x1 3) u2.toNatClampNeg u4)).bind fun P16 => some P16)) else some (sI P x0 0 ((P.1 x0 0) - (1 : Int32))))))))))))) else some P)
theorem w_X1_takeBack {x : Fx} {E : Ev} (S : ZS x E r_X1_takeBack cX1_takeBack 4 RX1 none) (M : ZM x E) (P : PH) (x0 : Nat) (x1 : Nat) (h_x0 : ok x0 0 0) (h_x1 : ok x1 2 0) (r : PH) (hf : f_X1_takeBack P x0 x1 = some r) : Wz x E 4 (QV E x r) P 0 [(0, .ref (ad E x0)), (1, .ref (ad E x1))] [] := by
  unfold f_X1_takeBack at hf
  refine z_aload_n S 0 dX1_takeBack_0 rfl rfl ?_
  refine z_getI S cf_0 h_x0 0 (by decide) rfl wd105 dX1_takeBack_1 ?_
  refine z_if_gt (tgt := 8) S dX1_takeBack_4 (by decide) hf (fun hf => ?_) (fun hf => ?_)
  · refine z_aload_n S 0 dX1_takeBack_8 rfl rfl ?_
    refine z_dup S dX1_takeBack_9 rfl ?_
    refine z_getI S cf_0 h_x0 0 (by decide) rfl wd105 dX1_takeBack_10 ?_
    refine z_iconst (v := 1) S dX1_takeBack_13 (by decide) ?_
    refine z_isub S dX1_takeBack_14 ?_
    refine z_putI S cf_0 h_x0 0 (by decide) rfl rfl rfl rfl wd105 dX1_takeBack_15 ?_
    refine z_aload_n S 0 dX1_takeBack_18 rfl rfl ?_
    refine z_getR (K' := 9) (n' := 10) S cf_0 h_x0 2 (by decide) rfl rfl rfl wd108 dX1_takeBack_19 (fun h1 => ?_)
    refine z_aload_n S 0 dX1_takeBack_22 rfl rfl ?_
    refine z_getI S cf_0 h_x0 0 (by decide) rfl wd105 dX1_takeBack_23 ?_
    refine z_iald S h1 dX1_takeBack_26 hf (fun hf => ?_)
    refine z_nm hf (fun u2 hf => ?_)
    refine z_istore_n (lv' := [(2, .int u2), (0, .ref (ad E x0)), (1, .ref (ad E x1))]) S dX1_takeBack_27 rfl (by decide) rfl ?_
    refine z_aload_n S 1 dX1_takeBack_28 rfl rfl ?_
    refine z_getR (K' := 9) (n' := 10) S cf_0 h_x0 3 (by decide) rfl rfl rfl wd109 dX1_takeBack_29 (fun h3 => ?_)
    refine z_aload_n S 1 dX1_takeBack_32 rfl rfl ?_
    refine z_getI S cf_0 h_x0 0 (by decide) rfl wd105 dX1_takeBack_33 ?_
    refine z_iald S h3 dX1_takeBack_36 hf (fun hf => ?_)
    refine z_nm hf (fun u4 hf => ?_)
    refine z_istore_n (lv' := [(3, .int u4), (2, .int u2), (0, .ref (ad E x0)), (1, .ref (ad E x1))]) S dX1_takeBack_37 rfl (by decide) rfl ?_
    refine z_aload_n S 2 dX1_takeBack_38 rfl rfl ?_
    refine z_getR (K' := 9) (n' := 10) S cf_0 h_x0 1 (by decide) rfl rfl rfl wd107 dX1_takeBack_39 (fun h5 => ?_)
    refine z_aload_n S 2 dX1_takeBack_42 rfl rfl ?_
    refine z_getI S cf_0 h_x0 0 (by decide) rfl wd105 dX1_takeBack_43 ?_
    refine z_iald S h5 dX1_takeBack_46 hf (fun hf => ?_)
    refine z_tif hf (fun h6 hf => ?_) (fun h6 hf => ?_)
    · refine z_tabIn (tgt := 80) S 0 dX1_takeBack_47 (by rw [h6]; rfl) (by decide) rfl (by decide) ?_
      refine z_aload_n S 3 dX1_takeBack_80 rfl rfl ?_
      refine z_dup S dX1_takeBack_81 rfl ?_
      refine z_getI S cf_2 h_x1 0 (by decide) rfl wd168 dX1_takeBack_82 ?_
      refine z_iconst (v := 1) S dX1_takeBack_85 (by decide) ?_
      refine z_isub S dX1_takeBack_86 ?_
      refine z_putI S cf_2 h_x1 0 (by decide) rfl rfl rfl rfl wd168 dX1_takeBack_87 ?_
      refine z_nmP hf (fun P7 hf => ?_)
      refine z_goto (tgt := 140) S dX1_takeBack_90 (by decide) ?_
      exact z_vretI S M rfl dX1_takeBack_140 hf
    refine z_tif hf (fun h8 hf => ?_) (fun h8 hf => ?_)
    · refine z_tabIn (tgt := 93) S 1 dX1_takeBack_47 (by rw [h8]; rfl) (by decide) rfl (by decide) ?_
      refine z_aload_n S 3 dX1_takeBack_93 rfl rfl ?_
      refine z_dup S dX1_takeBack_94 rfl ?_
      refine z_getI S cf_2 h_x1 1 (by decide) rfl wd175 dX1_takeBack_95 ?_
      refine z_iconst (v := 1) S dX1_takeBack_98 (by decide) ?_
      refine z_iload_n S 1 dX1_takeBack_99 rfl rfl ?_
      refine z_ishl S dX1_takeBack_100 ?_
      refine z_ior S dX1_takeBack_101 ?_
      refine z_putI S cf_2 h_x1 1 (by decide) rfl rfl rfl rfl wd175 dX1_takeBack_102 ?_
      refine z_nmP hf (fun P9 hf => ?_)
      refine z_goto (tgt := 140) S dX1_takeBack_105 (by decide) ?_
      exact z_vretI S M rfl dX1_takeBack_140 hf
    refine z_tif hf (fun h10 hf => ?_) (fun h10 hf => ?_)
    · refine z_tabIn (tgt := 108) S 2 dX1_takeBack_47 (by rw [h10]; rfl) (by decide) rfl (by decide) ?_
      refine z_aload_n S 3 dX1_takeBack_108 rfl rfl ?_
      refine z_dup S dX1_takeBack_109 rfl ?_
      refine z_getI S cf_2 h_x1 2 (by decide) rfl wd180 dX1_takeBack_110 ?_
      refine z_iconst (v := 1) S dX1_takeBack_113 (by decide) ?_
      refine z_isub S dX1_takeBack_114 ?_
      refine z_putI S cf_2 h_x1 2 (by decide) rfl rfl rfl rfl wd180 dX1_takeBack_115 ?_
      refine z_nmP hf (fun P11 hf => ?_)
      refine z_goto (tgt := 140) S dX1_takeBack_118 (by decide) ?_
      exact z_vretI S M rfl dX1_takeBack_140 hf
    refine z_tif hf (fun h12 hf => ?_) (fun h12 hf => ?_)
    · refine z_tabIn (tgt := 121) S 3 dX1_takeBack_47 (by rw [h12]; rfl) (by decide) rfl (by decide) ?_
      refine z_aload_n S 3 dX1_takeBack_121 rfl rfl ?_
      refine z_iload_n S 1 dX1_takeBack_122 rfl rfl ?_
      refine z_iload_n S 0 dX1_takeBack_123 rfl rfl ?_
      refine z_callVV (rc := r_X4_swap) [.int u2, .int u4] S mo_X4_swap wd470 wd471 wd486 h_x1 (by decide) cl_2 rfl rfl (by decide) (z_room0 S M (by rfl) (by rfl)) rfl (Nat.le_of_ble_eq_true rfl) rfl dX1_takeBack_124  (fun q => q) (fun q hq => m_X4_swap (xl x) E _ _ _ _ h_x1 q hq) hf (fun q13 hf => ?_)
      refine z_goto (tgt := 140) S dX1_takeBack_127 (by decide) ?_
      exact z_vretI S M rfl dX1_takeBack_140 hf
    refine z_tif hf (fun h14 hf => ?_) (fun h14 hf => ?_)
    · refine z_tabIn (tgt := 130) S 4 dX1_takeBack_47 (by rw [h14]; rfl) (by decide) rfl (by decide) ?_
      refine z_aload_n S 3 dX1_takeBack_130 rfl rfl ?_
      refine z_getR (K' := 9) (n' := 6) S cf_2 h_x1 3 (by decide) rfl rfl rfl wd185 dX1_takeBack_131 (fun h15 => ?_)
      refine z_iload_n S 1 dX1_takeBack_134 rfl rfl ?_
      refine z_iload_n S 0 dX1_takeBack_135 rfl rfl ?_
      refine z_iast S h15 dX1_takeBack_136 hf (fun hf => ?_)
      refine z_nmP hf (fun P16 hf => ?_)
      refine z_goto (tgt := 140) S dX1_takeBack_137 (by decide) ?_
      exact z_vretI S M rfl dX1_takeBack_140 hf
    refine z_tabOut (tgt := 140) S dX1_takeBack_47 (by have e0 := lv_neT h6 (a := 0) rfl; have e1 := lv_neT h8 (a := 1) rfl; have e2 := lv_neT h10 (a := 2) rfl; have e3 := lv_neT h12 (a := 3) rfl; have e4 := lv_neT h14 (a := 4) rfl; omega) (by decide) ?_
    exact z_vretI S M rfl dX1_takeBack_140 hf
  · exact z_vretI S M rfl dX1_takeBack_7 hf
theorem m_X1_takeBack (l : Launch) (E : Ev) (P : PH) (x0 : Nat) (x1 : Nat) (h_x0 : ok x0 0 0) (h_x1 : ok x1 2 0) (r : PH) (hf : f_X1_takeBack P x0 x1 = some r) : CtV l E yX1_takeBack cX1_takeBack 4 none r_X1_takeBack [.ref (ad E x0), .ref (ad E x1)] P r :=
  z_body (own := RX1) (by decide +kernel) rfl (Nat.le_of_ble_eq_true rfl) rfl (fun x _ S M => w_X1_takeBack S M P x0 x1 h_x0 h_x1 r hf)
-- yX4_copy
theorem dX4_copy_0 : decode cX4_copy 0 = .ok (.aload_n 0, 1) := by decide +kernel
theorem dX4_copy_1 : decode cX4_copy 1 = .ok (.aload_n 1, 1) := by decide +kernel
theorem dX4_copy_2 : decode cX4_copy 2 = .ok (.getfield 27, 3) := by decide +kernel
theorem dX4_copy_5 : decode cX4_copy 5 = .ok (.putfield 27, 3) := by decide +kernel
theorem dX4_copy_8 : decode cX4_copy 8 = .ok (.aload_n 0, 1) := by decide +kernel
theorem dX4_copy_9 : decode cX4_copy 9 = .ok (.aload_n 1, 1) := by decide +kernel
theorem dX4_copy_10 : decode cX4_copy 10 = .ok (.getfield 31, 3) := by decide +kernel
theorem dX4_copy_13 : decode cX4_copy 13 = .ok (.putfield 31, 3) := by decide +kernel
theorem dX4_copy_16 : decode cX4_copy 16 = .ok (.aload_n 0, 1) := by decide +kernel
theorem dX4_copy_17 : decode cX4_copy 17 = .ok (.aload_n 1, 1) := by decide +kernel
theorem dX4_copy_18 : decode cX4_copy 18 = .ok (.getfield 34, 3) := by decide +kernel
theorem dX4_copy_21 : decode cX4_copy 21 = .ok (.putfield 34, 3) := by decide +kernel
theorem dX4_copy_24 : decode cX4_copy 24 = .ok (.aload_n 1, 1) := by decide +kernel
theorem dX4_copy_25 : decode cX4_copy 25 = .ok (.getfield 9, 3) := by decide +kernel
theorem dX4_copy_28 : decode cX4_copy 28 = .ok (.iconst 0, 1) := by decide +kernel
theorem dX4_copy_29 : decode cX4_copy 29 = .ok (.aload_n 0, 1) := by decide +kernel
theorem dX4_copy_30 : decode cX4_copy 30 = .ok (.getfield 9, 3) := by decide +kernel
theorem dX4_copy_33 : decode cX4_copy 33 = .ok (.iconst 0, 1) := by decide +kernel
theorem dX4_copy_34 : decode cX4_copy 34 = .ok (.bipush 6, 2) := by decide +kernel
theorem dX4_copy_36 : decode cX4_copy 36 = .ok (.invokestatic 37, 3) := by decide +kernel
theorem dX4_copy_39 : decode cX4_copy 39 = .ok (.aload_n 1, 1) := by decide +kernel
theorem dX4_copy_40 : decode cX4_copy 40 = .ok (.getfield 15, 3) := by decide +kernel
theorem dX4_copy_43 : decode cX4_copy 43 = .ok (.iconst 0, 1) := by decide +kernel
theorem dX4_copy_44 : decode cX4_copy 44 = .ok (.aload_n 0, 1) := by decide +kernel
theorem dX4_copy_45 : decode cX4_copy 45 = .ok (.getfield 15, 3) := by decide +kernel
theorem dX4_copy_48 : decode cX4_copy 48 = .ok (.iconst 0, 1) := by decide +kernel
theorem dX4_copy_49 : decode cX4_copy 49 = .ok (.bipush 7, 2) := by decide +kernel
theorem dX4_copy_51 : decode cX4_copy 51 = .ok (.invokestatic 37, 3) := by decide +kernel
theorem dX4_copy_54 : decode cX4_copy 54 = .ok (.aload_n 1, 1) := by decide +kernel
theorem dX4_copy_55 : decode cX4_copy 55 = .ok (.getfield 18, 3) := by decide +kernel
theorem dX4_copy_58 : decode cX4_copy 58 = .ok (.iconst 0, 1) := by decide +kernel
theorem dX4_copy_59 : decode cX4_copy 59 = .ok (.aload_n 0, 1) := by decide +kernel
theorem dX4_copy_60 : decode cX4_copy 60 = .ok (.getfield 18, 3) := by decide +kernel
theorem dX4_copy_63 : decode cX4_copy 63 = .ok (.iconst 0, 1) := by decide +kernel
theorem dX4_copy_64 : decode cX4_copy 64 = .ok (.bipush 10, 2) := by decide +kernel
theorem dX4_copy_66 : decode cX4_copy 66 = .ok (.invokestatic 37, 3) := by decide +kernel
theorem dX4_copy_69 : decode cX4_copy 69 = .ok (.aload_n 1, 1) := by decide +kernel
theorem dX4_copy_70 : decode cX4_copy 70 = .ok (.getfield 21, 3) := by decide +kernel
theorem dX4_copy_73 : decode cX4_copy 73 = .ok (.iconst 0, 1) := by decide +kernel
theorem dX4_copy_74 : decode cX4_copy 74 = .ok (.aload_n 0, 1) := by decide +kernel
theorem dX4_copy_75 : decode cX4_copy 75 = .ok (.getfield 21, 3) := by decide +kernel
theorem dX4_copy_78 : decode cX4_copy 78 = .ok (.iconst 0, 1) := by decide +kernel
theorem dX4_copy_79 : decode cX4_copy 79 = .ok (.bipush 10, 2) := by decide +kernel
theorem dX4_copy_81 : decode cX4_copy 81 = .ok (.invokestatic 37, 3) := by decide +kernel
theorem dX4_copy_84 : decode cX4_copy 84 = .ok (.aload_n 1, 1) := by decide +kernel
theorem dX4_copy_85 : decode cX4_copy 85 = .ok (.getfield 24, 3) := by decide +kernel
theorem dX4_copy_88 : decode cX4_copy 88 = .ok (.iconst 0, 1) := by decide +kernel
theorem dX4_copy_89 : decode cX4_copy 89 = .ok (.aload_n 0, 1) := by decide +kernel
theorem dX4_copy_90 : decode cX4_copy 90 = .ok (.getfield 24, 3) := by decide +kernel
theorem dX4_copy_93 : decode cX4_copy 93 = .ok (.iconst 0, 1) := by decide +kernel
theorem dX4_copy_94 : decode cX4_copy 94 = .ok (.bipush 10, 2) := by decide +kernel
theorem dX4_copy_96 : decode cX4_copy 96 = .ok (.invokestatic 37, 3) := by decide +kernel
theorem dX4_copy_99 : decode cX4_copy 99 = .ok (.return_, 1) := by decide +kernel
def r_X4_copy : Room := { frames := 1, cells := 0, slots := 0, locals := 26 }
def f_X4_copy (P : PH) (x0 : Nat) (x1 : Nat) : Option PH :=
  ((some (sI (sI P x0 0 (P.1 x1 0)) x0 1 ((sI P x0 0 (P.1 x1 0)).1 x1 1))).bind fun P1 => (if ((0 : Int32) < 0 ∨ (0 : Int32) < 0 ∨ (6 : Int32) < 0 ∨ 6 < (0 : Int32).toNatClampNeg + (6 : Int32).toNatClampNeg ∨ 6 < (0 : Int32).toNatClampNeg + (6 : Int32).toNatClampNeg) then none else ((some (sA (sI P1 x0 2 (P1.1 x1 2)) ((sI P1 x0 2 (P1.1 x1 2)).2.2 x0 3) (va_cpy ((sI P1 x0 2 (P1.1 x1 2)).1 ((sI P1 x0 2 (P1.1 x1 2)).2.2 x1 3)) ((sI P1 x0 2 (P1.1 x1 2)).1 ((sI P1 x0 2 (P1.1 x1 2)).2.2 x0 3)) (0 : Int32).toNatClampNeg (0 : Int32).toNatClampNeg (6 : Int32).toNatClampNeg))).bind fun P4 => (if ((0 : Int32) < 0 ∨ (0 : Int32) < 0 ∨ (7 : Int32) < 0 ∨ 7 < (0 : Int32).toNatClampNeg + (7 : Int32).toNatClampNeg ∨ 7 < (0 : Int32).toNatClampNeg + (7 : Int32).toNatClampNeg) then none else ((some (sA P4 (P4.2.2 x0 4) (va_cpy (P4.1 (P4.2.2 x1 4)) (P4.1 (P4.2.2 x0 4)) (0 : Int32).toNatClampNeg (0 : Int32).toNatClampNeg (7 : Int32).toNatClampNeg))).bind fun P7 => (if ((0 : Int32) < 0 ∨ (0 : Int32) < 0 ∨ (10 : Int32) < 0 ∨ 10 < (0 : Int32).toNatClampNeg + (10 : Int32).toNatClampNeg ∨ 10 < (0 : Int32).toNatClampNeg + (10 : Int32).toNatClampNeg) then none else ((some (sA P7 (P7.2.2 x0 5) (va_cpy (P7.1 (P7.2.2 x1 5)) (P7.1 (P7.2.2 x0 5)) (0 : Int32).toNatClampNeg (0 : Int32).toNatClampNeg (10 : Int32).toNatClampNeg))).bind fun P10 => (if ((0 : Int32) < 0 ∨ (0 : Int32) < 0 ∨ (10 : Int32) < 0 ∨ 10 < (0 : Int32).toNatClampNeg + (10 : Int32).toNatClampNeg ∨ 10 < (0 : Int32).toNatClampNeg + (10 : Int32).toNatClampNeg) then none else ((some (sA P10 (P10.2.2 x0 6) (va_cpy (P10.1 (P10.2.2 x1 6)) (P10.1 (P10.2.2 x0 6)) (0 : Int32).toNatClampNeg (0 : Int32).toNatClampNeg (10 : Int32).toNatClampNeg))).bind fun P13 => (if ((0 : Int32) < 0 ∨ (0 : Int32) < 0 ∨ (10 : Int32) < 0 ∨ 10 < (0 : Int32).toNatClampNeg + (10 : Int32).toNatClampNeg ∨ 10 < (0 : Int32).toNatClampNeg + (10 : Int32).toNatClampNeg) then none else ((some (sA P13 (P13.2.2 x0 7) (va_cpy (P13.1 (P13.2.2 x1 7)) (P13.1 (P13.2.2 x0 7)) (0 : Int32).toNatClampNeg (0 : Int32).toNatClampNeg (10 : Int32).toNatClampNeg))).bind fun P16 => some P16)))))))))))
theorem w_X4_copy {x : Fx} {E : Ev} (S : ZS x E r_X4_copy cX4_copy 2 RX4 none) (M : ZM x E) (P : PH) (x0 : Nat) (x1 : Nat) (h_x0 : ok x0 2 0) (h_x1 : ok x1 2 0) (r : PH) (hf : f_X4_copy P x0 x1 = some r) : Wz x E 2 (QV E x r) P 0 [(0, .ref (ad E x0)), (1, .ref (ad E x1))] [] := by
  unfold f_X4_copy at hf
  refine z_aload_n S 0 dX4_copy_0 rfl rfl ?_
  refine z_aload_n S 1 dX4_copy_1 rfl rfl ?_
  refine z_getI S cf_2 h_x1 0 (by decide) rfl wd164 dX4_copy_2 ?_
  refine z_putI S cf_2 h_x0 0 (by decide) rfl rfl rfl rfl wd164 dX4_copy_5 ?_
  refine z_aload_n S 0 dX4_copy_8 rfl rfl ?_
  refine z_aload_n S 1 dX4_copy_9 rfl rfl ?_
  refine z_getI S cf_2 h_x1 1 (by decide) rfl wd171 dX4_copy_10 ?_
  refine z_putI S cf_2 h_x0 1 (by decide) rfl rfl rfl rfl wd171 dX4_copy_13 ?_
  refine z_nmP hf (fun P1 hf => ?_)
  refine z_aload_n S 0 dX4_copy_16 rfl rfl ?_
  refine z_aload_n S 1 dX4_copy_17 rfl rfl ?_
  refine z_getI S cf_2 h_x1 2 (by decide) rfl wd177 dX4_copy_18 ?_
  refine z_putI S cf_2 h_x0 2 (by decide) rfl rfl rfl rfl wd177 dX4_copy_21 ?_
  refine z_aload_n S 1 dX4_copy_24 rfl rfl ?_
  refine z_getR (K' := 9) (n' := 6) S cf_2 h_x1 3 (by decide) rfl rfl rfl wd182 dX4_copy_25 (fun h2 => ?_)
  refine z_iconst (v := 0) S dX4_copy_28 (by decide) ?_
  refine z_aload_n S 0 dX4_copy_29 rfl rfl ?_
  refine z_getR (K' := 9) (n' := 6) S cf_2 h_x0 3 (by decide) rfl rfl rfl wd182 dX4_copy_30 (fun h3 => ?_)
  refine z_iconst (v := 0) S dX4_copy_33 (by decide) ?_
  refine z_bipush (v := 6) S dX4_copy_34 (by decide) ?_
  refine z_copy S h2 h3 wd648 wd449 wd448 wd43 (by decide) (Nat.le_of_ble_eq_true rfl) dX4_copy_36 hf (fun hf => ?_)
  refine z_nmP hf (fun P4 hf => ?_)
  refine z_aload_n S 1 dX4_copy_39 rfl rfl ?_
  refine z_getR (K' := 9) (n' := 7) S cf_2 h_x1 4 (by decide) rfl rfl rfl wd187 dX4_copy_40 (fun h5 => ?_)
  refine z_iconst (v := 0) S dX4_copy_43 (by decide) ?_
  refine z_aload_n S 0 dX4_copy_44 rfl rfl ?_
  refine z_getR (K' := 9) (n' := 7) S cf_2 h_x0 4 (by decide) rfl rfl rfl wd187 dX4_copy_45 (fun h6 => ?_)
  refine z_iconst (v := 0) S dX4_copy_48 (by decide) ?_
  refine z_bipush (v := 7) S dX4_copy_49 (by decide) ?_
  refine z_copy S h5 h6 wd648 wd449 wd448 wd43 (by decide) (Nat.le_of_ble_eq_true rfl) dX4_copy_51 hf (fun hf => ?_)
  refine z_nmP hf (fun P7 hf => ?_)
  refine z_aload_n S 1 dX4_copy_54 rfl rfl ?_
  refine z_getR (K' := 9) (n' := 10) S cf_2 h_x1 5 (by decide) rfl rfl rfl wd190 dX4_copy_55 (fun h8 => ?_)
  refine z_iconst (v := 0) S dX4_copy_58 (by decide) ?_
  refine z_aload_n S 0 dX4_copy_59 rfl rfl ?_
  refine z_getR (K' := 9) (n' := 10) S cf_2 h_x0 5 (by decide) rfl rfl rfl wd190 dX4_copy_60 (fun h9 => ?_)
  refine z_iconst (v := 0) S dX4_copy_63 (by decide) ?_
  refine z_bipush (v := 10) S dX4_copy_64 (by decide) ?_
  refine z_copy S h8 h9 wd648 wd449 wd448 wd43 (by decide) (Nat.le_of_ble_eq_true rfl) dX4_copy_66 hf (fun hf => ?_)
  refine z_nmP hf (fun P10 hf => ?_)
  refine z_aload_n S 1 dX4_copy_69 rfl rfl ?_
  refine z_getR (K' := 9) (n' := 10) S cf_2 h_x1 6 (by decide) rfl rfl rfl wd192 dX4_copy_70 (fun h11 => ?_)
  refine z_iconst (v := 0) S dX4_copy_73 (by decide) ?_
  refine z_aload_n S 0 dX4_copy_74 rfl rfl ?_
  refine z_getR (K' := 9) (n' := 10) S cf_2 h_x0 6 (by decide) rfl rfl rfl wd192 dX4_copy_75 (fun h12 => ?_)
  refine z_iconst (v := 0) S dX4_copy_78 (by decide) ?_
  refine z_bipush (v := 10) S dX4_copy_79 (by decide) ?_
  refine z_copy S h11 h12 wd648 wd449 wd448 wd43 (by decide) (Nat.le_of_ble_eq_true rfl) dX4_copy_81 hf (fun hf => ?_)
  refine z_nmP hf (fun P13 hf => ?_)
  refine z_aload_n S 1 dX4_copy_84 rfl rfl ?_
  refine z_getR (K' := 9) (n' := 10) S cf_2 h_x1 7 (by decide) rfl rfl rfl wd194 dX4_copy_85 (fun h14 => ?_)
  refine z_iconst (v := 0) S dX4_copy_88 (by decide) ?_
  refine z_aload_n S 0 dX4_copy_89 rfl rfl ?_
  refine z_getR (K' := 9) (n' := 10) S cf_2 h_x0 7 (by decide) rfl rfl rfl wd194 dX4_copy_90 (fun h15 => ?_)
  refine z_iconst (v := 0) S dX4_copy_93 (by decide) ?_
  refine z_bipush (v := 10) S dX4_copy_94 (by decide) ?_
  refine z_copy S h14 h15 wd648 wd449 wd448 wd43 (by decide) (Nat.le_of_ble_eq_true rfl) dX4_copy_96 hf (fun hf => ?_)
  refine z_nmP hf (fun P16 hf => ?_)
  exact z_vretI S M rfl dX4_copy_99 hf
theorem m_X4_copy (l : Launch) (E : Ev) (P : PH) (x0 : Nat) (x1 : Nat) (h_x0 : ok x0 2 0) (h_x1 : ok x1 2 0) (r : PH) (hf : f_X4_copy P x0 x1 = some r) : CtV l E yX4_copy cX4_copy 2 none r_X4_copy [.ref (ad E x0), .ref (ad E x1)] P r :=
  z_body (own := RX4) (by decide +kernel) rfl (Nat.le_of_ble_eq_true rfl) rfl (fun x _ S M => w_X4_copy S M P x0 x1 h_x0 h_x1 r hf)
-- yX4_addRight
theorem dX4_addRight_0 : decode cX4_addRight 0 = .ok (.aload_n 0, 1) := by decide +kernel
theorem dX4_addRight_1 : decode cX4_addRight 1 = .ok (.getfield 34, 3) := by decide +kernel
theorem dX4_addRight_4 : decode cX4_addRight 4 = .ok (.bipush 10, 2) := by decide +kernel
theorem dX4_addRight_6 : decode cX4_addRight 6 = .ok (.if_icmp .ge 43, 3) := by decide +kernel
theorem dX4_addRight_9 : decode cX4_addRight 9 = .ok (.aload_n 0, 1) := by decide +kernel
theorem dX4_addRight_10 : decode cX4_addRight 10 = .ok (.getfield 18, 3) := by decide +kernel
theorem dX4_addRight_13 : decode cX4_addRight 13 = .ok (.aload_n 0, 1) := by decide +kernel
theorem dX4_addRight_14 : decode cX4_addRight 14 = .ok (.getfield 34, 3) := by decide +kernel
theorem dX4_addRight_17 : decode cX4_addRight 17 = .ok (.iload_n 1, 1) := by decide +kernel
theorem dX4_addRight_18 : decode cX4_addRight 18 = .ok (.iastore, 1) := by decide +kernel
theorem dX4_addRight_19 : decode cX4_addRight 19 = .ok (.aload_n 0, 1) := by decide +kernel
theorem dX4_addRight_20 : decode cX4_addRight 20 = .ok (.getfield 21, 3) := by decide +kernel
theorem dX4_addRight_23 : decode cX4_addRight 23 = .ok (.aload_n 0, 1) := by decide +kernel
theorem dX4_addRight_24 : decode cX4_addRight 24 = .ok (.getfield 34, 3) := by decide +kernel
theorem dX4_addRight_27 : decode cX4_addRight 27 = .ok (.iload_n 2, 1) := by decide +kernel
theorem dX4_addRight_28 : decode cX4_addRight 28 = .ok (.iastore, 1) := by decide +kernel
theorem dX4_addRight_29 : decode cX4_addRight 29 = .ok (.aload_n 0, 1) := by decide +kernel
theorem dX4_addRight_30 : decode cX4_addRight 30 = .ok (.getfield 24, 3) := by decide +kernel
theorem dX4_addRight_33 : decode cX4_addRight 33 = .ok (.aload_n 0, 1) := by decide +kernel
theorem dX4_addRight_34 : decode cX4_addRight 34 = .ok (.getfield 34, 3) := by decide +kernel
theorem dX4_addRight_37 : decode cX4_addRight 37 = .ok (.iload_n 3, 1) := by decide +kernel
theorem dX4_addRight_38 : decode cX4_addRight 38 = .ok (.iastore, 1) := by decide +kernel
theorem dX4_addRight_39 : decode cX4_addRight 39 = .ok (.aload_n 0, 1) := by decide +kernel
theorem dX4_addRight_40 : decode cX4_addRight 40 = .ok (.dup, 1) := by decide +kernel
theorem dX4_addRight_41 : decode cX4_addRight 41 = .ok (.getfield 34, 3) := by decide +kernel
theorem dX4_addRight_44 : decode cX4_addRight 44 = .ok (.iconst 1, 1) := by decide +kernel
theorem dX4_addRight_45 : decode cX4_addRight 45 = .ok (.iadd, 1) := by decide +kernel
theorem dX4_addRight_46 : decode cX4_addRight 46 = .ok (.putfield 34, 3) := by decide +kernel
theorem dX4_addRight_49 : decode cX4_addRight 49 = .ok (.return_, 1) := by decide +kernel
def r_X4_addRight : Room := { frames := 0, cells := 0, slots := 0, locals := 0 }
def f_X4_addRight (P : PH) (x0 : Nat) (x1 : Int32) (x2 : Int32) (x3 : Int32) : Option PH :=
  (if (10 : Int32) ≤ (P.1 x0 2) then some P else (if ((P.1 x0 2) < 0 ∨ 10 ≤ (P.1 x0 2).toNatClampNeg) then none else ((some (sI P (P.2.2 x0 5) (P.1 x0 2).toNatClampNeg x1)).bind fun P2 => (if ((P2.1 x0 2) < 0 ∨ 10 ≤ (P2.1 x0 2).toNatClampNeg) then none else ((some (sI P2 (P2.2.2 x0 6) (P2.1 x0 2).toNatClampNeg x2)).bind fun P4 => (if ((P4.1 x0 2) < 0 ∨ 10 ≤ (P4.1 x0 2).toNatClampNeg) then none else ((some (sI P4 (P4.2.2 x0 7) (P4.1 x0 2).toNatClampNeg x3)).bind fun P6 => some (sI P6 x0 2 ((P6.1 x0 2) + (1 : Int32))))))))))
theorem w_X4_addRight {x : Fx} {E : Ev} (S : ZS x E r_X4_addRight cX4_addRight 4 RX4 none) (M : ZM x E) (P : PH) (x0 : Nat) (x1 : Int32) (x2 : Int32) (x3 : Int32) (h_x0 : ok x0 2 0) (r : PH) (hf : f_X4_addRight P x0 x1 x2 x3 = some r) : Wz x E 4 (QV E x r) P 0 [(0, .ref (ad E x0)), (1, .int x1), (2, .int x2), (3, .int x3)] [] := by
  unfold f_X4_addRight at hf
  refine z_aload_n S 0 dX4_addRight_0 rfl rfl ?_
  refine z_getI S cf_2 h_x0 2 (by decide) rfl wd177 dX4_addRight_1 ?_
  refine z_bipush (v := 10) S dX4_addRight_4 (by decide) ?_
  refine z_icmp_ge (tgt := 49) S dX4_addRight_6 (by decide) hf (fun hf => ?_) (fun hf => ?_)
  · exact z_vretI S M rfl dX4_addRight_49 hf
  · refine z_aload_n S 0 dX4_addRight_9 rfl rfl ?_
    refine z_getR (K' := 9) (n' := 10) S cf_2 h_x0 5 (by decide) rfl rfl rfl wd190 dX4_addRight_10 (fun h1 => ?_)
    refine z_aload_n S 0 dX4_addRight_13 rfl rfl ?_
    refine z_getI S cf_2 h_x0 2 (by decide) rfl wd177 dX4_addRight_14 ?_
    refine z_iload_n S 1 dX4_addRight_17 rfl rfl ?_
    refine z_iast S h1 dX4_addRight_18 hf (fun hf => ?_)
    refine z_nmP hf (fun P2 hf => ?_)
    refine z_aload_n S 0 dX4_addRight_19 rfl rfl ?_
    refine z_getR (K' := 9) (n' := 10) S cf_2 h_x0 6 (by decide) rfl rfl rfl wd192 dX4_addRight_20 (fun h3 => ?_)
    refine z_aload_n S 0 dX4_addRight_23 rfl rfl ?_
    refine z_getI S cf_2 h_x0 2 (by decide) rfl wd177 dX4_addRight_24 ?_
    refine z_iload_n S 2 dX4_addRight_27 rfl rfl ?_
    refine z_iast S h3 dX4_addRight_28 hf (fun hf => ?_)
    refine z_nmP hf (fun P4 hf => ?_)
    refine z_aload_n S 0 dX4_addRight_29 rfl rfl ?_
    refine z_getR (K' := 9) (n' := 10) S cf_2 h_x0 7 (by decide) rfl rfl rfl wd194 dX4_addRight_30 (fun h5 => ?_)
    refine z_aload_n S 0 dX4_addRight_33 rfl rfl ?_
    refine z_getI S cf_2 h_x0 2 (by decide) rfl wd177 dX4_addRight_34 ?_
    refine z_iload_n S 3 dX4_addRight_37 rfl rfl ?_
    refine z_iast S h5 dX4_addRight_38 hf (fun hf => ?_)
    refine z_nmP hf (fun P6 hf => ?_)
    refine z_aload_n S 0 dX4_addRight_39 rfl rfl ?_
    refine z_dup S dX4_addRight_40 rfl ?_
    refine z_getI S cf_2 h_x0 2 (by decide) rfl wd177 dX4_addRight_41 ?_
    refine z_iconst (v := 1) S dX4_addRight_44 (by decide) ?_
    refine z_iadd S dX4_addRight_45 ?_
    refine z_putI S cf_2 h_x0 2 (by decide) rfl rfl rfl rfl wd177 dX4_addRight_46 ?_
    exact z_vretI S M rfl dX4_addRight_49 hf
theorem m_X4_addRight (l : Launch) (E : Ev) (P : PH) (x0 : Nat) (x1 : Int32) (x2 : Int32) (x3 : Int32) (h_x0 : ok x0 2 0) (r : PH) (hf : f_X4_addRight P x0 x1 x2 x3 = some r) : CtV l E yX4_addRight cX4_addRight 4 none r_X4_addRight [.ref (ad E x0), .int x1, .int x2, .int x3] P r :=
  z_body (own := RX4) (by decide +kernel) rfl (Nat.le_of_ble_eq_true rfl) rfl (fun x _ S M => w_X4_addRight S M P x0 x1 x2 x3 h_x0 r hf)
-- yX4_rightsIn
theorem dX4_rightsIn_0 : decode cX4_rightsIn 0 = .ok (.iconst 0, 1) := by decide +kernel
theorem dX4_rightsIn_1 : decode cX4_rightsIn 1 = .ok (.istore_n 2, 1) := by decide +kernel
theorem dX4_rightsIn_2 : decode cX4_rightsIn 2 = .ok (.iconst 0, 1) := by decide +kernel
theorem dX4_rightsIn_3 : decode cX4_rightsIn 3 = .ok (.istore_n 3, 1) := by decide +kernel
theorem dX4_rightsIn_4 : decode cX4_rightsIn 4 = .ok (.iload_n 3, 1) := by decide +kernel
theorem dX4_rightsIn_5 : decode cX4_rightsIn 5 = .ok (.aload_n 0, 1) := by decide +kernel
theorem dX4_rightsIn_6 : decode cX4_rightsIn 6 = .ok (.getfield 34, 3) := by decide +kernel
theorem dX4_rightsIn_9 : decode cX4_rightsIn 9 = .ok (.if_icmp .ge 22, 3) := by decide +kernel
theorem dX4_rightsIn_12 : decode cX4_rightsIn 12 = .ok (.aload_n 0, 1) := by decide +kernel
theorem dX4_rightsIn_13 : decode cX4_rightsIn 13 = .ok (.getfield 21, 3) := by decide +kernel
theorem dX4_rightsIn_16 : decode cX4_rightsIn 16 = .ok (.iload_n 3, 1) := by decide +kernel
theorem dX4_rightsIn_17 : decode cX4_rightsIn 17 = .ok (.iaload, 1) := by decide +kernel
theorem dX4_rightsIn_18 : decode cX4_rightsIn 18 = .ok (.iload_n 1, 1) := by decide +kernel
theorem dX4_rightsIn_19 : decode cX4_rightsIn 19 = .ok (.if_icmp .ne 6, 3) := by decide +kernel
theorem dX4_rightsIn_22 : decode cX4_rightsIn 22 = .ok (.iinc 2 1, 3) := by decide +kernel
theorem dX4_rightsIn_25 : decode cX4_rightsIn 25 = .ok (.iinc 3 1, 3) := by decide +kernel
theorem dX4_rightsIn_28 : decode cX4_rightsIn 28 = .ok (.goto (-24), 3) := by decide +kernel
theorem dX4_rightsIn_31 : decode cX4_rightsIn 31 = .ok (.iload_n 2, 1) := by decide +kernel
theorem dX4_rightsIn_32 : decode cX4_rightsIn 32 = .ok (.ireturn, 1) := by decide +kernel
def r_X4_rightsIn : Room := { frames := 0, cells := 0, slots := 0, locals := 0 }
def f_X4_rightsIn_L4 (K : Int32 → Option Int32) (P : PH) (x0 : Nat) (x1 : Int32) : Nat → Int32 → Int32 → Option Int32
  | 0, _, _ => none
  | n + 1, x2, x3 =>
    (if (P.1 x0 2) ≤ x3 then K x2 else (if (x3 < 0 ∨ 10 ≤ x3.toNatClampNeg) then none else (if (P.1 (P.2.2 x0 6) x3.toNatClampNeg) = x1 then f_X4_rightsIn_L4 K P x0 x1 n (x2 + (1 : Int32)) (x3 + (1 : Int32)) else f_X4_rightsIn_L4 K P x0 x1 n x2 (x3 + (1 : Int32)))))
theorem w_X4_rightsIn_L4 {x : Fx} {E : Ev} (S : ZS x E r_X4_rightsIn cX4_rightsIn 4 RX4 (some .int)) (M : ZM x E) {K : Int32 → Option Int32} (P : PH) (x0 : Nat) (x1 : Int32) (h_x0 : ok x0 2 0) (r : Int32) (hK : ∀ (y2 : Int32), K y2 = some r → Wz x E 4 (QI E x r P) P 31 [(2, .int y2)] []) : ∀ (n : Nat) (x2 : Int32) (x3 : Int32), f_X4_rightsIn_L4 K P x0 x1 n x2 x3 = some r → Wz x E 4 (QI E x r P) P 4 [(0, .ref (ad E x0)), (1, .int x1), (2, .int x2), (3, .int x3)] [] := by
  intro n
  induction n with
  | zero => intro x2 x3 hf; cases hf
  | succ n ih =>
    intro x2 x3 hf
    unfold f_X4_rightsIn_L4 at hf
    refine z_iload_n S 3 dX4_rightsIn_4 rfl rfl ?_
    refine z_aload_n S 0 dX4_rightsIn_5 rfl rfl ?_
    refine z_getI S cf_2 h_x0 2 (by decide) rfl wd177 dX4_rightsIn_6 ?_
    refine z_icmp_ge (tgt := 31) S dX4_rightsIn_9 (by decide) hf (fun hf => ?_) (fun hf => ?_)
    · refine z_sub [2] rfl ?_
      exact hK x2 hf
    · refine z_aload_n S 0 dX4_rightsIn_12 rfl rfl ?_
      refine z_getR (K' := 9) (n' := 10) S cf_2 h_x0 6 (by decide) rfl rfl rfl wd192 dX4_rightsIn_13 (fun h1 => ?_)
      refine z_iload_n S 3 dX4_rightsIn_16 rfl rfl ?_
      refine z_iald S h1 dX4_rightsIn_17 hf (fun hf => ?_)
      refine z_iload_n S 1 dX4_rightsIn_18 rfl rfl ?_
      refine z_icmp_ne (tgt := 25) S dX4_rightsIn_19 (by decide) hf (fun hf => ?_) (fun hf => ?_)
      · refine z_iinc (v := (x2 + (1 : Int32))) (lv' := [(2, .int (x2 + (1 : Int32))), (0, .ref (ad E x0)), (1, .int x1), (3, .int x3)]) S 2 dX4_rightsIn_22 rfl (by rfl) (by decide) rfl ?_
        refine z_iinc (v := (x3 + (1 : Int32))) (lv' := [(3, .int (x3 + (1 : Int32))), (2, .int (x2 + (1 : Int32))), (0, .ref (ad E x0)), (1, .int x1)]) S 3 dX4_rightsIn_25 rfl (by rfl) (by decide) rfl ?_
        refine z_goto (tgt := 4) S dX4_rightsIn_28 (by decide) ?_
        refine z_sub [2, 3, 1, 0] rfl ?_
        exact ih (x2 + (1 : Int32)) (x3 + (1 : Int32)) hf
      · refine z_iinc (v := (x3 + (1 : Int32))) (lv' := [(3, .int (x3 + (1 : Int32))), (0, .ref (ad E x0)), (1, .int x1), (2, .int x2)]) S 3 dX4_rightsIn_25 rfl (by rfl) (by decide) rfl ?_
        refine z_goto (tgt := 4) S dX4_rightsIn_28 (by decide) ?_
        refine z_sub [1, 2, 3, 0] rfl ?_
        exact ih x2 (x3 + (1 : Int32)) hf
def f_X4_rightsIn (P : PH) (x0 : Nat) (x1 : Int32) : Option Int32 :=
  f_X4_rightsIn_L4 (fun v2 => some v2) P x0 x1 1000 (0 : Int32) (0 : Int32)
theorem w_X4_rightsIn {x : Fx} {E : Ev} (S : ZS x E r_X4_rightsIn cX4_rightsIn 4 RX4 (some .int)) (M : ZM x E) (P : PH) (x0 : Nat) (x1 : Int32) (h_x0 : ok x0 2 0) (r : Int32) (hf : f_X4_rightsIn P x0 x1 = some r) : Wz x E 4 (QI E x r P) P 0 [(0, .ref (ad E x0)), (1, .int x1)] [] := by
  unfold f_X4_rightsIn at hf
  refine z_iconst (v := 0) S dX4_rightsIn_0 (by decide) ?_
  refine z_istore_n (lv' := [(2, .int (0 : Int32)), (0, .ref (ad E x0)), (1, .int x1)]) S dX4_rightsIn_1 rfl (by decide) rfl ?_
  refine z_iconst (v := 0) S dX4_rightsIn_2 (by decide) ?_
  refine z_istore_n (lv' := [(3, .int (0 : Int32)), (2, .int (0 : Int32)), (0, .ref (ad E x0)), (1, .int x1)]) S dX4_rightsIn_3 rfl (by decide) rfl ?_
  refine z_sub [2, 3, 1, 0] rfl ?_
  refine w_X4_rightsIn_L4 S M _ x0 x1 h_x0 r (fun v2 hf => ?_) 1000 (0 : Int32) (0 : Int32) hf
  refine z_iload_n S 0 dX4_rightsIn_31 rfl rfl ?_
  exact z_iretP (v := v2) S M rfl dX4_rightsIn_32 hf
theorem m_X4_rightsIn (l : Launch) (E : Ev) (P : PH) (x0 : Nat) (x1 : Int32) (h_x0 : ok x0 2 0) (r : Int32) (hf : f_X4_rightsIn P x0 x1 = some r) : CtI l E yX4_rightsIn cX4_rightsIn 4 (some .int) r_X4_rightsIn [.ref (ad E x0), .int x1] P r P :=
  z_body (own := RX4) (by decide +kernel) rfl (Nat.le_of_ble_eq_true rfl) rfl (fun x _ S M => w_X4_rightsIn S M P x0 x1 h_x0 r hf)
-- yX8_rewind
theorem dX8_rewind_0 : decode cX8_rewind 0 = .ok (.aload_n 0, 1) := by decide +kernel
theorem dX8_rewind_1 : decode cX8_rewind 1 = .ok (.iconst 0, 1) := by decide +kernel
theorem dX8_rewind_2 : decode cX8_rewind 2 = .ok (.putfield 19, 3) := by decide +kernel
theorem dX8_rewind_5 : decode cX8_rewind 5 = .ok (.return_, 1) := by decide +kernel
def r_X8_rewind : Room := { frames := 0, cells := 0, slots := 0, locals := 0 }
def f_X8_rewind (P : PH) (x0 : Nat) : Option PH :=
  some (sI P x0 5 (0 : Int32))
theorem w_X8_rewind {x : Fx} {E : Ev} (S : ZS x E r_X8_rewind cX8_rewind 1 RX8 none) (M : ZM x E) (P : PH) (x0 : Nat) (h_x0 : ok x0 6 0) (r : PH) (hf : f_X8_rewind P x0 = some r) : Wz x E 1 (QV E x r) P 0 [(0, .ref (ad E x0))] [] := by
  unfold f_X8_rewind at hf
  refine z_aload_n S 0 dX8_rewind_0 rfl rfl ?_
  refine z_iconst (v := 0) S dX8_rewind_1 (by decide) ?_
  refine z_putI S cf_6 h_x0 5 (by decide) rfl rfl rfl rfl wd76 dX8_rewind_2 ?_
  exact z_vretI S M rfl dX8_rewind_5 hf
theorem m_X8_rewind (l : Launch) (E : Ev) (P : PH) (x0 : Nat) (h_x0 : ok x0 6 0) (r : PH) (hf : f_X8_rewind P x0 = some r) : CtV l E yX8_rewind cX8_rewind 1 none r_X8_rewind [.ref (ad E x0)] P r :=
  z_body (own := RX8) (by decide +kernel) rfl (Nat.le_of_ble_eq_true rfl) rfl (fun x _ S M => w_X8_rewind S M P x0 h_x0 r hf)
-- yX8_isDigitAt
theorem dX8_isDigitAt_0 : decode cX8_isDigitAt 0 = .ok (.aload_n 0, 1) := by decide +kernel
theorem dX8_isDigitAt_1 : decode cX8_isDigitAt 1 = .ok (.getfield 9, 3) := by decide +kernel
theorem dX8_isDigitAt_4 : decode cX8_isDigitAt 4 = .ok (.iload_n 1, 1) := by decide +kernel
theorem dX8_isDigitAt_5 : decode cX8_isDigitAt 5 = .ok (.iaload, 1) := by decide +kernel
theorem dX8_isDigitAt_6 : decode cX8_isDigitAt 6 = .ok (.bipush 48, 2) := by decide +kernel
theorem dX8_isDigitAt_8 : decode cX8_isDigitAt 8 = .ok (.if_icmp .lt 18, 3) := by decide +kernel
theorem dX8_isDigitAt_11 : decode cX8_isDigitAt 11 = .ok (.aload_n 0, 1) := by decide +kernel
theorem dX8_isDigitAt_12 : decode cX8_isDigitAt 12 = .ok (.getfield 9, 3) := by decide +kernel
theorem dX8_isDigitAt_15 : decode cX8_isDigitAt 15 = .ok (.iload_n 1, 1) := by decide +kernel
theorem dX8_isDigitAt_16 : decode cX8_isDigitAt 16 = .ok (.iaload, 1) := by decide +kernel
theorem dX8_isDigitAt_17 : decode cX8_isDigitAt 17 = .ok (.bipush 57, 2) := by decide +kernel
theorem dX8_isDigitAt_19 : decode cX8_isDigitAt 19 = .ok (.if_icmp .gt 7, 3) := by decide +kernel
theorem dX8_isDigitAt_22 : decode cX8_isDigitAt 22 = .ok (.iconst 1, 1) := by decide +kernel
theorem dX8_isDigitAt_23 : decode cX8_isDigitAt 23 = .ok (.goto 4, 3) := by decide +kernel
theorem dX8_isDigitAt_26 : decode cX8_isDigitAt 26 = .ok (.iconst 0, 1) := by decide +kernel
theorem dX8_isDigitAt_27 : decode cX8_isDigitAt 27 = .ok (.ireturn, 1) := by decide +kernel
def r_X8_isDigitAt : Room := { frames := 0, cells := 0, slots := 0, locals := 0 }
def f_X8_isDigitAt (P : PH) (x0 : Nat) (x1 : Int32) : Option Bool :=
  (if (x1 < 0 ∨ 200 ≤ x1.toNatClampNeg) then none else (if (P.1 (P.2.2 x0 0) x1.toNatClampNeg) < (48 : Int32) then some false else (if (x1 < 0 ∨ 200 ≤ x1.toNatClampNeg) then none else (if (57 : Int32) < (P.1 (P.2.2 x0 0) x1.toNatClampNeg) then some false else some true))))
theorem w_X8_isDigitAt {x : Fx} {E : Ev} (S : ZS x E r_X8_isDigitAt cX8_isDigitAt 2 RX8 (some .boolean)) (M : ZM x E) (P : PH) (x0 : Nat) (x1 : Int32) (h_x0 : ok x0 6 0) (r : Bool) (hf : f_X8_isDigitAt P x0 x1 = some r) : Wz x E 2 (QI E x (b2i r) P) P 0 [(0, .ref (ad E x0)), (1, .int x1)] [] := by
  unfold f_X8_isDigitAt at hf
  refine z_aload_n S 0 dX8_isDigitAt_0 rfl rfl ?_
  refine z_getR (K' := 9) (n' := 200) S cf_6 h_x0 0 (by decide) rfl rfl rfl wd67 dX8_isDigitAt_1 (fun h1 => ?_)
  refine z_iload_n S 1 dX8_isDigitAt_4 rfl rfl ?_
  refine z_iald S h1 dX8_isDigitAt_5 hf (fun hf => ?_)
  refine z_bipush (v := 48) S dX8_isDigitAt_6 (by decide) ?_
  refine z_icmp_lt (tgt := 26) S dX8_isDigitAt_8 (by decide) hf (fun hf => ?_) (fun hf => ?_)
  · refine z_iconst (v := 0) S dX8_isDigitAt_26 (by decide) ?_
    exact z_zretP (v := false) S M rfl dX8_isDigitAt_27 hf
  · refine z_aload_n S 0 dX8_isDigitAt_11 rfl rfl ?_
    refine z_getR (K' := 9) (n' := 200) S cf_6 h_x0 0 (by decide) rfl rfl rfl wd67 dX8_isDigitAt_12 (fun h2 => ?_)
    refine z_iload_n S 1 dX8_isDigitAt_15 rfl rfl ?_
    refine z_iald S h2 dX8_isDigitAt_16 hf (fun hf => ?_)
    refine z_bipush (v := 57) S dX8_isDigitAt_17 (by decide) ?_
    refine z_icmp_gt (tgt := 26) S dX8_isDigitAt_19 (by decide) hf (fun hf => ?_) (fun hf => ?_)
    · refine z_iconst (v := 0) S dX8_isDigitAt_26 (by decide) ?_
      exact z_zretP (v := false) S M rfl dX8_isDigitAt_27 hf
    · refine z_iconst (v := 1) S dX8_isDigitAt_22 (by decide) ?_
      refine z_goto (tgt := 27) S dX8_isDigitAt_23 (by decide) ?_
      exact z_zretP (v := true) S M rfl dX8_isDigitAt_27 hf
theorem m_X8_isDigitAt (l : Launch) (E : Ev) (P : PH) (x0 : Nat) (x1 : Int32) (h_x0 : ok x0 6 0) (r : Bool) (hf : f_X8_isDigitAt P x0 x1 = some r) : CtI l E yX8_isDigitAt cX8_isDigitAt 2 (some .boolean) r_X8_isDigitAt [.ref (ad E x0), .int x1] P (b2i r) P :=
  z_body (own := RX8) (by decide +kernel) rfl (Nat.le_of_ble_eq_true rfl) rfl (fun x _ S M => w_X8_isDigitAt S M P x0 x1 h_x0 r hf)
-- yX8_takeNumber
theorem dX8_takeNumber_0 : decode cX8_takeNumber 0 = .ok (.aload_n 0, 1) := by decide +kernel
theorem dX8_takeNumber_1 : decode cX8_takeNumber 1 = .ok (.iconst 0, 1) := by decide +kernel
theorem dX8_takeNumber_2 : decode cX8_takeNumber 2 = .ok (.putfield 35, 3) := by decide +kernel
theorem dX8_takeNumber_5 : decode cX8_takeNumber 5 = .ok (.aload_n 0, 1) := by decide +kernel
theorem dX8_takeNumber_6 : decode cX8_takeNumber 6 = .ok (.getfield 19, 3) := by decide +kernel
theorem dX8_takeNumber_9 : decode cX8_takeNumber 9 = .ok (.aload_n 0, 1) := by decide +kernel
theorem dX8_takeNumber_10 : decode cX8_takeNumber 10 = .ok (.getfield 15, 3) := by decide +kernel
theorem dX8_takeNumber_13 : decode cX8_takeNumber 13 = .ok (.if_icmp .ge 60, 3) := by decide +kernel
theorem dX8_takeNumber_16 : decode cX8_takeNumber 16 = .ok (.aload_n 0, 1) := by decide +kernel
theorem dX8_takeNumber_17 : decode cX8_takeNumber 17 = .ok (.aload_n 0, 1) := by decide +kernel
theorem dX8_takeNumber_18 : decode cX8_takeNumber 18 = .ok (.getfield 19, 3) := by decide +kernel
theorem dX8_takeNumber_21 : decode cX8_takeNumber 21 = .ok (.invokevirtual 28, 3) := by decide +kernel
theorem dX8_takeNumber_24 : decode cX8_takeNumber 24 = .ok (.ifCond .eq 49, 3) := by decide +kernel
theorem dX8_takeNumber_27 : decode cX8_takeNumber 27 = .ok (.aload_n 0, 1) := by decide +kernel
theorem dX8_takeNumber_28 : decode cX8_takeNumber 28 = .ok (.getfield 35, 3) := by decide +kernel
theorem dX8_takeNumber_31 : decode cX8_takeNumber 31 = .ok (.bipush 99, 2) := by decide +kernel
theorem dX8_takeNumber_33 : decode cX8_takeNumber 33 = .ok (.if_icmp .gt 27, 3) := by decide +kernel
theorem dX8_takeNumber_36 : decode cX8_takeNumber 36 = .ok (.aload_n 0, 1) := by decide +kernel
theorem dX8_takeNumber_37 : decode cX8_takeNumber 37 = .ok (.aload_n 0, 1) := by decide +kernel
theorem dX8_takeNumber_38 : decode cX8_takeNumber 38 = .ok (.getfield 35, 3) := by decide +kernel
theorem dX8_takeNumber_41 : decode cX8_takeNumber 41 = .ok (.bipush 10, 2) := by decide +kernel
theorem dX8_takeNumber_43 : decode cX8_takeNumber 43 = .ok (.imul, 1) := by decide +kernel
theorem dX8_takeNumber_44 : decode cX8_takeNumber 44 = .ok (.aload_n 0, 1) := by decide +kernel
theorem dX8_takeNumber_45 : decode cX8_takeNumber 45 = .ok (.getfield 9, 3) := by decide +kernel
theorem dX8_takeNumber_48 : decode cX8_takeNumber 48 = .ok (.aload_n 0, 1) := by decide +kernel
theorem dX8_takeNumber_49 : decode cX8_takeNumber 49 = .ok (.getfield 19, 3) := by decide +kernel
theorem dX8_takeNumber_52 : decode cX8_takeNumber 52 = .ok (.iaload, 1) := by decide +kernel
theorem dX8_takeNumber_53 : decode cX8_takeNumber 53 = .ok (.iadd, 1) := by decide +kernel
theorem dX8_takeNumber_54 : decode cX8_takeNumber 54 = .ok (.bipush 48, 2) := by decide +kernel
theorem dX8_takeNumber_56 : decode cX8_takeNumber 56 = .ok (.isub, 1) := by decide +kernel
theorem dX8_takeNumber_57 : decode cX8_takeNumber 57 = .ok (.putfield 35, 3) := by decide +kernel
theorem dX8_takeNumber_60 : decode cX8_takeNumber 60 = .ok (.aload_n 0, 1) := by decide +kernel
theorem dX8_takeNumber_61 : decode cX8_takeNumber 61 = .ok (.dup, 1) := by decide +kernel
theorem dX8_takeNumber_62 : decode cX8_takeNumber 62 = .ok (.getfield 19, 3) := by decide +kernel
theorem dX8_takeNumber_65 : decode cX8_takeNumber 65 = .ok (.iconst 1, 1) := by decide +kernel
theorem dX8_takeNumber_66 : decode cX8_takeNumber 66 = .ok (.iadd, 1) := by decide +kernel
theorem dX8_takeNumber_67 : decode cX8_takeNumber 67 = .ok (.putfield 19, 3) := by decide +kernel
theorem dX8_takeNumber_70 : decode cX8_takeNumber 70 = .ok (.goto (-65), 3) := by decide +kernel
theorem dX8_takeNumber_73 : decode cX8_takeNumber 73 = .ok (.aload_n 0, 1) := by decide +kernel
theorem dX8_takeNumber_74 : decode cX8_takeNumber 74 = .ok (.getfield 9, 3) := by decide +kernel
theorem dX8_takeNumber_77 : decode cX8_takeNumber 77 = .ok (.aload_n 0, 1) := by decide +kernel
theorem dX8_takeNumber_78 : decode cX8_takeNumber 78 = .ok (.getfield 22, 3) := by decide +kernel
theorem dX8_takeNumber_81 : decode cX8_takeNumber 81 = .ok (.iaload, 1) := by decide +kernel
theorem dX8_takeNumber_82 : decode cX8_takeNumber 82 = .ok (.bipush 48, 2) := by decide +kernel
theorem dX8_takeNumber_84 : decode cX8_takeNumber 84 = .ok (.if_icmp .ne 20, 3) := by decide +kernel
theorem dX8_takeNumber_87 : decode cX8_takeNumber 87 = .ok (.aload_n 0, 1) := by decide +kernel
theorem dX8_takeNumber_88 : decode cX8_takeNumber 88 = .ok (.getfield 19, 3) := by decide +kernel
theorem dX8_takeNumber_91 : decode cX8_takeNumber 91 = .ok (.aload_n 0, 1) := by decide +kernel
theorem dX8_takeNumber_92 : decode cX8_takeNumber 92 = .ok (.getfield 22, 3) := by decide +kernel
theorem dX8_takeNumber_95 : decode cX8_takeNumber 95 = .ok (.iconst 1, 1) := by decide +kernel
theorem dX8_takeNumber_96 : decode cX8_takeNumber 96 = .ok (.iadd, 1) := by decide +kernel
theorem dX8_takeNumber_97 : decode cX8_takeNumber 97 = .ok (.if_icmp .le 7, 3) := by decide +kernel
theorem dX8_takeNumber_100 : decode cX8_takeNumber 100 = .ok (.iconst 1, 1) := by decide +kernel
theorem dX8_takeNumber_101 : decode cX8_takeNumber 101 = .ok (.goto 4, 3) := by decide +kernel
theorem dX8_takeNumber_104 : decode cX8_takeNumber 104 = .ok (.iconst 0, 1) := by decide +kernel
theorem dX8_takeNumber_105 : decode cX8_takeNumber 105 = .ok (.istore_n 1, 1) := by decide +kernel
theorem dX8_takeNumber_106 : decode cX8_takeNumber 106 = .ok (.aload_n 0, 1) := by decide +kernel
theorem dX8_takeNumber_107 : decode cX8_takeNumber 107 = .ok (.iload_n 1, 1) := by decide +kernel
theorem dX8_takeNumber_108 : decode cX8_takeNumber 108 = .ok (.ifCond .ne 12, 3) := by decide +kernel
theorem dX8_takeNumber_111 : decode cX8_takeNumber 111 = .ok (.aload_n 0, 1) := by decide +kernel
theorem dX8_takeNumber_112 : decode cX8_takeNumber 112 = .ok (.getfield 35, 3) := by decide +kernel
theorem dX8_takeNumber_115 : decode cX8_takeNumber 115 = .ok (.bipush 99, 2) := by decide +kernel
theorem dX8_takeNumber_117 : decode cX8_takeNumber 117 = .ok (.if_icmp .le 7, 3) := by decide +kernel
theorem dX8_takeNumber_120 : decode cX8_takeNumber 120 = .ok (.iconst 3, 1) := by decide +kernel
theorem dX8_takeNumber_121 : decode cX8_takeNumber 121 = .ok (.goto 4, 3) := by decide +kernel
theorem dX8_takeNumber_124 : decode cX8_takeNumber 124 = .ok (.iconst 2, 1) := by decide +kernel
theorem dX8_takeNumber_125 : decode cX8_takeNumber 125 = .ok (.putfield 25, 3) := by decide +kernel
theorem dX8_takeNumber_128 : decode cX8_takeNumber 128 = .ok (.return_, 1) := by decide +kernel
def r_X8_takeNumber : Room := { frames := 1, cells := 0, slots := 0, locals := 21 }
def f_X8_takeNumber_J105 (P : PH) (x0 : Nat) (s0 : Bool) : Option PH :=
  (if (b2i s0) = 0 then (if (P.1 x0 4) ≤ (99 : Int32) then some (sI P x0 2 (2 : Int32)) else some (sI P x0 2 (3 : Int32))) else some (sI P x0 2 (3 : Int32)))
theorem w_X8_takeNumber_J105 {x : Fx} {E : Ev} (S : ZS x E r_X8_takeNumber cX8_takeNumber 2 RX8 none) (M : ZM x E) (P : PH) (x0 : Nat) (s0 : Bool) (h_x0 : ok x0 6 0) (r : PH) (hf : f_X8_takeNumber_J105 P x0 s0 = some r) : Wz x E 2 (QV E x r) P 105 [(0, .ref (ad E x0))] [.int (b2i s0)] := by
  unfold f_X8_takeNumber_J105 at hf
  refine z_istore_n (lv' := [(1, .int (b2i s0)), (0, .ref (ad E x0))]) S dX8_takeNumber_105 rfl (by decide) rfl ?_
  refine z_aload_n S 1 dX8_takeNumber_106 rfl rfl ?_
  refine z_iload_n S 0 dX8_takeNumber_107 rfl rfl ?_
  refine z_if_ne (tgt := 120) S dX8_takeNumber_108 (by decide) hf (fun hf => ?_) (fun hf => ?_)
  · refine z_aload_n S 1 dX8_takeNumber_111 rfl rfl ?_
    refine z_getI S cf_6 h_x0 4 (by decide) rfl wd75 dX8_takeNumber_112 ?_
    refine z_bipush (v := 99) S dX8_takeNumber_115 (by decide) ?_
    refine z_icmp_le (tgt := 124) S dX8_takeNumber_117 (by decide) hf (fun hf => ?_) (fun hf => ?_)
    · refine z_iconst (v := 2) S dX8_takeNumber_124 (by decide) ?_
      refine z_putI S cf_6 h_x0 2 (by decide) rfl rfl rfl rfl wd71 dX8_takeNumber_125 ?_
      exact z_vretI S M rfl dX8_takeNumber_128 hf
    · refine z_iconst (v := 3) S dX8_takeNumber_120 (by decide) ?_
      refine z_goto (tgt := 125) S dX8_takeNumber_121 (by decide) ?_
      refine z_putI S cf_6 h_x0 2 (by decide) rfl rfl rfl rfl wd71 dX8_takeNumber_125 ?_
      exact z_vretI S M rfl dX8_takeNumber_128 hf
  · refine z_iconst (v := 3) S dX8_takeNumber_120 (by decide) ?_
    refine z_goto (tgt := 125) S dX8_takeNumber_121 (by decide) ?_
    refine z_putI S cf_6 h_x0 2 (by decide) rfl rfl rfl rfl wd71 dX8_takeNumber_125 ?_
    exact z_vretI S M rfl dX8_takeNumber_128 hf
def f_X8_takeNumber_J104 (P : PH) (x0 : Nat) : Option PH :=
  f_X8_takeNumber_J105 P x0 false
theorem w_X8_takeNumber_J104 {x : Fx} {E : Ev} (S : ZS x E r_X8_takeNumber cX8_takeNumber 2 RX8 none) (M : ZM x E) (P : PH) (x0 : Nat) (h_x0 : ok x0 6 0) (r : PH) (hf : f_X8_takeNumber_J104 P x0 = some r) : Wz x E 2 (QV E x r) P 104 [(0, .ref (ad E x0))] [] := by
  unfold f_X8_takeNumber_J104 at hf
  refine z_iconst (v := 0) S dX8_takeNumber_104 (by decide) ?_
  exact w_X8_takeNumber_J105 S M P x0 false h_x0 r hf
def f_X8_takeNumber_J73 (P : PH) (x0 : Nat) : Option PH :=
  (if ((P.1 x0 3) < 0 ∨ 200 ≤ (P.1 x0 3).toNatClampNeg) then none else (if (P.1 (P.2.2 x0 0) (P.1 x0 3).toNatClampNeg) = (48 : Int32) then (if (P.1 x0 5) ≤ ((P.1 x0 3) + (1 : Int32)) then f_X8_takeNumber_J104 P x0 else f_X8_takeNumber_J105 P x0 true) else f_X8_takeNumber_J104 P x0))
theorem w_X8_takeNumber_J73 {x : Fx} {E : Ev} (S : ZS x E r_X8_takeNumber cX8_takeNumber 2 RX8 none) (M : ZM x E) (P : PH) (x0 : Nat) (h_x0 : ok x0 6 0) (r : PH) (hf : f_X8_takeNumber_J73 P x0 = some r) : Wz x E 2 (QV E x r) P 73 [(0, .ref (ad E x0))] [] := by
  unfold f_X8_takeNumber_J73 at hf
  refine z_aload_n S 0 dX8_takeNumber_73 rfl rfl ?_
  refine z_getR (K' := 9) (n' := 200) S cf_6 h_x0 0 (by decide) rfl rfl rfl wd67 dX8_takeNumber_74 (fun h1 => ?_)
  refine z_aload_n S 0 dX8_takeNumber_77 rfl rfl ?_
  refine z_getI S cf_6 h_x0 3 (by decide) rfl wd73 dX8_takeNumber_78 ?_
  refine z_iald S h1 dX8_takeNumber_81 hf (fun hf => ?_)
  refine z_bipush (v := 48) S dX8_takeNumber_82 (by decide) ?_
  refine z_icmp_ne (tgt := 104) S dX8_takeNumber_84 (by decide) hf (fun hf => ?_) (fun hf => ?_)
  · refine z_aload_n S 0 dX8_takeNumber_87 rfl rfl ?_
    refine z_getI S cf_6 h_x0 5 (by decide) rfl wd76 dX8_takeNumber_88 ?_
    refine z_aload_n S 0 dX8_takeNumber_91 rfl rfl ?_
    refine z_getI S cf_6 h_x0 3 (by decide) rfl wd73 dX8_takeNumber_92 ?_
    refine z_iconst (v := 1) S dX8_takeNumber_95 (by decide) ?_
    refine z_iadd S dX8_takeNumber_96 ?_
    refine z_icmp_le (tgt := 104) S dX8_takeNumber_97 (by decide) hf (fun hf => ?_) (fun hf => ?_)
    · exact w_X8_takeNumber_J104 S M P x0 h_x0 r hf
    · refine z_iconst (v := 1) S dX8_takeNumber_100 (by decide) ?_
      refine z_goto (tgt := 105) S dX8_takeNumber_101 (by decide) ?_
      exact w_X8_takeNumber_J105 S M P x0 true h_x0 r hf
  · exact w_X8_takeNumber_J104 S M P x0 h_x0 r hf
def f_X8_takeNumber_L5 (K : PH → Option PH) (x0 : Nat) : Nat → PH → Option PH
  | 0, _ => none
  | n + 1, P =>
    (if (P.1 x0 1) ≤ (P.1 x0 5) then K P else ((f_X8_isDigitAt P x0 (P.1 x0 5)).bind fun q2 => (if (b2i q2) = 0 then K P else (if (99 : Int32) < (P.1 x0 4) then f_X8_takeNumber_L5 K x0 n (sI P x0 5 ((P.1 x0 5) + (1 : Int32))) else (if ((P.1 x0 5) < 0 ∨ 200 ≤ (P.1 x0 5).toNatClampNeg) then none else ((some (sI P x0 4 ((((P.1 x0 4) * (10 : Int32)) + (P.1 (P.2.2 x0 0) (P.1 x0 5).toNatClampNeg)) - (48 : Int32)))).bind fun P4 => f_X8_takeNumber_L5 K x0 n (sI P4 x0 5 ((P4.1 x0 5) + (1 : Int32)))))))))
theorem w_X8_takeNumber_L5 {x : Fx} {E : Ev} (S : ZS x E r_X8_takeNumber cX8_takeNumber 2 RX8 none) (M : ZM x E) {K : PH → Option PH} (x0 : Nat) (h_x0 : ok x0 6 0) (r : PH) (hK : ∀ (P1 : PH) , K P1 = some r → Wz x E 2 (QV E x r) P1 73 [(0, .ref (ad E x0))] []) : ∀ (n : Nat) (P : PH), f_X8_takeNumber_L5 K x0 n P = some r → Wz x E 2 (QV E x r) P 5 [(0, .ref (ad E x0))] [] := by
  intro n
  induction n with
  | zero => intro P hf; cases hf
  | succ n ih =>
    intro P hf
    unfold f_X8_takeNumber_L5 at hf
    refine z_aload_n S 0 dX8_takeNumber_5 rfl rfl ?_
    refine z_getI S cf_6 h_x0 5 (by decide) rfl wd76 dX8_takeNumber_6 ?_
    refine z_aload_n S 0 dX8_takeNumber_9 rfl rfl ?_
    refine z_getI S cf_6 h_x0 1 (by decide) rfl wd68 dX8_takeNumber_10 ?_
    refine z_icmp_ge (tgt := 73) S dX8_takeNumber_13 (by decide) hf (fun hf => ?_) (fun hf => ?_)
    · exact hK P hf
    · refine z_aload_n S 0 dX8_takeNumber_16 rfl rfl ?_
      refine z_aload_n S 0 dX8_takeNumber_17 rfl rfl ?_
      refine z_getI S cf_6 h_x0 5 (by decide) rfl wd76 dX8_takeNumber_18 ?_
      refine z_callVI (rc := r_X8_isDigitAt) [.int (P.1 x0 5)] S mo_X8_isDigitAt wd310 wd0 wd308 h_x0 (by decide) cl_6 rfl rfl (by decide) (z_room0 S M (by rfl) (by rfl)) rfl (Nat.le_of_ble_eq_true rfl) rfl dX8_takeNumber_21 (fun q => b2i q) (fun _ => P) (fun q hq => m_X8_isDigitAt (xl x) E _ _ _ h_x0 q hq) hf (fun q2 hf => ?_)
      refine z_if_eq (tgt := 73) S dX8_takeNumber_24 (by decide) hf (fun hf => ?_) (fun hf => ?_)
      · exact hK P hf
      · refine z_aload_n S 0 dX8_takeNumber_27 rfl rfl ?_
        refine z_getI S cf_6 h_x0 4 (by decide) rfl wd75 dX8_takeNumber_28 ?_
        refine z_bipush (v := 99) S dX8_takeNumber_31 (by decide) ?_
        refine z_icmp_gt (tgt := 60) S dX8_takeNumber_33 (by decide) hf (fun hf => ?_) (fun hf => ?_)
        · refine z_aload_n S 0 dX8_takeNumber_60 rfl rfl ?_
          refine z_dup S dX8_takeNumber_61 rfl ?_
          refine z_getI S cf_6 h_x0 5 (by decide) rfl wd76 dX8_takeNumber_62 ?_
          refine z_iconst (v := 1) S dX8_takeNumber_65 (by decide) ?_
          refine z_iadd S dX8_takeNumber_66 ?_
          refine z_putI S cf_6 h_x0 5 (by decide) rfl rfl rfl rfl wd76 dX8_takeNumber_67 ?_
          refine z_goto (tgt := 5) S dX8_takeNumber_70 (by decide) ?_
          exact ih (sI P x0 5 ((P.1 x0 5) + (1 : Int32))) hf
        · refine z_aload_n S 0 dX8_takeNumber_36 rfl rfl ?_
          refine z_aload_n S 0 dX8_takeNumber_37 rfl rfl ?_
          refine z_getI S cf_6 h_x0 4 (by decide) rfl wd75 dX8_takeNumber_38 ?_
          refine z_bipush (v := 10) S dX8_takeNumber_41 (by decide) ?_
          refine z_imul S dX8_takeNumber_43 ?_
          refine z_aload_n S 0 dX8_takeNumber_44 rfl rfl ?_
          refine z_getR (K' := 9) (n' := 200) S cf_6 h_x0 0 (by decide) rfl rfl rfl wd67 dX8_takeNumber_45 (fun h3 => ?_)
          refine z_aload_n S 0 dX8_takeNumber_48 rfl rfl ?_
          refine z_getI S cf_6 h_x0 5 (by decide) rfl wd76 dX8_takeNumber_49 ?_
          refine z_iald S h3 dX8_takeNumber_52 hf (fun hf => ?_)
          refine z_iadd S dX8_takeNumber_53 ?_
          refine z_bipush (v := 48) S dX8_takeNumber_54 (by decide) ?_
          refine z_isub S dX8_takeNumber_56 ?_
          refine z_putI S cf_6 h_x0 4 (by decide) rfl rfl rfl rfl wd75 dX8_takeNumber_57 ?_
          refine z_nmP hf (fun P4 hf => ?_)
          refine z_aload_n S 0 dX8_takeNumber_60 rfl rfl ?_
          refine z_dup S dX8_takeNumber_61 rfl ?_
          refine z_getI S cf_6 h_x0 5 (by decide) rfl wd76 dX8_takeNumber_62 ?_
          refine z_iconst (v := 1) S dX8_takeNumber_65 (by decide) ?_
          refine z_iadd S dX8_takeNumber_66 ?_
          refine z_putI S cf_6 h_x0 5 (by decide) rfl rfl rfl rfl wd76 dX8_takeNumber_67 ?_
          refine z_goto (tgt := 5) S dX8_takeNumber_70 (by decide) ?_
          exact ih (sI P4 x0 5 ((P4.1 x0 5) + (1 : Int32))) hf
def f_X8_takeNumber (P : PH) (x0 : Nat) : Option PH :=
  f_X8_takeNumber_L5 (fun P5 => f_X8_takeNumber_J73 P5 x0) x0 1000 (sI P x0 4 (0 : Int32))
theorem w_X8_takeNumber {x : Fx} {E : Ev} (S : ZS x E r_X8_takeNumber cX8_takeNumber 2 RX8 none) (M : ZM x E) (P : PH) (x0 : Nat) (h_x0 : ok x0 6 0) (r : PH) (hf : f_X8_takeNumber P x0 = some r) : Wz x E 2 (QV E x r) P 0 [(0, .ref (ad E x0))] [] := by
  unfold f_X8_takeNumber at hf
  refine z_aload_n S 0 dX8_takeNumber_0 rfl rfl ?_
  refine z_iconst (v := 0) S dX8_takeNumber_1 (by decide) ?_
  refine z_putI S cf_6 h_x0 4 (by decide) rfl rfl rfl rfl wd75 dX8_takeNumber_2 ?_
  refine w_X8_takeNumber_L5 S M x0 h_x0 r (fun P5 hf => ?_) 1000 (sI P x0 4 (0 : Int32)) hf
  exact w_X8_takeNumber_J73 S M P5 x0 h_x0 r hf
theorem m_X8_takeNumber (l : Launch) (E : Ev) (P : PH) (x0 : Nat) (h_x0 : ok x0 6 0) (r : PH) (hf : f_X8_takeNumber P x0 = some r) : CtV l E yX8_takeNumber cX8_takeNumber 2 none r_X8_takeNumber [.ref (ad E x0)] P r :=
  z_body (own := RX8) (by decide +kernel) rfl (Nat.le_of_ble_eq_true rfl) rfl (fun x _ S M => w_X8_takeNumber S M P x0 h_x0 r hf)
-- yX8_next
theorem dX8_next_0 : decode cX8_next 0 = .ok (.aload_n 0, 1) := by decide +kernel
theorem dX8_next_1 : decode cX8_next 1 = .ok (.getfield 19, 3) := by decide +kernel
theorem dX8_next_4 : decode cX8_next 4 = .ok (.aload_n 0, 1) := by decide +kernel
theorem dX8_next_5 : decode cX8_next 5 = .ok (.getfield 15, 3) := by decide +kernel
theorem dX8_next_8 : decode cX8_next 8 = .ok (.if_icmp .ge 30, 3) := by decide +kernel
theorem dX8_next_11 : decode cX8_next 11 = .ok (.aload_n 0, 1) := by decide +kernel
theorem dX8_next_12 : decode cX8_next 12 = .ok (.getfield 9, 3) := by decide +kernel
theorem dX8_next_15 : decode cX8_next 15 = .ok (.aload_n 0, 1) := by decide +kernel
theorem dX8_next_16 : decode cX8_next 16 = .ok (.getfield 19, 3) := by decide +kernel
theorem dX8_next_19 : decode cX8_next 19 = .ok (.iaload, 1) := by decide +kernel
theorem dX8_next_20 : decode cX8_next 20 = .ok (.bipush 32, 2) := by decide +kernel
theorem dX8_next_22 : decode cX8_next 22 = .ok (.if_icmp .ne 16, 3) := by decide +kernel
theorem dX8_next_25 : decode cX8_next 25 = .ok (.aload_n 0, 1) := by decide +kernel
theorem dX8_next_26 : decode cX8_next 26 = .ok (.dup, 1) := by decide +kernel
theorem dX8_next_27 : decode cX8_next 27 = .ok (.getfield 19, 3) := by decide +kernel
theorem dX8_next_30 : decode cX8_next 30 = .ok (.iconst 1, 1) := by decide +kernel
theorem dX8_next_31 : decode cX8_next 31 = .ok (.iadd, 1) := by decide +kernel
theorem dX8_next_32 : decode cX8_next 32 = .ok (.putfield 19, 3) := by decide +kernel
theorem dX8_next_35 : decode cX8_next 35 = .ok (.goto (-35), 3) := by decide +kernel
theorem dX8_next_38 : decode cX8_next 38 = .ok (.aload_n 0, 1) := by decide +kernel
theorem dX8_next_39 : decode cX8_next 39 = .ok (.aload_n 0, 1) := by decide +kernel
theorem dX8_next_40 : decode cX8_next 40 = .ok (.getfield 19, 3) := by decide +kernel
theorem dX8_next_43 : decode cX8_next 43 = .ok (.putfield 22, 3) := by decide +kernel
theorem dX8_next_46 : decode cX8_next 46 = .ok (.aload_n 0, 1) := by decide +kernel
theorem dX8_next_47 : decode cX8_next 47 = .ok (.getfield 19, 3) := by decide +kernel
theorem dX8_next_50 : decode cX8_next 50 = .ok (.aload_n 0, 1) := by decide +kernel
theorem dX8_next_51 : decode cX8_next 51 = .ok (.getfield 15, 3) := by decide +kernel
theorem dX8_next_54 : decode cX8_next 54 = .ok (.if_icmp .lt 11, 3) := by decide +kernel
theorem dX8_next_57 : decode cX8_next 57 = .ok (.aload_n 0, 1) := by decide +kernel
theorem dX8_next_58 : decode cX8_next 58 = .ok (.iconst 0, 1) := by decide +kernel
theorem dX8_next_59 : decode cX8_next 59 = .ok (.putfield 25, 3) := by decide +kernel
theorem dX8_next_62 : decode cX8_next 62 = .ok (.goto 49, 3) := by decide +kernel
theorem dX8_next_65 : decode cX8_next 65 = .ok (.aload_n 0, 1) := by decide +kernel
theorem dX8_next_66 : decode cX8_next 66 = .ok (.aload_n 0, 1) := by decide +kernel
theorem dX8_next_67 : decode cX8_next 67 = .ok (.getfield 19, 3) := by decide +kernel
theorem dX8_next_70 : decode cX8_next 70 = .ok (.invokevirtual 28, 3) := by decide +kernel
theorem dX8_next_73 : decode cX8_next 73 = .ok (.ifCond .eq 10, 3) := by decide +kernel
theorem dX8_next_76 : decode cX8_next 76 = .ok (.aload_n 0, 1) := by decide +kernel
theorem dX8_next_77 : decode cX8_next 77 = .ok (.invokevirtual 32, 3) := by decide +kernel
theorem dX8_next_80 : decode cX8_next 80 = .ok (.goto 31, 3) := by decide +kernel
theorem dX8_next_83 : decode cX8_next 83 = .ok (.aload_n 0, 1) := by decide +kernel
theorem dX8_next_84 : decode cX8_next 84 = .ok (.iconst 1, 1) := by decide +kernel
theorem dX8_next_85 : decode cX8_next 85 = .ok (.putfield 25, 3) := by decide +kernel
theorem dX8_next_88 : decode cX8_next 88 = .ok (.aload_n 0, 1) := by decide +kernel
theorem dX8_next_89 : decode cX8_next 89 = .ok (.aload_n 0, 1) := by decide +kernel
theorem dX8_next_90 : decode cX8_next 90 = .ok (.getfield 9, 3) := by decide +kernel
theorem dX8_next_93 : decode cX8_next 93 = .ok (.aload_n 0, 1) := by decide +kernel
theorem dX8_next_94 : decode cX8_next 94 = .ok (.getfield 19, 3) := by decide +kernel
theorem dX8_next_97 : decode cX8_next 97 = .ok (.iaload, 1) := by decide +kernel
theorem dX8_next_98 : decode cX8_next 98 = .ok (.putfield 35, 3) := by decide +kernel
theorem dX8_next_101 : decode cX8_next 101 = .ok (.aload_n 0, 1) := by decide +kernel
theorem dX8_next_102 : decode cX8_next 102 = .ok (.dup, 1) := by decide +kernel
theorem dX8_next_103 : decode cX8_next 103 = .ok (.getfield 19, 3) := by decide +kernel
theorem dX8_next_106 : decode cX8_next 106 = .ok (.iconst 1, 1) := by decide +kernel
theorem dX8_next_107 : decode cX8_next 107 = .ok (.iadd, 1) := by decide +kernel
theorem dX8_next_108 : decode cX8_next 108 = .ok (.putfield 19, 3) := by decide +kernel
theorem dX8_next_111 : decode cX8_next 111 = .ok (.return_, 1) := by decide +kernel
def r_X8_next : Room := { frames := 2, cells := 0, slots := 0, locals := 42 }
def f_X8_next_J38 (P : PH) (x0 : Nat) : Option PH :=
  (if ((sI P x0 3 (P.1 x0 5)).1 x0 5) < ((sI P x0 3 (P.1 x0 5)).1 x0 1) then ((f_X8_isDigitAt (sI P x0 3 (P.1 x0 5)) x0 ((sI P x0 3 (P.1 x0 5)).1 x0 5)).bind fun q1 => (if (b2i q1) = 0 then ((some (sI (sI P x0 3 (P.1 x0 5)) x0 2 (1 : Int32))).bind fun P2 => (if ((P2.1 x0 5) < 0 ∨ 200 ≤ (P2.1 x0 5).toNatClampNeg) then none else ((some (sI P2 x0 4 (P2.1 (P2.2.2 x0 0) (P2.1 x0 5).toNatClampNeg))).bind fun P4 => some (sI P4 x0 5 ((P4.1 x0 5) + (1 : Int32)))))) else ((f_X8_takeNumber (sI P x0 3 (P.1 x0 5)) x0).bind fun q5 => some q5))) else ((some (sI (sI P x0 3 (P.1 x0 5)) x0 2 (0 : Int32))).bind fun P6 => some P6))
theorem w_X8_next_J38 {x : Fx} {E : Ev} (S : ZS x E r_X8_next cX8_next 1 RX8 none) (M : ZM x E) (P : PH) (x0 : Nat) (h_x0 : ok x0 6 0) (r : PH) (hf : f_X8_next_J38 P x0 = some r) : Wz x E 1 (QV E x r) P 38 [(0, .ref (ad E x0))] [] := by
  unfold f_X8_next_J38 at hf
  refine z_aload_n S 0 dX8_next_38 rfl rfl ?_
  refine z_aload_n S 0 dX8_next_39 rfl rfl ?_
  refine z_getI S cf_6 h_x0 5 (by decide) rfl wd76 dX8_next_40 ?_
  refine z_putI S cf_6 h_x0 3 (by decide) rfl rfl rfl rfl wd73 dX8_next_43 ?_
  refine z_aload_n S 0 dX8_next_46 rfl rfl ?_
  refine z_getI S cf_6 h_x0 5 (by decide) rfl wd76 dX8_next_47 ?_
  refine z_aload_n S 0 dX8_next_50 rfl rfl ?_
  refine z_getI S cf_6 h_x0 1 (by decide) rfl wd68 dX8_next_51 ?_
  refine z_icmp_lt (tgt := 65) S dX8_next_54 (by decide) hf (fun hf => ?_) (fun hf => ?_)
  · refine z_aload_n S 0 dX8_next_65 rfl rfl ?_
    refine z_aload_n S 0 dX8_next_66 rfl rfl ?_
    refine z_getI S cf_6 h_x0 5 (by decide) rfl wd76 dX8_next_67 ?_
    refine z_callVI (rc := r_X8_isDigitAt) [.int ((sI P x0 3 (P.1 x0 5)).1 x0 5)] S mo_X8_isDigitAt wd310 wd0 wd308 h_x0 (by decide) cl_6 rfl rfl (by decide) (z_room0 S M (by rfl) (by rfl)) rfl (Nat.le_of_ble_eq_true rfl) rfl dX8_next_70 (fun q => b2i q) (fun _ => (sI P x0 3 (P.1 x0 5))) (fun q hq => m_X8_isDigitAt (xl x) E _ _ _ h_x0 q hq) hf (fun q1 hf => ?_)
    refine z_if_eq (tgt := 83) S dX8_next_73 (by decide) hf (fun hf => ?_) (fun hf => ?_)
    · refine z_aload_n S 0 dX8_next_83 rfl rfl ?_
      refine z_iconst (v := 1) S dX8_next_84 (by decide) ?_
      refine z_putI S cf_6 h_x0 2 (by decide) rfl rfl rfl rfl wd71 dX8_next_85 ?_
      refine z_nmP hf (fun P2 hf => ?_)
      refine z_aload_n S 0 dX8_next_88 rfl rfl ?_
      refine z_aload_n S 0 dX8_next_89 rfl rfl ?_
      refine z_getR (K' := 9) (n' := 200) S cf_6 h_x0 0 (by decide) rfl rfl rfl wd67 dX8_next_90 (fun h3 => ?_)
      refine z_aload_n S 0 dX8_next_93 rfl rfl ?_
      refine z_getI S cf_6 h_x0 5 (by decide) rfl wd76 dX8_next_94 ?_
      refine z_iald S h3 dX8_next_97 hf (fun hf => ?_)
      refine z_putI S cf_6 h_x0 4 (by decide) rfl rfl rfl rfl wd75 dX8_next_98 ?_
      refine z_nmP hf (fun P4 hf => ?_)
      refine z_aload_n S 0 dX8_next_101 rfl rfl ?_
      refine z_dup S dX8_next_102 rfl ?_
      refine z_getI S cf_6 h_x0 5 (by decide) rfl wd76 dX8_next_103 ?_
      refine z_iconst (v := 1) S dX8_next_106 (by decide) ?_
      refine z_iadd S dX8_next_107 ?_
      refine z_putI S cf_6 h_x0 5 (by decide) rfl rfl rfl rfl wd76 dX8_next_108 ?_
      exact z_vretI S M rfl dX8_next_111 hf
    · refine z_aload_n S 0 dX8_next_76 rfl rfl ?_
      refine z_callVV (rc := r_X8_takeNumber) [] S mo_X8_takeNumber wd314 wd1 wd312 h_x0 (by decide) cl_6 rfl rfl (by decide) (z_room0 S M (by rfl) (by rfl)) rfl (Nat.le_of_ble_eq_true rfl) rfl dX8_next_77  (fun q => q) (fun q hq => m_X8_takeNumber (xl x) E _ _ h_x0 q hq) hf (fun q5 hf => ?_)
      refine z_goto (tgt := 111) S dX8_next_80 (by decide) ?_
      exact z_vretI S M rfl dX8_next_111 hf
  · refine z_aload_n S 0 dX8_next_57 rfl rfl ?_
    refine z_iconst (v := 0) S dX8_next_58 (by decide) ?_
    refine z_putI S cf_6 h_x0 2 (by decide) rfl rfl rfl rfl wd71 dX8_next_59 ?_
    refine z_nmP hf (fun P6 hf => ?_)
    refine z_goto (tgt := 111) S dX8_next_62 (by decide) ?_
    exact z_vretI S M rfl dX8_next_111 hf
def f_X8_next_L0 (K : PH → Option PH) (x0 : Nat) : Nat → PH → Option PH
  | 0, _ => none
  | n + 1, P =>
    (if (P.1 x0 1) ≤ (P.1 x0 5) then K P else (if ((P.1 x0 5) < 0 ∨ 200 ≤ (P.1 x0 5).toNatClampNeg) then none else (if (P.1 (P.2.2 x0 0) (P.1 x0 5).toNatClampNeg) = (32 : Int32) then f_X8_next_L0 K x0 n (sI P x0 5 ((P.1 x0 5) + (1 : Int32))) else K P)))
theorem w_X8_next_L0 {x : Fx} {E : Ev} (S : ZS x E r_X8_next cX8_next 1 RX8 none) (M : ZM x E) {K : PH → Option PH} (x0 : Nat) (h_x0 : ok x0 6 0) (r : PH) (hK : ∀ (P1 : PH) , K P1 = some r → Wz x E 1 (QV E x r) P1 38 [(0, .ref (ad E x0))] []) : ∀ (n : Nat) (P : PH), f_X8_next_L0 K x0 n P = some r → Wz x E 1 (QV E x r) P 0 [(0, .ref (ad E x0))] [] := by
  intro n
  induction n with
  | zero => intro P hf; cases hf
  | succ n ih =>
    intro P hf
    unfold f_X8_next_L0 at hf
    refine z_aload_n S 0 dX8_next_0 rfl rfl ?_
    refine z_getI S cf_6 h_x0 5 (by decide) rfl wd76 dX8_next_1 ?_
    refine z_aload_n S 0 dX8_next_4 rfl rfl ?_
    refine z_getI S cf_6 h_x0 1 (by decide) rfl wd68 dX8_next_5 ?_
    refine z_icmp_ge (tgt := 38) S dX8_next_8 (by decide) hf (fun hf => ?_) (fun hf => ?_)
    · exact hK P hf
    · refine z_aload_n S 0 dX8_next_11 rfl rfl ?_
      refine z_getR (K' := 9) (n' := 200) S cf_6 h_x0 0 (by decide) rfl rfl rfl wd67 dX8_next_12 (fun h7 => ?_)
      refine z_aload_n S 0 dX8_next_15 rfl rfl ?_
      refine z_getI S cf_6 h_x0 5 (by decide) rfl wd76 dX8_next_16 ?_
      refine z_iald S h7 dX8_next_19 hf (fun hf => ?_)
      refine z_bipush (v := 32) S dX8_next_20 (by decide) ?_
      refine z_icmp_ne (tgt := 38) S dX8_next_22 (by decide) hf (fun hf => ?_) (fun hf => ?_)
      · refine z_aload_n S 0 dX8_next_25 rfl rfl ?_
        refine z_dup S dX8_next_26 rfl ?_
        refine z_getI S cf_6 h_x0 5 (by decide) rfl wd76 dX8_next_27 ?_
        refine z_iconst (v := 1) S dX8_next_30 (by decide) ?_
        refine z_iadd S dX8_next_31 ?_
        refine z_putI S cf_6 h_x0 5 (by decide) rfl rfl rfl rfl wd76 dX8_next_32 ?_
        refine z_goto (tgt := 0) S dX8_next_35 (by decide) ?_
        exact ih (sI P x0 5 ((P.1 x0 5) + (1 : Int32))) hf
      · exact hK P hf
def f_X8_next (P : PH) (x0 : Nat) : Option PH :=
  f_X8_next_L0 (fun P8 => f_X8_next_J38 P8 x0) x0 1000 P
theorem w_X8_next {x : Fx} {E : Ev} (S : ZS x E r_X8_next cX8_next 1 RX8 none) (M : ZM x E) (P : PH) (x0 : Nat) (h_x0 : ok x0 6 0) (r : PH) (hf : f_X8_next P x0 = some r) : Wz x E 1 (QV E x r) P 0 [(0, .ref (ad E x0))] [] := by
  unfold f_X8_next at hf
  refine w_X8_next_L0 S M x0 h_x0 r (fun P8 hf => ?_) 1000 P hf
  exact w_X8_next_J38 S M P8 x0 h_x0 r hf
theorem m_X8_next (l : Launch) (E : Ev) (P : PH) (x0 : Nat) (h_x0 : ok x0 6 0) (r : PH) (hf : f_X8_next P x0 = some r) : CtV l E yX8_next cX8_next 1 none r_X8_next [.ref (ad E x0)] P r :=
  z_body (own := RX8) (by decide +kernel) rfl (Nat.le_of_ble_eq_true rfl) rfl (fun x _ S M => w_X8_next S M P x0 h_x0 r hf)
-- yX8_add
theorem dX8_add_0 : decode cX8_add 0 = .ok (.aload_n 0, 1) := by decide +kernel
theorem dX8_add_1 : decode cX8_add 1 = .ok (.getfield 15, 3) := by decide +kernel
theorem dX8_add_4 : decode cX8_add 4 = .ok (.sipush 200, 3) := by decide +kernel
theorem dX8_add_7 : decode cX8_add 7 = .ok (.if_icmp .lt 5, 3) := by decide +kernel
theorem dX8_add_10 : decode cX8_add 10 = .ok (.iconst 0, 1) := by decide +kernel
theorem dX8_add_11 : decode cX8_add 11 = .ok (.ireturn, 1) := by decide +kernel
theorem dX8_add_12 : decode cX8_add 12 = .ok (.aload_n 0, 1) := by decide +kernel
theorem dX8_add_13 : decode cX8_add 13 = .ok (.getfield 9, 3) := by decide +kernel
theorem dX8_add_16 : decode cX8_add 16 = .ok (.aload_n 0, 1) := by decide +kernel
theorem dX8_add_17 : decode cX8_add 17 = .ok (.getfield 15, 3) := by decide +kernel
theorem dX8_add_20 : decode cX8_add 20 = .ok (.iload_n 1, 1) := by decide +kernel
theorem dX8_add_21 : decode cX8_add 21 = .ok (.iastore, 1) := by decide +kernel
theorem dX8_add_22 : decode cX8_add 22 = .ok (.aload_n 0, 1) := by decide +kernel
theorem dX8_add_23 : decode cX8_add 23 = .ok (.dup, 1) := by decide +kernel
theorem dX8_add_24 : decode cX8_add 24 = .ok (.getfield 15, 3) := by decide +kernel
theorem dX8_add_27 : decode cX8_add 27 = .ok (.iconst 1, 1) := by decide +kernel
theorem dX8_add_28 : decode cX8_add 28 = .ok (.iadd, 1) := by decide +kernel
theorem dX8_add_29 : decode cX8_add 29 = .ok (.putfield 15, 3) := by decide +kernel
theorem dX8_add_32 : decode cX8_add 32 = .ok (.iconst 1, 1) := by decide +kernel
theorem dX8_add_33 : decode cX8_add 33 = .ok (.ireturn, 1) := by decide +kernel
def r_X8_add : Room := { frames := 0, cells := 0, slots := 0, locals := 0 }
def f_X8_add (P : PH) (x0 : Nat) (x1 : Int32) : Option (Bool × PH) :=
  (if (P.1 x0 1) < (200 : Int32) then (if ((P.1 x0 1) < 0 ∨ 200 ≤ (P.1 x0 1).toNatClampNeg) then none else ((some (sI P (P.2.2 x0 0) (P.1 x0 1).toNatClampNeg x1)).bind fun P2 => some (true, (sI P2 x0 1 ((P2.1 x0 1) + (1 : Int32)))))) else some (false, P))
theorem w_X8_add {x : Fx} {E : Ev} (S : ZS x E r_X8_add cX8_add 2 RX8 (some .boolean)) (M : ZM x E) (P : PH) (x0 : Nat) (x1 : Int32) (h_x0 : ok x0 6 0) (r : (Bool × PH)) (hf : f_X8_add P x0 x1 = some r) : Wz x E 2 (QI E x (b2i r.1) r.2) P 0 [(0, .ref (ad E x0)), (1, .int x1)] [] := by
  unfold f_X8_add at hf
  refine z_aload_n S 0 dX8_add_0 rfl rfl ?_
  refine z_getI S cf_6 h_x0 1 (by decide) rfl wd68 dX8_add_1 ?_
  refine z_sipush (v := 200) S dX8_add_4 (by decide) ?_
  refine z_icmp_lt (tgt := 12) S dX8_add_7 (by decide) hf (fun hf => ?_) (fun hf => ?_)
  · refine z_aload_n S 0 dX8_add_12 rfl rfl ?_
    refine z_getR (K' := 9) (n' := 200) S cf_6 h_x0 0 (by decide) rfl rfl rfl wd67 dX8_add_13 (fun h1 => ?_)
    refine z_aload_n S 0 dX8_add_16 rfl rfl ?_
    refine z_getI S cf_6 h_x0 1 (by decide) rfl wd68 dX8_add_17 ?_
    refine z_iload_n S 1 dX8_add_20 rfl rfl ?_
    refine z_iast S h1 dX8_add_21 hf (fun hf => ?_)
    refine z_nmP hf (fun P2 hf => ?_)
    refine z_aload_n S 0 dX8_add_22 rfl rfl ?_
    refine z_dup S dX8_add_23 rfl ?_
    refine z_getI S cf_6 h_x0 1 (by decide) rfl wd68 dX8_add_24 ?_
    refine z_iconst (v := 1) S dX8_add_27 (by decide) ?_
    refine z_iadd S dX8_add_28 ?_
    refine z_putI S cf_6 h_x0 1 (by decide) rfl rfl rfl rfl wd68 dX8_add_29 ?_
    refine z_iconst (v := 1) S dX8_add_32 (by decide) ?_
    exact z_zretI (v := true) S M rfl dX8_add_33 hf
  · refine z_iconst (v := 0) S dX8_add_10 (by decide) ?_
    exact z_zretI (v := false) S M rfl dX8_add_11 hf
theorem m_X8_add (l : Launch) (E : Ev) (P : PH) (x0 : Nat) (x1 : Int32) (h_x0 : ok x0 6 0) (r : (Bool × PH)) (hf : f_X8_add P x0 x1 = some r) : CtI l E yX8_add cX8_add 2 (some .boolean) r_X8_add [.ref (ad E x0), .int x1] P (b2i r.1) r.2 :=
  z_body (own := RX8) (by decide +kernel) rfl (Nat.le_of_ble_eq_true rfl) rfl (fun x _ S M => w_X8_add S M P x0 x1 h_x0 r hf)
