-- yX0_othersThan
theorem dX0_othersThan_0 : decode cX0_othersThan 0 = .ok (.aload_n 0, 1) := by decide +kernel
theorem dX0_othersThan_1 : decode cX0_othersThan 1 = .ok (.getfield 21, 3) := by decide +kernel
theorem dX0_othersThan_4 : decode cX0_othersThan 4 = .ok (.getfield 27, 3) := by decide +kernel
theorem dX0_othersThan_7 : decode cX0_othersThan 7 = .ok (.iconst 1, 1) := by decide +kernel
theorem dX0_othersThan_8 : decode cX0_othersThan 8 = .ok (.iload_n 1, 1) := by decide +kernel
theorem dX0_othersThan_9 : decode cX0_othersThan 9 = .ok (.ishl, 1) := by decide +kernel
theorem dX0_othersThan_10 : decode cX0_othersThan 10 = .ok (.iconst (-1), 1) := by decide +kernel
theorem dX0_othersThan_11 : decode cX0_othersThan 11 = .ok (.ixor, 1) := by decide +kernel
theorem dX0_othersThan_12 : decode cX0_othersThan 12 = .ok (.iand, 1) := by decide +kernel
theorem dX0_othersThan_13 : decode cX0_othersThan 13 = .ok (.ireturn, 1) := by decide +kernel
def r_X0_othersThan : Room := { frames := 0, cells := 0, slots := 0, locals := 0 }
def f_X0_othersThan (P : PH) (x0 : Nat) (x1 : Int32) : Option Int32 :=
  some ((P.1 (P.2.2 x0 5) 1) &&& (((1 : Int32) <<< (x1 &&& 31)) ^^^ (-1 : Int32)))
theorem w_X0_othersThan {x : Fx} {E : Ev} (S : ZS x E r_X0_othersThan cX0_othersThan 2 RX0 (some .int)) (M : ZM x E) (P : PH) (x0 : Nat) (x1 : Int32) (h_x0 : ok x0 1 0) (r : Int32) (hf : f_X0_othersThan P x0 x1 = some r) : Wz x E 2 (QI E x r P) P 0 [(0, .ref (ad E x0)), (1, .int x1)] [] := by
  unfold f_X0_othersThan at hf
  refine z_aload_n S 0 dX0_othersThan_0 rfl rfl ?_
  refine z_getR (K' := 2) (n' := 0) S cf_1 h_x0 5 (by decide) rfl rfl rfl wd232 dX0_othersThan_1 (fun h1 => ?_)
  refine z_getI S cf_2 h1 1 (by decide) rfl wd174 dX0_othersThan_4 ?_
  refine z_iconst (v := 1) S dX0_othersThan_7 (by decide) ?_
  refine z_iload_n S 1 dX0_othersThan_8 rfl rfl ?_
  refine z_ishl S dX0_othersThan_9 ?_
  refine z_iconst (v := (-1 : Int32)) S dX0_othersThan_10 (by decide) ?_
  refine z_ixor S dX0_othersThan_11 ?_
  refine z_iand S dX0_othersThan_12 ?_
  exact z_iretP (v := ((P.1 (P.2.2 x0 5) 1) &&& (((1 : Int32) <<< (x1 &&& 31)) ^^^ (-1 : Int32)))) S M rfl dX0_othersThan_13 hf
theorem m_X0_othersThan (l : Launch) (E : Ev) (P : PH) (x0 : Nat) (x1 : Int32) (h_x0 : ok x0 1 0) (r : Int32) (hf : f_X0_othersThan P x0 x1 = some r) : CtI l E yX0_othersThan cX0_othersThan 2 (some .int) r_X0_othersThan [.ref (ad E x0), .int x1] P r P :=
  z_body (own := RX0) (by decide +kernel) rfl (Nat.le_of_ble_eq_true rfl) rfl (fun x _ S M => w_X0_othersThan S M P x0 x1 h_x0 r hf)
-- yX0_fewestBefore
theorem dX0_fewestBefore_0 : decode cX0_fewestBefore 0 = .ok (.aload_n 0, 1) := by decide +kernel
theorem dX0_fewestBefore_1 : decode cX0_fewestBefore 1 = .ok (.iload_n 1, 1) := by decide +kernel
theorem dX0_fewestBefore_2 : decode cX0_fewestBefore 2 = .ok (.invokestatic 9, 3) := by decide +kernel
theorem dX0_fewestBefore_5 : decode cX0_fewestBefore 5 = .ok (.istore_n 3, 1) := by decide +kernel
theorem dX0_fewestBefore_6 : decode cX0_fewestBefore 6 = .ok (.bipush (-9), 2) := by decide +kernel
theorem dX0_fewestBefore_8 : decode cX0_fewestBefore 8 = .ok (.istore 4, 2) := by decide +kernel
theorem dX0_fewestBefore_10 : decode cX0_fewestBefore 10 = .ok (.iconst 0, 1) := by decide +kernel
theorem dX0_fewestBefore_11 : decode cX0_fewestBefore 11 = .ok (.istore 5, 2) := by decide +kernel
theorem dX0_fewestBefore_13 : decode cX0_fewestBefore 13 = .ok (.iload 5, 2) := by decide +kernel
theorem dX0_fewestBefore_15 : decode cX0_fewestBefore 15 = .ok (.iload_n 3, 1) := by decide +kernel
theorem dX0_fewestBefore_16 : decode cX0_fewestBefore 16 = .ok (.if_icmp .gt 75, 3) := by decide +kernel
theorem dX0_fewestBefore_19 : decode cX0_fewestBefore 19 = .ok (.iload 4, 2) := by decide +kernel
theorem dX0_fewestBefore_21 : decode cX0_fewestBefore 21 = .ok (.bipush (-9), 2) := by decide +kernel
theorem dX0_fewestBefore_23 : decode cX0_fewestBefore 23 = .ok (.if_icmp .eq 16, 3) := by decide +kernel
theorem dX0_fewestBefore_26 : decode cX0_fewestBefore 26 = .ok (.iload 5, 2) := by decide +kernel
theorem dX0_fewestBefore_28 : decode cX0_fewestBefore 28 = .ok (.invokestatic 15, 3) := by decide +kernel
theorem dX0_fewestBefore_31 : decode cX0_fewestBefore 31 = .ok (.iload 4, 2) := by decide +kernel
theorem dX0_fewestBefore_33 : decode cX0_fewestBefore 33 = .ok (.invokestatic 15, 3) := by decide +kernel
theorem dX0_fewestBefore_36 : decode cX0_fewestBefore 36 = .ok (.if_icmp .ge 7, 3) := by decide +kernel
theorem dX0_fewestBefore_39 : decode cX0_fewestBefore 39 = .ok (.iconst 1, 1) := by decide +kernel
theorem dX0_fewestBefore_40 : decode cX0_fewestBefore 40 = .ok (.goto 4, 3) := by decide +kernel
theorem dX0_fewestBefore_43 : decode cX0_fewestBefore 43 = .ok (.iconst 0, 1) := by decide +kernel
theorem dX0_fewestBefore_44 : decode cX0_fewestBefore 44 = .ok (.istore 6, 2) := by decide +kernel
theorem dX0_fewestBefore_46 : decode cX0_fewestBefore 46 = .ok (.iload 5, 2) := by decide +kernel
theorem dX0_fewestBefore_48 : decode cX0_fewestBefore 48 = .ok (.iload_n 3, 1) := by decide +kernel
theorem dX0_fewestBefore_49 : decode cX0_fewestBefore 49 = .ok (.iconst (-1), 1) := by decide +kernel
theorem dX0_fewestBefore_50 : decode cX0_fewestBefore 50 = .ok (.ixor, 1) := by decide +kernel
theorem dX0_fewestBefore_51 : decode cX0_fewestBefore 51 = .ok (.iand, 1) := by decide +kernel
theorem dX0_fewestBefore_52 : decode cX0_fewestBefore 52 = .ok (.ifCond .ne 33, 3) := by decide +kernel
theorem dX0_fewestBefore_55 : decode cX0_fewestBefore 55 = .ok (.iload 6, 2) := by decide +kernel
theorem dX0_fewestBefore_57 : decode cX0_fewestBefore 57 = .ok (.ifCond .eq 28, 3) := by decide +kernel
theorem dX0_fewestBefore_60 : decode cX0_fewestBefore 60 = .ok (.aload_n 0, 1) := by decide +kernel
theorem dX0_fewestBefore_61 : decode cX0_fewestBefore 61 = .ok (.iload_n 2, 1) := by decide +kernel
theorem dX0_fewestBefore_62 : decode cX0_fewestBefore 62 = .ok (.aload_n 0, 1) := by decide +kernel
theorem dX0_fewestBefore_63 : decode cX0_fewestBefore 63 = .ok (.getfield 21, 3) := by decide +kernel
theorem dX0_fewestBefore_66 : decode cX0_fewestBefore 66 = .ok (.getfield 27, 3) := by decide +kernel
theorem dX0_fewestBefore_69 : decode cX0_fewestBefore 69 = .ok (.iload 5, 2) := by decide +kernel
theorem dX0_fewestBefore_71 : decode cX0_fewestBefore 71 = .ok (.iconst (-1), 1) := by decide +kernel
theorem dX0_fewestBefore_72 : decode cX0_fewestBefore 72 = .ok (.ixor, 1) := by decide +kernel
theorem dX0_fewestBefore_73 : decode cX0_fewestBefore 73 = .ok (.iand, 1) := by decide +kernel
theorem dX0_fewestBefore_74 : decode cX0_fewestBefore 74 = .ok (.invokevirtual 33, 3) := by decide +kernel
theorem dX0_fewestBefore_77 : decode cX0_fewestBefore 77 = .ok (.iload_n 1, 1) := by decide +kernel
theorem dX0_fewestBefore_78 : decode cX0_fewestBefore 78 = .ok (.if_icmp .ne 7, 3) := by decide +kernel
theorem dX0_fewestBefore_81 : decode cX0_fewestBefore 81 = .ok (.iload 5, 2) := by decide +kernel
theorem dX0_fewestBefore_83 : decode cX0_fewestBefore 83 = .ok (.istore 4, 2) := by decide +kernel
theorem dX0_fewestBefore_85 : decode cX0_fewestBefore 85 = .ok (.iinc 5 1, 3) := by decide +kernel
theorem dX0_fewestBefore_88 : decode cX0_fewestBefore 88 = .ok (.goto (-75), 3) := by decide +kernel
theorem dX0_fewestBefore_91 : decode cX0_fewestBefore 91 = .ok (.iload 4, 2) := by decide +kernel
theorem dX0_fewestBefore_93 : decode cX0_fewestBefore 93 = .ok (.ireturn, 1) := by decide +kernel
def r_X0_fewestBefore : Room := { frames := 1, cells := 0, slots := 0, locals := 24 }
def f_X0_fewestBefore_L13 (K : Int32 → Option Int32) (P : PH) (x0 : Nat) (x1 : Int32) (x2 : Int32) (x3 : Int32) : Nat → Int32 → Int32 → Option Int32
  | 0, _, _ => none
  | n + 1, x4, x5 =>
    (if x3 < x5 then K x4 else (if x4 = (-9 : Int32) then (if (x5 &&& (x3 ^^^ (-1 : Int32))) = 0 then (if (1 : Int32) = 0 then f_X0_fewestBefore_L13 K P x0 x1 x2 x3 n x4 (x5 + (1 : Int32)) else ((f_X2_owner P x0 x2 ((P.1 (P.2.2 x0 5) 1) &&& (x5 ^^^ (-1 : Int32)))).bind fun q2 => (if q2 = x1 then f_X0_fewestBefore_L13 K P x0 x1 x2 x3 n x5 (x5 + (1 : Int32)) else f_X0_fewestBefore_L13 K P x0 x1 x2 x3 n x4 (x5 + (1 : Int32))))) else f_X0_fewestBefore_L13 K P x0 x1 x2 x3 n x4 (x5 + (1 : Int32))) else ((f_J6_bitCount_0f7a4 P x5).bind fun q3 => ((f_J6_bitCount_0f7a4 P x4).bind fun q4 => (if q4 ≤ q3 then (if (x5 &&& (x3 ^^^ (-1 : Int32))) = 0 then (if (0 : Int32) = 0 then f_X0_fewestBefore_L13 K P x0 x1 x2 x3 n x4 (x5 + (1 : Int32)) else ((f_X2_owner P x0 x2 ((P.1 (P.2.2 x0 5) 1) &&& (x5 ^^^ (-1 : Int32)))).bind fun q6 => (if q6 = x1 then f_X0_fewestBefore_L13 K P x0 x1 x2 x3 n x5 (x5 + (1 : Int32)) else f_X0_fewestBefore_L13 K P x0 x1 x2 x3 n x4 (x5 + (1 : Int32))))) else f_X0_fewestBefore_L13 K P x0 x1 x2 x3 n x4 (x5 + (1 : Int32))) else (if (x5 &&& (x3 ^^^ (-1 : Int32))) = 0 then (if (1 : Int32) = 0 then f_X0_fewestBefore_L13 K P x0 x1 x2 x3 n x4 (x5 + (1 : Int32)) else ((f_X2_owner P x0 x2 ((P.1 (P.2.2 x0 5) 1) &&& (x5 ^^^ (-1 : Int32)))).bind fun q8 => (if q8 = x1 then f_X0_fewestBefore_L13 K P x0 x1 x2 x3 n x5 (x5 + (1 : Int32)) else f_X0_fewestBefore_L13 K P x0 x1 x2 x3 n x4 (x5 + (1 : Int32))))) else f_X0_fewestBefore_L13 K P x0 x1 x2 x3 n x4 (x5 + (1 : Int32))))))))
theorem w_X0_fewestBefore_L13 {x : Fx} {E : Ev} (S : ZS x E r_X0_fewestBefore cX0_fewestBefore 7 RX0 (some .int)) (M : ZM x E) {K : Int32 → Option Int32} (P : PH) (x0 : Nat) (x1 : Int32) (x2 : Int32) (x3 : Int32) (h_x0 : ok x0 1 0) (r : Int32) (hK : ∀ (y4 : Int32), K y4 = some r → Wz x E 7 (QI E x r P) P 91 [(4, .int y4)] []) : ∀ (n : Nat) (x4 : Int32) (x5 : Int32), f_X0_fewestBefore_L13 K P x0 x1 x2 x3 n x4 x5 = some r → Wz x E 7 (QI E x r P) P 13 [(0, .ref (ad E x0)), (1, .int x1), (2, .int x2), (3, .int x3), (4, .int x4), (5, .int x5)] [] := by
  intro n
  induction n with
  | zero => intro x4 x5 hf; cases hf
  | succ n ih =>
    intro x4 x5 hf
    unfold f_X0_fewestBefore_L13 at hf
    refine z_iload S 5 dX0_fewestBefore_13 rfl ?_
    refine z_iload_n S 3 dX0_fewestBefore_15 rfl rfl ?_
    refine z_icmp_gt (tgt := 91) S dX0_fewestBefore_16 (by decide) hf (fun hf => ?_) (fun hf => ?_)
    · refine z_sub [4] rfl ?_
      exact hK x4 hf
    · refine z_iload S 4 dX0_fewestBefore_19 rfl ?_
      refine z_bipush (v := (-9 : Int32)) S dX0_fewestBefore_21 (by decide) ?_
      refine z_icmp_eq (tgt := 39) S dX0_fewestBefore_23 (by decide) hf (fun hf => ?_) (fun hf => ?_)
      · refine z_iconst (v := 1) S dX0_fewestBefore_39 (by decide) ?_
        refine z_goto (tgt := 44) S dX0_fewestBefore_40 (by decide) ?_
        refine z_istore (lv' := [(6, .int (1 : Int32)), (0, .ref (ad E x0)), (1, .int x1), (2, .int x2), (3, .int x3), (4, .int x4), (5, .int x5)]) S dX0_fewestBefore_44 (by decide) rfl ?_
        refine z_iload S 6 dX0_fewestBefore_46 rfl ?_
        refine z_iload_n S 4 dX0_fewestBefore_48 rfl rfl ?_
        refine z_iconst (v := (-1 : Int32)) S dX0_fewestBefore_49 (by decide) ?_
        refine z_ixor S dX0_fewestBefore_50 ?_
        refine z_iand S dX0_fewestBefore_51 ?_
        refine z_if_ne (tgt := 85) S dX0_fewestBefore_52 (by decide) hf (fun hf => ?_) (fun hf => ?_)
        · refine z_iload S 0 dX0_fewestBefore_55 rfl ?_
          refine z_if_eq (tgt := 85) S dX0_fewestBefore_57 (by decide) hf (fun hf => ?_) (fun hf => ?_)
          · refine z_iinc (v := (x5 + (1 : Int32))) (lv' := [(5, .int (x5 + (1 : Int32))), (6, .int (1 : Int32)), (0, .ref (ad E x0)), (1, .int x1), (2, .int x2), (3, .int x3), (4, .int x4)]) S 6 dX0_fewestBefore_85 rfl (by rfl) (by decide) rfl ?_
            refine z_goto (tgt := 13) S dX0_fewestBefore_88 (by decide) ?_
            refine z_sub [2, 3, 4, 5, 6, 0] rfl ?_
            exact ih x4 (x5 + (1 : Int32)) hf
          · refine z_aload_n S 1 dX0_fewestBefore_60 rfl rfl ?_
            refine z_iload_n S 3 dX0_fewestBefore_61 rfl rfl ?_
            refine z_aload_n S 1 dX0_fewestBefore_62 rfl rfl ?_
            refine z_getR (K' := 2) (n' := 0) S cf_1 h_x0 5 (by decide) rfl rfl rfl wd232 dX0_fewestBefore_63 (fun h1 => ?_)
            refine z_getI S cf_2 h1 1 (by decide) rfl wd174 dX0_fewestBefore_66 ?_
            refine z_iload S 6 dX0_fewestBefore_69 rfl ?_
            refine z_iconst (v := (-1 : Int32)) S dX0_fewestBefore_71 (by decide) ?_
            refine z_ixor S dX0_fewestBefore_72 ?_
            refine z_iand S dX0_fewestBefore_73 ?_
            refine z_callVI (rc := r_X2_owner) [.int x2, .int ((P.1 (P.2.2 x0 5) 1) &&& (x5 ^^^ (-1 : Int32)))] S mo_X2_owner wd384 wd385 wd582 h_x0 (by decide) cl_1 rfl rfl (by decide) (z_room0 S M (by rfl) (by rfl)) rfl (Nat.le_of_ble_eq_true rfl) rfl dX0_fewestBefore_74 (fun q => q) (fun _ => P) (fun q hq => m_X2_owner (xl x) E _ _ _ _ h_x0 q hq) hf (fun q2 hf => ?_)
            refine z_iload_n S 2 dX0_fewestBefore_77 rfl rfl ?_
            refine z_icmp_ne (tgt := 85) S dX0_fewestBefore_78 (by decide) hf (fun hf => ?_) (fun hf => ?_)
            · refine z_iload S 6 dX0_fewestBefore_81 rfl ?_
              refine z_istore (lv' := [(4, .int x5), (6, .int (1 : Int32)), (0, .ref (ad E x0)), (1, .int x1), (2, .int x2), (3, .int x3), (5, .int x5)]) S dX0_fewestBefore_83 (by decide) rfl ?_
              refine z_iinc (v := (x5 + (1 : Int32))) (lv' := [(5, .int (x5 + (1 : Int32))), (4, .int x5), (6, .int (1 : Int32)), (0, .ref (ad E x0)), (1, .int x1), (2, .int x2), (3, .int x3)]) S 6 dX0_fewestBefore_85 rfl (by rfl) (by decide) rfl ?_
              refine z_goto (tgt := 13) S dX0_fewestBefore_88 (by decide) ?_
              refine z_sub [3, 4, 5, 6, 1, 0] rfl ?_
              exact ih x5 (x5 + (1 : Int32)) hf
            · refine z_iinc (v := (x5 + (1 : Int32))) (lv' := [(5, .int (x5 + (1 : Int32))), (6, .int (1 : Int32)), (0, .ref (ad E x0)), (1, .int x1), (2, .int x2), (3, .int x3), (4, .int x4)]) S 6 dX0_fewestBefore_85 rfl (by rfl) (by decide) rfl ?_
              refine z_goto (tgt := 13) S dX0_fewestBefore_88 (by decide) ?_
              refine z_sub [2, 3, 4, 5, 6, 0] rfl ?_
              exact ih x4 (x5 + (1 : Int32)) hf
        · refine z_iinc (v := (x5 + (1 : Int32))) (lv' := [(5, .int (x5 + (1 : Int32))), (6, .int (1 : Int32)), (0, .ref (ad E x0)), (1, .int x1), (2, .int x2), (3, .int x3), (4, .int x4)]) S 6 dX0_fewestBefore_85 rfl (by rfl) (by decide) rfl ?_
          refine z_goto (tgt := 13) S dX0_fewestBefore_88 (by decide) ?_
          refine z_sub [2, 3, 4, 5, 6, 0] rfl ?_
          exact ih x4 (x5 + (1 : Int32)) hf
      · refine z_iload S 5 dX0_fewestBefore_26 rfl ?_
        refine z_callSI (rc := r_J6_bitCount_0f7a4) [.int x5] S mo_J6_bitCount_0f7a4 wd455 wd581 rfl rfl (by decide) (z_room0 S M (by rfl) (by rfl)) rfl (Nat.le_of_ble_eq_true rfl) rfl dX0_fewestBefore_28 (fun q => q) (fun _ => P) (fun q hq => m_J6_bitCount_0f7a4 (xl x) E _ _  q hq) hf (fun q3 hf => ?_)
        refine z_iload S 4 dX0_fewestBefore_31 rfl ?_
        refine z_callSI (rc := r_J6_bitCount_0f7a4) [.int x4] S mo_J6_bitCount_0f7a4 wd455 wd581 rfl rfl (by decide) (z_room0 S M (by rfl) (by rfl)) rfl (Nat.le_of_ble_eq_true rfl) rfl dX0_fewestBefore_33 (fun q => q) (fun _ => P) (fun q hq => m_J6_bitCount_0f7a4 (xl x) E _ _  q hq) hf (fun q4 hf => ?_)
        refine z_icmp_ge (tgt := 43) S dX0_fewestBefore_36 (by decide) hf (fun hf => ?_) (fun hf => ?_)
        · refine z_iconst (v := 0) S dX0_fewestBefore_43 (by decide) ?_
          refine z_istore (lv' := [(6, .int (0 : Int32)), (0, .ref (ad E x0)), (1, .int x1), (2, .int x2), (3, .int x3), (4, .int x4), (5, .int x5)]) S dX0_fewestBefore_44 (by decide) rfl ?_
          refine z_iload S 6 dX0_fewestBefore_46 rfl ?_
          refine z_iload_n S 4 dX0_fewestBefore_48 rfl rfl ?_
          refine z_iconst (v := (-1 : Int32)) S dX0_fewestBefore_49 (by decide) ?_
          refine z_ixor S dX0_fewestBefore_50 ?_
          refine z_iand S dX0_fewestBefore_51 ?_
          refine z_if_ne (tgt := 85) S dX0_fewestBefore_52 (by decide) hf (fun hf => ?_) (fun hf => ?_)
          · refine z_iload S 0 dX0_fewestBefore_55 rfl ?_
            refine z_if_eq (tgt := 85) S dX0_fewestBefore_57 (by decide) hf (fun hf => ?_) (fun hf => ?_)
            · refine z_iinc (v := (x5 + (1 : Int32))) (lv' := [(5, .int (x5 + (1 : Int32))), (6, .int (0 : Int32)), (0, .ref (ad E x0)), (1, .int x1), (2, .int x2), (3, .int x3), (4, .int x4)]) S 6 dX0_fewestBefore_85 rfl (by rfl) (by decide) rfl ?_
              refine z_goto (tgt := 13) S dX0_fewestBefore_88 (by decide) ?_
              refine z_sub [2, 3, 4, 5, 6, 0] rfl ?_
              exact ih x4 (x5 + (1 : Int32)) hf
            · refine z_aload_n S 1 dX0_fewestBefore_60 rfl rfl ?_
              refine z_iload_n S 3 dX0_fewestBefore_61 rfl rfl ?_
              refine z_aload_n S 1 dX0_fewestBefore_62 rfl rfl ?_
              refine z_getR (K' := 2) (n' := 0) S cf_1 h_x0 5 (by decide) rfl rfl rfl wd232 dX0_fewestBefore_63 (fun h5 => ?_)
              refine z_getI S cf_2 h5 1 (by decide) rfl wd174 dX0_fewestBefore_66 ?_
              refine z_iload S 6 dX0_fewestBefore_69 rfl ?_
              refine z_iconst (v := (-1 : Int32)) S dX0_fewestBefore_71 (by decide) ?_
              refine z_ixor S dX0_fewestBefore_72 ?_
              refine z_iand S dX0_fewestBefore_73 ?_
              refine z_callVI (rc := r_X2_owner) [.int x2, .int ((P.1 (P.2.2 x0 5) 1) &&& (x5 ^^^ (-1 : Int32)))] S mo_X2_owner wd384 wd385 wd582 h_x0 (by decide) cl_1 rfl rfl (by decide) (z_room0 S M (by rfl) (by rfl)) rfl (Nat.le_of_ble_eq_true rfl) rfl dX0_fewestBefore_74 (fun q => q) (fun _ => P) (fun q hq => m_X2_owner (xl x) E _ _ _ _ h_x0 q hq) hf (fun q6 hf => ?_)
              refine z_iload_n S 2 dX0_fewestBefore_77 rfl rfl ?_
              refine z_icmp_ne (tgt := 85) S dX0_fewestBefore_78 (by decide) hf (fun hf => ?_) (fun hf => ?_)
              · refine z_iload S 6 dX0_fewestBefore_81 rfl ?_
                refine z_istore (lv' := [(4, .int x5), (6, .int (0 : Int32)), (0, .ref (ad E x0)), (1, .int x1), (2, .int x2), (3, .int x3), (5, .int x5)]) S dX0_fewestBefore_83 (by decide) rfl ?_
                refine z_iinc (v := (x5 + (1 : Int32))) (lv' := [(5, .int (x5 + (1 : Int32))), (4, .int x5), (6, .int (0 : Int32)), (0, .ref (ad E x0)), (1, .int x1), (2, .int x2), (3, .int x3)]) S 6 dX0_fewestBefore_85 rfl (by rfl) (by decide) rfl ?_
                refine z_goto (tgt := 13) S dX0_fewestBefore_88 (by decide) ?_
                refine z_sub [3, 4, 5, 6, 1, 0] rfl ?_
                exact ih x5 (x5 + (1 : Int32)) hf
              · refine z_iinc (v := (x5 + (1 : Int32))) (lv' := [(5, .int (x5 + (1 : Int32))), (6, .int (0 : Int32)), (0, .ref (ad E x0)), (1, .int x1), (2, .int x2), (3, .int x3), (4, .int x4)]) S 6 dX0_fewestBefore_85 rfl (by rfl) (by decide) rfl ?_
                refine z_goto (tgt := 13) S dX0_fewestBefore_88 (by decide) ?_
                refine z_sub [2, 3, 4, 5, 6, 0] rfl ?_
                exact ih x4 (x5 + (1 : Int32)) hf
          · refine z_iinc (v := (x5 + (1 : Int32))) (lv' := [(5, .int (x5 + (1 : Int32))), (6, .int (0 : Int32)), (0, .ref (ad E x0)), (1, .int x1), (2, .int x2), (3, .int x3), (4, .int x4)]) S 6 dX0_fewestBefore_85 rfl (by rfl) (by decide) rfl ?_
            refine z_goto (tgt := 13) S dX0_fewestBefore_88 (by decide) ?_
            refine z_sub [2, 3, 4, 5, 6, 0] rfl ?_
            exact ih x4 (x5 + (1 : Int32)) hf
        · refine z_iconst (v := 1) S dX0_fewestBefore_39 (by decide) ?_
          refine z_goto (tgt := 44) S dX0_fewestBefore_40 (by decide) ?_
          refine z_istore (lv' := [(6, .int (1 : Int32)), (0, .ref (ad E x0)), (1, .int x1), (2, .int x2), (3, .int x3), (4, .int x4), (5, .int x5)]) S dX0_fewestBefore_44 (by decide) rfl ?_
          refine z_iload S 6 dX0_fewestBefore_46 rfl ?_
          refine z_iload_n S 4 dX0_fewestBefore_48 rfl rfl ?_
          refine z_iconst (v := (-1 : Int32)) S dX0_fewestBefore_49 (by decide) ?_
          refine z_ixor S dX0_fewestBefore_50 ?_
          refine z_iand S dX0_fewestBefore_51 ?_
          refine z_if_ne (tgt := 85) S dX0_fewestBefore_52 (by decide) hf (fun hf => ?_) (fun hf => ?_)
          · refine z_iload S 0 dX0_fewestBefore_55 rfl ?_
            refine z_if_eq (tgt := 85) S dX0_fewestBefore_57 (by decide) hf (fun hf => ?_) (fun hf => ?_)
            · refine z_iinc (v := (x5 + (1 : Int32))) (lv' := [(5, .int (x5 + (1 : Int32))), (6, .int (1 : Int32)), (0, .ref (ad E x0)), (1, .int x1), (2, .int x2), (3, .int x3), (4, .int x4)]) S 6 dX0_fewestBefore_85 rfl (by rfl) (by decide) rfl ?_
              refine z_goto (tgt := 13) S dX0_fewestBefore_88 (by decide) ?_
              refine z_sub [2, 3, 4, 5, 6, 0] rfl ?_
              exact ih x4 (x5 + (1 : Int32)) hf
            · refine z_aload_n S 1 dX0_fewestBefore_60 rfl rfl ?_
              refine z_iload_n S 3 dX0_fewestBefore_61 rfl rfl ?_
              refine z_aload_n S 1 dX0_fewestBefore_62 rfl rfl ?_
              refine z_getR (K' := 2) (n' := 0) S cf_1 h_x0 5 (by decide) rfl rfl rfl wd232 dX0_fewestBefore_63 (fun h7 => ?_)
              refine z_getI S cf_2 h7 1 (by decide) rfl wd174 dX0_fewestBefore_66 ?_
              refine z_iload S 6 dX0_fewestBefore_69 rfl ?_
              refine z_iconst (v := (-1 : Int32)) S dX0_fewestBefore_71 (by decide) ?_
              refine z_ixor S dX0_fewestBefore_72 ?_
              refine z_iand S dX0_fewestBefore_73 ?_
              refine z_callVI (rc := r_X2_owner) [.int x2, .int ((P.1 (P.2.2 x0 5) 1) &&& (x5 ^^^ (-1 : Int32)))] S mo_X2_owner wd384 wd385 wd582 h_x0 (by decide) cl_1 rfl rfl (by decide) (z_room0 S M (by rfl) (by rfl)) rfl (Nat.le_of_ble_eq_true rfl) rfl dX0_fewestBefore_74 (fun q => q) (fun _ => P) (fun q hq => m_X2_owner (xl x) E _ _ _ _ h_x0 q hq) hf (fun q8 hf => ?_)
              refine z_iload_n S 2 dX0_fewestBefore_77 rfl rfl ?_
              refine z_icmp_ne (tgt := 85) S dX0_fewestBefore_78 (by decide) hf (fun hf => ?_) (fun hf => ?_)
              · refine z_iload S 6 dX0_fewestBefore_81 rfl ?_
                refine z_istore (lv' := [(4, .int x5), (6, .int (1 : Int32)), (0, .ref (ad E x0)), (1, .int x1), (2, .int x2), (3, .int x3), (5, .int x5)]) S dX0_fewestBefore_83 (by decide) rfl ?_
                refine z_iinc (v := (x5 + (1 : Int32))) (lv' := [(5, .int (x5 + (1 : Int32))), (4, .int x5), (6, .int (1 : Int32)), (0, .ref (ad E x0)), (1, .int x1), (2, .int x2), (3, .int x3)]) S 6 dX0_fewestBefore_85 rfl (by rfl) (by decide) rfl ?_
                refine z_goto (tgt := 13) S dX0_fewestBefore_88 (by decide) ?_
                refine z_sub [3, 4, 5, 6, 1, 0] rfl ?_
                exact ih x5 (x5 + (1 : Int32)) hf
              · refine z_iinc (v := (x5 + (1 : Int32))) (lv' := [(5, .int (x5 + (1 : Int32))), (6, .int (1 : Int32)), (0, .ref (ad E x0)), (1, .int x1), (2, .int x2), (3, .int x3), (4, .int x4)]) S 6 dX0_fewestBefore_85 rfl (by rfl) (by decide) rfl ?_
                refine z_goto (tgt := 13) S dX0_fewestBefore_88 (by decide) ?_
                refine z_sub [2, 3, 4, 5, 6, 0] rfl ?_
                exact ih x4 (x5 + (1 : Int32)) hf
          · refine z_iinc (v := (x5 + (1 : Int32))) (lv' := [(5, .int (x5 + (1 : Int32))), (6, .int (1 : Int32)), (0, .ref (ad E x0)), (1, .int x1), (2, .int x2), (3, .int x3), (4, .int x4)]) S 6 dX0_fewestBefore_85 rfl (by rfl) (by decide) rfl ?_
            refine z_goto (tgt := 13) S dX0_fewestBefore_88 (by decide) ?_
            refine z_sub [2, 3, 4, 5, 6, 0] rfl ?_
            exact ih x4 (x5 + (1 : Int32)) hf
def f_X0_fewestBefore (P : PH) (x0 : Nat) (x1 : Int32) (x2 : Int32) : Option Int32 :=
  ((f_X0_othersThan P x0 x1).bind fun q9 => f_X0_fewestBefore_L13 (fun v10 => some v10) P x0 x1 x2 q9 1000 (-9 : Int32) (0 : Int32))
theorem w_X0_fewestBefore {x : Fx} {E : Ev} (S : ZS x E r_X0_fewestBefore cX0_fewestBefore 7 RX0 (some .int)) (M : ZM x E) (P : PH) (x0 : Nat) (x1 : Int32) (x2 : Int32) (h_x0 : ok x0 1 0) (r : Int32) (hf : f_X0_fewestBefore P x0 x1 x2 = some r) : Wz x E 7 (QI E x r P) P 0 [(0, .ref (ad E x0)), (1, .int x1), (2, .int x2)] [] := by
  unfold f_X0_fewestBefore at hf
  refine z_aload_n S 0 dX0_fewestBefore_0 rfl rfl ?_
  refine z_iload_n S 1 dX0_fewestBefore_1 rfl rfl ?_
  refine z_callSI (rc := r_X0_othersThan) [.ref (ad E x0), .int x1] S mo_X0_othersThan wd579 wd578 rfl rfl (by decide) (z_room0 S M (by rfl) (by rfl)) rfl (Nat.le_of_ble_eq_true rfl) rfl dX0_fewestBefore_2 (fun q => q) (fun _ => P) (fun q hq => m_X0_othersThan (xl x) E _ _ _ h_x0 q hq) hf (fun q9 hf => ?_)
  refine z_istore_n (lv' := [(3, .int q9), (0, .ref (ad E x0)), (1, .int x1), (2, .int x2)]) S dX0_fewestBefore_5 rfl (by decide) rfl ?_
  refine z_bipush (v := (-9 : Int32)) S dX0_fewestBefore_6 (by decide) ?_
  refine z_istore (lv' := [(4, .int (-9 : Int32)), (3, .int q9), (0, .ref (ad E x0)), (1, .int x1), (2, .int x2)]) S dX0_fewestBefore_8 (by decide) rfl ?_
  refine z_iconst (v := 0) S dX0_fewestBefore_10 (by decide) ?_
  refine z_istore (lv' := [(5, .int (0 : Int32)), (4, .int (-9 : Int32)), (3, .int q9), (0, .ref (ad E x0)), (1, .int x1), (2, .int x2)]) S dX0_fewestBefore_11 (by decide) rfl ?_
  refine z_sub [3, 4, 5, 2, 1, 0] rfl ?_
  refine w_X0_fewestBefore_L13 S M _ x0 x1 x2 q9 h_x0 r (fun v10 hf => ?_) 1000 (-9 : Int32) (0 : Int32) hf
  refine z_iload S 0 dX0_fewestBefore_91 rfl ?_
  exact z_iretP (v := v10) S M rfl dX0_fewestBefore_93 hf
theorem m_X0_fewestBefore (l : Launch) (E : Ev) (P : PH) (x0 : Nat) (x1 : Int32) (x2 : Int32) (h_x0 : ok x0 1 0) (r : Int32) (hf : f_X0_fewestBefore P x0 x1 x2 = some r) : CtI l E yX0_fewestBefore cX0_fewestBefore 7 (some .int) r_X0_fewestBefore [.ref (ad E x0), .int x1, .int x2] P r P :=
  z_body (own := RX0) (by decide +kernel) rfl (Nat.le_of_ble_eq_true rfl) rfl (fun x _ S M => w_X0_fewestBefore S M P x0 x1 x2 h_x0 r hf)
-- yX0_power
theorem dX0_power_0 : decode cX0_power 0 = .ok (.iconst 1, 1) := by decide +kernel
theorem dX0_power_1 : decode cX0_power 1 = .ok (.istore_n 2, 1) := by decide +kernel
theorem dX0_power_2 : decode cX0_power 2 = .ok (.iconst 0, 1) := by decide +kernel
theorem dX0_power_3 : decode cX0_power 3 = .ok (.istore_n 3, 1) := by decide +kernel
theorem dX0_power_4 : decode cX0_power 4 = .ok (.iload_n 3, 1) := by decide +kernel
theorem dX0_power_5 : decode cX0_power 5 = .ok (.iload_n 1, 1) := by decide +kernel
theorem dX0_power_6 : decode cX0_power 6 = .ok (.if_icmp .ge 13, 3) := by decide +kernel
theorem dX0_power_9 : decode cX0_power 9 = .ok (.iload_n 2, 1) := by decide +kernel
theorem dX0_power_10 : decode cX0_power 10 = .ok (.iload_n 0, 1) := by decide +kernel
theorem dX0_power_11 : decode cX0_power 11 = .ok (.imul, 1) := by decide +kernel
theorem dX0_power_12 : decode cX0_power 12 = .ok (.istore_n 2, 1) := by decide +kernel
theorem dX0_power_13 : decode cX0_power 13 = .ok (.iinc 3 1, 3) := by decide +kernel
theorem dX0_power_16 : decode cX0_power 16 = .ok (.goto (-12), 3) := by decide +kernel
theorem dX0_power_19 : decode cX0_power 19 = .ok (.iload_n 2, 1) := by decide +kernel
theorem dX0_power_20 : decode cX0_power 20 = .ok (.ireturn, 1) := by decide +kernel
def r_X0_power : Room := { frames := 0, cells := 0, slots := 0, locals := 0 }
def f_X0_power_L4 (K : Int32 → Option Int32) (P : PH) (x0 : Int32) (x1 : Int32) : Nat → Int32 → Int32 → Option Int32
  | 0, _, _ => none
  | n + 1, x2, x3 =>
    (if x1 ≤ x3 then K x2 else f_X0_power_L4 K P x0 x1 n (x2 * x0) (x3 + (1 : Int32)))
theorem w_X0_power_L4 {x : Fx} {E : Ev} (S : ZS x E r_X0_power cX0_power 4 RX0 (some .int)) (M : ZM x E) {K : Int32 → Option Int32} (P : PH) (x0 : Int32) (x1 : Int32)  (r : Int32) (hK : ∀ (y2 : Int32), K y2 = some r → Wz x E 4 (QI E x r P) P 19 [(2, .int y2)] []) : ∀ (n : Nat) (x2 : Int32) (x3 : Int32), f_X0_power_L4 K P x0 x1 n x2 x3 = some r → Wz x E 4 (QI E x r P) P 4 [(0, .int x0), (1, .int x1), (2, .int x2), (3, .int x3)] [] := by
  intro n
  induction n with
  | zero => intro x2 x3 hf; cases hf
  | succ n ih =>
    intro x2 x3 hf
    unfold f_X0_power_L4 at hf
    refine z_iload_n S 3 dX0_power_4 rfl rfl ?_
    refine z_iload_n S 1 dX0_power_5 rfl rfl ?_
    refine z_icmp_ge (tgt := 19) S dX0_power_6 (by decide) hf (fun hf => ?_) (fun hf => ?_)
    · refine z_sub [2] rfl ?_
      exact hK x2 hf
    · refine z_iload_n S 2 dX0_power_9 rfl rfl ?_
      refine z_iload_n S 0 dX0_power_10 rfl rfl ?_
      refine z_imul S dX0_power_11 ?_
      refine z_istore_n (lv' := [(2, .int (x2 * x0)), (0, .int x0), (1, .int x1), (3, .int x3)]) S dX0_power_12 rfl (by decide) rfl ?_
      refine z_iinc (v := (x3 + (1 : Int32))) (lv' := [(3, .int (x3 + (1 : Int32))), (2, .int (x2 * x0)), (0, .int x0), (1, .int x1)]) S 3 dX0_power_13 rfl (by rfl) (by decide) rfl ?_
      refine z_goto (tgt := 4) S dX0_power_16 (by decide) ?_
      refine z_sub [2, 3, 1, 0] rfl ?_
      exact ih (x2 * x0) (x3 + (1 : Int32)) hf
def f_X0_power (P : PH) (x0 : Int32) (x1 : Int32) : Option Int32 :=
  f_X0_power_L4 (fun v1 => some v1) P x0 x1 1000 (1 : Int32) (0 : Int32)
theorem w_X0_power {x : Fx} {E : Ev} (S : ZS x E r_X0_power cX0_power 4 RX0 (some .int)) (M : ZM x E) (P : PH) (x0 : Int32) (x1 : Int32)  (r : Int32) (hf : f_X0_power P x0 x1 = some r) : Wz x E 4 (QI E x r P) P 0 [(0, .int x0), (1, .int x1)] [] := by
  unfold f_X0_power at hf
  refine z_iconst (v := 1) S dX0_power_0 (by decide) ?_
  refine z_istore_n (lv' := [(2, .int (1 : Int32)), (0, .int x0), (1, .int x1)]) S dX0_power_1 rfl (by decide) rfl ?_
  refine z_iconst (v := 0) S dX0_power_2 (by decide) ?_
  refine z_istore_n (lv' := [(3, .int (0 : Int32)), (2, .int (1 : Int32)), (0, .int x0), (1, .int x1)]) S dX0_power_3 rfl (by decide) rfl ?_
  refine z_sub [2, 3, 1, 0] rfl ?_
  refine w_X0_power_L4 S M _ x0 x1  r (fun v1 hf => ?_) 1000 (1 : Int32) (0 : Int32) hf
  refine z_iload_n S 0 dX0_power_19 rfl rfl ?_
  exact z_iretP (v := v1) S M rfl dX0_power_20 hf
theorem m_X0_power (l : Launch) (E : Ev) (P : PH) (x0 : Int32) (x1 : Int32)  (r : Int32) (hf : f_X0_power P x0 x1 = some r) : CtI l E yX0_power cX0_power 4 (some .int) r_X0_power [.int x0, .int x1] P r P :=
  z_body (own := RX0) (by decide +kernel) rfl (Nat.le_of_ble_eq_true rfl) rfl (fun x _ S M => w_X0_power S M P x0 x1  r hf)
-- yX0_commonDivisor
theorem dX0_commonDivisor_0 : decode cX0_commonDivisor 0 = .ok (.iconst 0, 1) := by decide +kernel
theorem dX0_commonDivisor_1 : decode cX0_commonDivisor 1 = .ok (.istore_n 2, 1) := by decide +kernel
theorem dX0_commonDivisor_2 : decode cX0_commonDivisor 2 = .ok (.iload_n 2, 1) := by decide +kernel
theorem dX0_commonDivisor_3 : decode cX0_commonDivisor 3 = .ok (.bipush 100, 2) := by decide +kernel
theorem dX0_commonDivisor_5 : decode cX0_commonDivisor 5 = .ok (.if_icmp .ge 21, 3) := by decide +kernel
theorem dX0_commonDivisor_8 : decode cX0_commonDivisor 8 = .ok (.iload_n 1, 1) := by decide +kernel
theorem dX0_commonDivisor_9 : decode cX0_commonDivisor 9 = .ok (.ifCond .eq 17, 3) := by decide +kernel
theorem dX0_commonDivisor_12 : decode cX0_commonDivisor 12 = .ok (.iload_n 0, 1) := by decide +kernel
theorem dX0_commonDivisor_13 : decode cX0_commonDivisor 13 = .ok (.iload_n 1, 1) := by decide +kernel
theorem dX0_commonDivisor_14 : decode cX0_commonDivisor 14 = .ok (.irem, 1) := by decide +kernel
theorem dX0_commonDivisor_15 : decode cX0_commonDivisor 15 = .ok (.istore_n 3, 1) := by decide +kernel
theorem dX0_commonDivisor_16 : decode cX0_commonDivisor 16 = .ok (.iload_n 1, 1) := by decide +kernel
theorem dX0_commonDivisor_17 : decode cX0_commonDivisor 17 = .ok (.istore_n 0, 1) := by decide +kernel
theorem dX0_commonDivisor_18 : decode cX0_commonDivisor 18 = .ok (.iload_n 3, 1) := by decide +kernel
theorem dX0_commonDivisor_19 : decode cX0_commonDivisor 19 = .ok (.istore_n 1, 1) := by decide +kernel
theorem dX0_commonDivisor_20 : decode cX0_commonDivisor 20 = .ok (.iinc 2 1, 3) := by decide +kernel
theorem dX0_commonDivisor_23 : decode cX0_commonDivisor 23 = .ok (.goto (-21), 3) := by decide +kernel
theorem dX0_commonDivisor_26 : decode cX0_commonDivisor 26 = .ok (.iload_n 0, 1) := by decide +kernel
theorem dX0_commonDivisor_27 : decode cX0_commonDivisor 27 = .ok (.ireturn, 1) := by decide +kernel
def r_X0_commonDivisor : Room := { frames := 0, cells := 0, slots := 0, locals := 0 }
def f_X0_commonDivisor_L2 (K : Int32 → Option Int32) (P : PH)  : Nat → Int32 → Int32 → Int32 → Option Int32
  | 0, _, _, _ => none
  | n + 1, x0, x1, x2 =>
    (if (100 : Int32) ≤ x2 then K x0 else (if x1 = 0 then K x0 else (if x1 = 0 then none else f_X0_commonDivisor_L2 K P  n x1 (x0 - x0 / x1 * x1) (x2 + (1 : Int32)))))
theorem w_X0_commonDivisor_L2 {x : Fx} {E : Ev} (S : ZS x E r_X0_commonDivisor cX0_commonDivisor 4 RX0 (some .int)) (M : ZM x E) {K : Int32 → Option Int32} (P : PH)   (r : Int32) (hK : ∀ (y0 : Int32), K y0 = some r → Wz x E 4 (QI E x r P) P 26 [(0, .int y0)] []) : ∀ (n : Nat) (x0 : Int32) (x1 : Int32) (x2 : Int32), f_X0_commonDivisor_L2 K P  n x0 x1 x2 = some r → Wz x E 4 (QI E x r P) P 2 [(0, .int x0), (1, .int x1), (2, .int x2)] [] := by
  intro n
  induction n with
  | zero => intro x0 x1 x2 hf; cases hf
  | succ n ih =>
    intro x0 x1 x2 hf
    unfold f_X0_commonDivisor_L2 at hf
    refine z_iload_n S 2 dX0_commonDivisor_2 rfl rfl ?_
    refine z_bipush (v := 100) S dX0_commonDivisor_3 (by decide) ?_
    refine z_icmp_ge (tgt := 26) S dX0_commonDivisor_5 (by decide) hf (fun hf => ?_) (fun hf => ?_)
    · refine z_sub [0] rfl ?_
      exact hK x0 hf
    · refine z_iload_n S 1 dX0_commonDivisor_8 rfl rfl ?_
      refine z_if_eq (tgt := 26) S dX0_commonDivisor_9 (by decide) hf (fun hf => ?_) (fun hf => ?_)
      · refine z_sub [0] rfl ?_
        exact hK x0 hf
      · refine z_iload_n S 0 dX0_commonDivisor_12 rfl rfl ?_
        refine z_iload_n S 1 dX0_commonDivisor_13 rfl rfl ?_
        refine z_irem S dX0_commonDivisor_14 hf (fun hf => ?_)
        refine z_istore_n (lv' := [(3, .int (x0 - x0 / x1 * x1)), (0, .int x0), (1, .int x1), (2, .int x2)]) S dX0_commonDivisor_15 rfl (by decide) rfl ?_
        refine z_iload_n S 2 dX0_commonDivisor_16 rfl rfl ?_
        refine z_istore_n (lv' := [(0, .int x1), (3, .int (x0 - x0 / x1 * x1)), (1, .int x1), (2, .int x2)]) S dX0_commonDivisor_17 rfl (by decide) rfl ?_
        refine z_iload_n S 1 dX0_commonDivisor_18 rfl rfl ?_
        refine z_istore_n (lv' := [(1, .int (x0 - x0 / x1 * x1)), (0, .int x1), (3, .int (x0 - x0 / x1 * x1)), (2, .int x2)]) S dX0_commonDivisor_19 rfl (by decide) rfl ?_
        refine z_iinc (v := (x2 + (1 : Int32))) (lv' := [(2, .int (x2 + (1 : Int32))), (1, .int (x0 - x0 / x1 * x1)), (0, .int x1), (3, .int (x0 - x0 / x1 * x1))]) S 3 dX0_commonDivisor_20 rfl (by rfl) (by decide) rfl ?_
        refine z_goto (tgt := 2) S dX0_commonDivisor_23 (by decide) ?_
        refine z_sub [2, 1, 0] rfl ?_
        exact ih x1 (x0 - x0 / x1 * x1) (x2 + (1 : Int32)) hf
def f_X0_commonDivisor (P : PH) (x0 : Int32) (x1 : Int32) : Option Int32 :=
  f_X0_commonDivisor_L2 (fun v1 => some v1) P  1000 x0 x1 (0 : Int32)
theorem w_X0_commonDivisor {x : Fx} {E : Ev} (S : ZS x E r_X0_commonDivisor cX0_commonDivisor 4 RX0 (some .int)) (M : ZM x E) (P : PH) (x0 : Int32) (x1 : Int32)  (r : Int32) (hf : f_X0_commonDivisor P x0 x1 = some r) : Wz x E 4 (QI E x r P) P 0 [(0, .int x0), (1, .int x1)] [] := by
  unfold f_X0_commonDivisor at hf
  refine z_iconst (v := 0) S dX0_commonDivisor_0 (by decide) ?_
  refine z_istore_n (lv' := [(2, .int (0 : Int32)), (0, .int x0), (1, .int x1)]) S dX0_commonDivisor_1 rfl (by decide) rfl ?_
  refine z_sub [1, 2, 0] rfl ?_
  refine w_X0_commonDivisor_L2 S M _   r (fun v1 hf => ?_) 1000 x0 x1 (0 : Int32) hf
  refine z_iload_n S 0 dX0_commonDivisor_26 rfl rfl ?_
  exact z_iretP (v := v1) S M rfl dX0_commonDivisor_27 hf
theorem m_X0_commonDivisor (l : Launch) (E : Ev) (P : PH) (x0 : Int32) (x1 : Int32)  (r : Int32) (hf : f_X0_commonDivisor P x0 x1 = some r) : CtI l E yX0_commonDivisor cX0_commonDivisor 4 (some .int) r_X0_commonDivisor [.int x0, .int x1] P r P :=
  z_body (own := RX0) (by decide +kernel) rfl (Nat.le_of_ble_eq_true rfl) rfl (fun x _ S M => w_X0_commonDivisor S M P x0 x1  r hf)
-- yX0_chance
theorem dX0_chance_0 : decode cX0_chance 0 = .ok (.aload_n 0, 1) := by decide +kernel
theorem dX0_chance_1 : decode cX0_chance 1 = .ok (.iload_n 1, 1) := by decide +kernel
theorem dX0_chance_2 : decode cX0_chance 2 = .ok (.invokestatic 9, 3) := by decide +kernel
theorem dX0_chance_5 : decode cX0_chance 5 = .ok (.istore 4, 2) := by decide +kernel
theorem dX0_chance_7 : decode cX0_chance 7 = .ok (.iload 4, 2) := by decide +kernel
theorem dX0_chance_9 : decode cX0_chance 9 = .ok (.invokestatic 15, 3) := by decide +kernel
theorem dX0_chance_12 : decode cX0_chance 12 = .ok (.istore 5, 2) := by decide +kernel
theorem dX0_chance_14 : decode cX0_chance 14 = .ok (.bipush 10, 2) := by decide +kernel
theorem dX0_chance_16 : decode cX0_chance 16 = .ok (.iload 5, 2) := by decide +kernel
theorem dX0_chance_18 : decode cX0_chance 18 = .ok (.invokestatic 37, 3) := by decide +kernel
theorem dX0_chance_21 : decode cX0_chance 21 = .ok (.istore 6, 2) := by decide +kernel
theorem dX0_chance_23 : decode cX0_chance 23 = .ok (.iconst 0, 1) := by decide +kernel
theorem dX0_chance_24 : decode cX0_chance 24 = .ok (.istore 7, 2) := by decide +kernel
theorem dX0_chance_26 : decode cX0_chance 26 = .ok (.iconst 0, 1) := by decide +kernel
theorem dX0_chance_27 : decode cX0_chance 27 = .ok (.istore 8, 2) := by decide +kernel
theorem dX0_chance_29 : decode cX0_chance 29 = .ok (.iload 8, 2) := by decide +kernel
theorem dX0_chance_31 : decode cX0_chance 31 = .ok (.iload 4, 2) := by decide +kernel
theorem dX0_chance_33 : decode cX0_chance 33 = .ok (.if_icmp .gt 78, 3) := by decide +kernel
theorem dX0_chance_36 : decode cX0_chance 36 = .ok (.iload 8, 2) := by decide +kernel
theorem dX0_chance_38 : decode cX0_chance 38 = .ok (.iload 4, 2) := by decide +kernel
theorem dX0_chance_40 : decode cX0_chance 40 = .ok (.iconst (-1), 1) := by decide +kernel
theorem dX0_chance_41 : decode cX0_chance 41 = .ok (.ixor, 1) := by decide +kernel
theorem dX0_chance_42 : decode cX0_chance 42 = .ok (.iand, 1) := by decide +kernel
theorem dX0_chance_43 : decode cX0_chance 43 = .ok (.ifCond .ne 62, 3) := by decide +kernel
theorem dX0_chance_46 : decode cX0_chance 46 = .ok (.aload_n 0, 1) := by decide +kernel
theorem dX0_chance_47 : decode cX0_chance 47 = .ok (.iload_n 1, 1) := by decide +kernel
theorem dX0_chance_48 : decode cX0_chance 48 = .ok (.aload_n 0, 1) := by decide +kernel
theorem dX0_chance_49 : decode cX0_chance 49 = .ok (.getfield 21, 3) := by decide +kernel
theorem dX0_chance_52 : decode cX0_chance 52 = .ok (.getfield 27, 3) := by decide +kernel
theorem dX0_chance_55 : decode cX0_chance 55 = .ok (.iload 8, 2) := by decide +kernel
theorem dX0_chance_57 : decode cX0_chance 57 = .ok (.iconst (-1), 1) := by decide +kernel
theorem dX0_chance_58 : decode cX0_chance 58 = .ok (.ixor, 1) := by decide +kernel
theorem dX0_chance_59 : decode cX0_chance 59 = .ok (.iand, 1) := by decide +kernel
theorem dX0_chance_60 : decode cX0_chance 60 = .ok (.aload_n 0, 1) := by decide +kernel
theorem dX0_chance_61 : decode cX0_chance 61 = .ok (.getfield 21, 3) := by decide +kernel
theorem dX0_chance_64 : decode cX0_chance 64 = .ok (.getfield 40, 3) := by decide +kernel
theorem dX0_chance_67 : decode cX0_chance 67 = .ok (.iconst 0, 1) := by decide +kernel
theorem dX0_chance_68 : decode cX0_chance 68 = .ok (.invokevirtual 43, 3) := by decide +kernel
theorem dX0_chance_71 : decode cX0_chance 71 = .ok (.ifCond .ne 34, 3) := by decide +kernel
theorem dX0_chance_74 : decode cX0_chance 74 = .ok (.iload 8, 2) := by decide +kernel
theorem dX0_chance_76 : decode cX0_chance 76 = .ok (.invokestatic 15, 3) := by decide +kernel
theorem dX0_chance_79 : decode cX0_chance 79 = .ok (.istore 9, 2) := by decide +kernel
theorem dX0_chance_81 : decode cX0_chance 81 = .ok (.iload 7, 2) := by decide +kernel
theorem dX0_chance_83 : decode cX0_chance 83 = .ok (.iload_n 2, 1) := by decide +kernel
theorem dX0_chance_84 : decode cX0_chance 84 = .ok (.iload 9, 2) := by decide +kernel
theorem dX0_chance_86 : decode cX0_chance 86 = .ok (.invokestatic 37, 3) := by decide +kernel
theorem dX0_chance_89 : decode cX0_chance 89 = .ok (.bipush 10, 2) := by decide +kernel
theorem dX0_chance_91 : decode cX0_chance 91 = .ok (.iload_n 2, 1) := by decide +kernel
theorem dX0_chance_92 : decode cX0_chance 92 = .ok (.isub, 1) := by decide +kernel
theorem dX0_chance_93 : decode cX0_chance 93 = .ok (.iload 5, 2) := by decide +kernel
theorem dX0_chance_95 : decode cX0_chance 95 = .ok (.iload 9, 2) := by decide +kernel
theorem dX0_chance_97 : decode cX0_chance 97 = .ok (.isub, 1) := by decide +kernel
theorem dX0_chance_98 : decode cX0_chance 98 = .ok (.invokestatic 37, 3) := by decide +kernel
theorem dX0_chance_101 : decode cX0_chance 101 = .ok (.imul, 1) := by decide +kernel
theorem dX0_chance_102 : decode cX0_chance 102 = .ok (.iadd, 1) := by decide +kernel
theorem dX0_chance_103 : decode cX0_chance 103 = .ok (.istore 7, 2) := by decide +kernel
theorem dX0_chance_105 : decode cX0_chance 105 = .ok (.iinc 8 1, 3) := by decide +kernel
theorem dX0_chance_108 : decode cX0_chance 108 = .ok (.goto (-79), 3) := by decide +kernel
theorem dX0_chance_111 : decode cX0_chance 111 = .ok (.iload 6, 2) := by decide +kernel
theorem dX0_chance_113 : decode cX0_chance 113 = .ok (.iload 7, 2) := by decide +kernel
theorem dX0_chance_115 : decode cX0_chance 115 = .ok (.invokestatic 47, 3) := by decide +kernel
theorem dX0_chance_118 : decode cX0_chance 118 = .ok (.istore 8, 2) := by decide +kernel
theorem dX0_chance_120 : decode cX0_chance 120 = .ok (.iload 8, 2) := by decide +kernel
theorem dX0_chance_122 : decode cX0_chance 122 = .ok (.iconst 1, 1) := by decide +kernel
theorem dX0_chance_123 : decode cX0_chance 123 = .ok (.if_icmp .ge 5, 3) := by decide +kernel
theorem dX0_chance_126 : decode cX0_chance 126 = .ok (.iconst (-1), 1) := by decide +kernel
theorem dX0_chance_127 : decode cX0_chance 127 = .ok (.ireturn, 1) := by decide +kernel
theorem dX0_chance_128 : decode cX0_chance 128 = .ok (.iload_n 3, 1) := by decide +kernel
theorem dX0_chance_129 : decode cX0_chance 129 = .ok (.ifCond .eq 8, 3) := by decide +kernel
theorem dX0_chance_132 : decode cX0_chance 132 = .ok (.iload 7, 2) := by decide +kernel
theorem dX0_chance_134 : decode cX0_chance 134 = .ok (.goto 5, 3) := by decide +kernel
theorem dX0_chance_137 : decode cX0_chance 137 = .ok (.iload 6, 2) := by decide +kernel
theorem dX0_chance_139 : decode cX0_chance 139 = .ok (.iload 8, 2) := by decide +kernel
theorem dX0_chance_141 : decode cX0_chance 141 = .ok (.idiv, 1) := by decide +kernel
theorem dX0_chance_142 : decode cX0_chance 142 = .ok (.ireturn, 1) := by decide +kernel
def r_X0_chance : Room := { frames := 4, cells := 0, slots := 0, locals := 97 }
def f_X0_chance_L29 (K : Int32 → Option Int32) (P : PH) (x0 : Nat) (x1 : Int32) (x2 : Int32) (x3 : Int32) (x4 : Int32) (x5 : Int32) (x6 : Int32) : Nat → Int32 → Int32 → Option Int32
  | 0, _, _ => none
  | n + 1, x7, x8 =>
    (if x4 < x8 then K x7 else (if (x8 &&& (x4 ^^^ (-1 : Int32))) = 0 then ((f_X2_isCutOff P x0 x1 ((P.1 (P.2.2 x0 5) 1) &&& (x8 ^^^ (-1 : Int32))) (P.1 (P.2.2 x0 5) 0) (0 : Int32)).bind fun q3 => (if (b2i q3) = 0 then ((f_J6_bitCount_0f7a4 P x8).bind fun q4 => ((f_X0_power P x2 q4).bind fun q5 => ((f_X0_power P ((10 : Int32) - x2) (x5 - q4)).bind fun q6 => f_X0_chance_L29 K P x0 x1 x2 x3 x4 x5 x6 n (x7 + (q5 * q6)) (x8 + (1 : Int32))))) else f_X0_chance_L29 K P x0 x1 x2 x3 x4 x5 x6 n x7 (x8 + (1 : Int32)))) else f_X0_chance_L29 K P x0 x1 x2 x3 x4 x5 x6 n x7 (x8 + (1 : Int32))))
theorem w_X0_chance_L29 {x : Fx} {E : Ev} (S : ZS x E r_X0_chance cX0_chance 10 RX0 (some .int)) (M : ZM x E) {K : Int32 → Option Int32} (P : PH) (x0 : Nat) (x1 : Int32) (x2 : Int32) (x3 : Int32) (x4 : Int32) (x5 : Int32) (x6 : Int32) (h_x0 : ok x0 1 0) (r : Int32) (hK : ∀ (y7 : Int32), K y7 = some r → Wz x E 10 (QI E x r P) P 111 [(3, .int x3), (6, .int x6), (7, .int y7)] []) : ∀ (n : Nat) (x7 : Int32) (x8 : Int32), f_X0_chance_L29 K P x0 x1 x2 x3 x4 x5 x6 n x7 x8 = some r → Wz x E 10 (QI E x r P) P 29 [(0, .ref (ad E x0)), (1, .int x1), (2, .int x2), (3, .int x3), (4, .int x4), (5, .int x5), (6, .int x6), (7, .int x7), (8, .int x8)] [] := by
  intro n
  induction n with
  | zero => intro x7 x8 hf; cases hf
  | succ n ih =>
    intro x7 x8 hf
    unfold f_X0_chance_L29 at hf
    refine z_iload S 8 dX0_chance_29 rfl ?_
    refine z_iload S 4 dX0_chance_31 rfl ?_
    refine z_icmp_gt (tgt := 111) S dX0_chance_33 (by decide) hf (fun hf => ?_) (fun hf => ?_)
    · refine z_sub [3, 6, 7] rfl ?_
      exact hK x7 hf
    · refine z_iload S 8 dX0_chance_36 rfl ?_
      refine z_iload S 4 dX0_chance_38 rfl ?_
      refine z_iconst (v := (-1 : Int32)) S dX0_chance_40 (by decide) ?_
      refine z_ixor S dX0_chance_41 ?_
      refine z_iand S dX0_chance_42 ?_
      refine z_if_ne (tgt := 105) S dX0_chance_43 (by decide) hf (fun hf => ?_) (fun hf => ?_)
      · refine z_aload_n S 0 dX0_chance_46 rfl rfl ?_
        refine z_iload_n S 1 dX0_chance_47 rfl rfl ?_
        refine z_aload_n S 0 dX0_chance_48 rfl rfl ?_
        refine z_getR (K' := 2) (n' := 0) S cf_1 h_x0 5 (by decide) rfl rfl rfl wd232 dX0_chance_49 (fun h1 => ?_)
        refine z_getI S cf_2 h1 1 (by decide) rfl wd174 dX0_chance_52 ?_
        refine z_iload S 8 dX0_chance_55 rfl ?_
        refine z_iconst (v := (-1 : Int32)) S dX0_chance_57 (by decide) ?_
        refine z_ixor S dX0_chance_58 ?_
        refine z_iand S dX0_chance_59 ?_
        refine z_aload_n S 0 dX0_chance_60 rfl rfl ?_
        refine z_getR (K' := 2) (n' := 0) S cf_1 h_x0 5 (by decide) rfl rfl rfl wd232 dX0_chance_61 (fun h2 => ?_)
        refine z_getI S cf_2 h2 0 (by decide) rfl wd167 dX0_chance_64 ?_
        refine z_iconst (v := 0) S dX0_chance_67 (by decide) ?_
        refine z_callVI (rc := r_X2_isCutOff) [.int x1, .int ((P.1 (P.2.2 x0 5) 1) &&& (x8 ^^^ (-1 : Int32))), .int (P.1 (P.2.2 x0 5) 0), .int (0 : Int32)] S mo_X2_isCutOff wd400 wd401 wd593 h_x0 (by decide) cl_1 rfl rfl (by decide) (z_room0 S M (by rfl) (by rfl)) rfl (Nat.le_of_ble_eq_true rfl) rfl dX0_chance_68 (fun q => b2i q) (fun _ => P) (fun q hq => m_X2_isCutOff (xl x) E _ _ _ _ _ _ h_x0 q hq) hf (fun q3 hf => ?_)
        refine z_if_ne (tgt := 105) S dX0_chance_71 (by decide) hf (fun hf => ?_) (fun hf => ?_)
        · refine z_iload S 8 dX0_chance_74 rfl ?_
          refine z_callSI (rc := r_J6_bitCount_0f7a4) [.int x8] S mo_J6_bitCount_0f7a4 wd455 wd581 rfl rfl (by decide) (z_room0 S M (by rfl) (by rfl)) rfl (Nat.le_of_ble_eq_true rfl) rfl dX0_chance_76 (fun q => q) (fun _ => P) (fun q hq => m_J6_bitCount_0f7a4 (xl x) E _ _  q hq) hf (fun q4 hf => ?_)
          refine z_istore (lv' := [(9, .int q4), (0, .ref (ad E x0)), (1, .int x1), (2, .int x2), (3, .int x3), (4, .int x4), (5, .int x5), (6, .int x6), (7, .int x7), (8, .int x8)]) S dX0_chance_79 (by decide) rfl ?_
          refine z_iload S 8 dX0_chance_81 rfl ?_
          refine z_iload_n S 3 dX0_chance_83 rfl rfl ?_
          refine z_iload S 0 dX0_chance_84 rfl ?_
          refine z_callSI (rc := r_X0_power) [.int x2, .int q4] S mo_X0_power wd591 wd590 rfl rfl (by decide) (z_room0 S M (by rfl) (by rfl)) rfl (Nat.le_of_ble_eq_true rfl) rfl dX0_chance_86 (fun q => q) (fun _ => P) (fun q hq => m_X0_power (xl x) E _ _ _  q hq) hf (fun q5 hf => ?_)
          refine z_bipush (v := 10) S dX0_chance_89 (by decide) ?_
          refine z_iload_n S 3 dX0_chance_91 rfl rfl ?_
          refine z_isub S dX0_chance_92 ?_
          refine z_iload S 6 dX0_chance_93 rfl ?_
          refine z_iload S 0 dX0_chance_95 rfl ?_
          refine z_isub S dX0_chance_97 ?_
          refine z_callSI (rc := r_X0_power) [.int ((10 : Int32) - x2), .int (x5 - q4)] S mo_X0_power wd591 wd590 rfl rfl (by decide) (z_room0 S M (by rfl) (by rfl)) rfl (Nat.le_of_ble_eq_true rfl) rfl dX0_chance_98 (fun q => q) (fun _ => P) (fun q hq => m_X0_power (xl x) E _ _ _  q hq) hf (fun q6 hf => ?_)
          refine z_imul S dX0_chance_101 ?_
          refine z_iadd S dX0_chance_102 ?_
          refine z_istore (lv' := [(7, .int (x7 + (q5 * q6))), (9, .int q4), (0, .ref (ad E x0)), (1, .int x1), (2, .int x2), (3, .int x3), (4, .int x4), (5, .int x5), (6, .int x6), (8, .int x8)]) S dX0_chance_103 (by decide) rfl ?_
          refine z_iinc (v := (x8 + (1 : Int32))) (lv' := [(8, .int (x8 + (1 : Int32))), (7, .int (x7 + (q5 * q6))), (9, .int q4), (0, .ref (ad E x0)), (1, .int x1), (2, .int x2), (3, .int x3), (4, .int x4), (5, .int x5), (6, .int x6)]) S 9 dX0_chance_105 rfl (by rfl) (by decide) rfl ?_
          refine z_goto (tgt := 29) S dX0_chance_108 (by decide) ?_
          refine z_sub [3, 4, 5, 6, 7, 8, 9, 1, 0] rfl ?_
          exact ih (x7 + (q5 * q6)) (x8 + (1 : Int32)) hf
        · refine z_iinc (v := (x8 + (1 : Int32))) (lv' := [(8, .int (x8 + (1 : Int32))), (0, .ref (ad E x0)), (1, .int x1), (2, .int x2), (3, .int x3), (4, .int x4), (5, .int x5), (6, .int x6), (7, .int x7)]) S 8 dX0_chance_105 rfl (by rfl) (by decide) rfl ?_
          refine z_goto (tgt := 29) S dX0_chance_108 (by decide) ?_
          refine z_sub [1, 2, 3, 4, 5, 6, 7, 8, 0] rfl ?_
          exact ih x7 (x8 + (1 : Int32)) hf
      · refine z_iinc (v := (x8 + (1 : Int32))) (lv' := [(8, .int (x8 + (1 : Int32))), (0, .ref (ad E x0)), (1, .int x1), (2, .int x2), (3, .int x3), (4, .int x4), (5, .int x5), (6, .int x6), (7, .int x7)]) S 8 dX0_chance_105 rfl (by rfl) (by decide) rfl ?_
        refine z_goto (tgt := 29) S dX0_chance_108 (by decide) ?_
        refine z_sub [1, 2, 3, 4, 5, 6, 7, 8, 0] rfl ?_
        exact ih x7 (x8 + (1 : Int32)) hf
def f_X0_chance (P : PH) (x0 : Nat) (x1 : Int32) (x2 : Int32) (x3 : Int32) : Option Int32 :=
  ((f_X0_othersThan P x0 x1).bind fun q7 => ((f_J6_bitCount_0f7a4 P q7).bind fun q8 => ((f_X0_power P (10 : Int32) q8).bind fun q9 => f_X0_chance_L29 (fun v10 => ((f_X0_commonDivisor P q9 v10).bind fun q11 => (if (1 : Int32) ≤ q11 then (if x3 = 0 then (if q11 = 0 then none else some (q9 / q11)) else (if q11 = 0 then none else some (v10 / q11))) else some (-1 : Int32)))) P x0 x1 x2 x3 q7 q8 q9 1000 (0 : Int32) (0 : Int32))))
theorem w_X0_chance {x : Fx} {E : Ev} (S : ZS x E r_X0_chance cX0_chance 10 RX0 (some .int)) (M : ZM x E) (P : PH) (x0 : Nat) (x1 : Int32) (x2 : Int32) (x3 : Int32) (h_x0 : ok x0 1 0) (r : Int32) (hf : f_X0_chance P x0 x1 x2 x3 = some r) : Wz x E 10 (QI E x r P) P 0 [(0, .ref (ad E x0)), (1, .int x1), (2, .int x2), (3, .int x3)] [] := by
  unfold f_X0_chance at hf
  refine z_aload_n S 0 dX0_chance_0 rfl rfl ?_
  refine z_iload_n S 1 dX0_chance_1 rfl rfl ?_
  refine z_callSI (rc := r_X0_othersThan) [.ref (ad E x0), .int x1] S mo_X0_othersThan wd579 wd578 rfl rfl (by decide) (z_room0 S M (by rfl) (by rfl)) rfl (Nat.le_of_ble_eq_true rfl) rfl dX0_chance_2 (fun q => q) (fun _ => P) (fun q hq => m_X0_othersThan (xl x) E _ _ _ h_x0 q hq) hf (fun q7 hf => ?_)
  refine z_istore (lv' := [(4, .int q7), (0, .ref (ad E x0)), (1, .int x1), (2, .int x2), (3, .int x3)]) S dX0_chance_5 (by decide) rfl ?_
  refine z_iload S 0 dX0_chance_7 rfl ?_
  refine z_callSI (rc := r_J6_bitCount_0f7a4) [.int q7] S mo_J6_bitCount_0f7a4 wd455 wd581 rfl rfl (by decide) (z_room0 S M (by rfl) (by rfl)) rfl (Nat.le_of_ble_eq_true rfl) rfl dX0_chance_9 (fun q => q) (fun _ => P) (fun q hq => m_J6_bitCount_0f7a4 (xl x) E _ _  q hq) hf (fun q8 hf => ?_)
  refine z_istore (lv' := [(5, .int q8), (4, .int q7), (0, .ref (ad E x0)), (1, .int x1), (2, .int x2), (3, .int x3)]) S dX0_chance_12 (by decide) rfl ?_
  refine z_bipush (v := 10) S dX0_chance_14 (by decide) ?_
  refine z_iload S 0 dX0_chance_16 rfl ?_
  refine z_callSI (rc := r_X0_power) [.int (10 : Int32), .int q8] S mo_X0_power wd591 wd590 rfl rfl (by decide) (z_room0 S M (by rfl) (by rfl)) rfl (Nat.le_of_ble_eq_true rfl) rfl dX0_chance_18 (fun q => q) (fun _ => P) (fun q hq => m_X0_power (xl x) E _ _ _  q hq) hf (fun q9 hf => ?_)
  refine z_istore (lv' := [(6, .int q9), (5, .int q8), (4, .int q7), (0, .ref (ad E x0)), (1, .int x1), (2, .int x2), (3, .int x3)]) S dX0_chance_21 (by decide) rfl ?_
  refine z_iconst (v := 0) S dX0_chance_23 (by decide) ?_
  refine z_istore (lv' := [(7, .int (0 : Int32)), (6, .int q9), (5, .int q8), (4, .int q7), (0, .ref (ad E x0)), (1, .int x1), (2, .int x2), (3, .int x3)]) S dX0_chance_24 (by decide) rfl ?_
  refine z_iconst (v := 0) S dX0_chance_26 (by decide) ?_
  refine z_istore (lv' := [(8, .int (0 : Int32)), (7, .int (0 : Int32)), (6, .int q9), (5, .int q8), (4, .int q7), (0, .ref (ad E x0)), (1, .int x1), (2, .int x2), (3, .int x3)]) S dX0_chance_27 (by decide) rfl ?_
  refine z_sub [5, 6, 7, 8, 4, 3, 2, 1, 0] rfl ?_
  refine w_X0_chance_L29 S M _ x0 x1 x2 x3 q7 q8 q9 h_x0 r (fun v10 hf => ?_) 1000 (0 : Int32) (0 : Int32) hf
  refine z_iload S 1 dX0_chance_111 rfl ?_
  refine z_iload S 2 dX0_chance_113 rfl ?_
  refine z_callSI (rc := r_X0_commonDivisor) [.int q9, .int v10] S mo_X0_commonDivisor wd595 wd594 rfl rfl (by decide) (z_room0 S M (by rfl) (by rfl)) rfl (Nat.le_of_ble_eq_true rfl) rfl dX0_chance_115 (fun q => q) (fun _ => P) (fun q hq => m_X0_commonDivisor (xl x) E _ _ _  q hq) hf (fun q11 hf => ?_)
  refine z_istore (lv' := [(8, .int q11), (3, .int x3), (6, .int q9), (7, .int v10)]) S dX0_chance_118 (by decide) rfl ?_
  refine z_iload S 0 dX0_chance_120 rfl ?_
  refine z_iconst (v := 1) S dX0_chance_122 (by decide) ?_
  refine z_icmp_ge (tgt := 128) S dX0_chance_123 (by decide) hf (fun hf => ?_) (fun hf => ?_)
  · refine z_iload_n S 1 dX0_chance_128 rfl rfl ?_
    refine z_if_eq (tgt := 137) S dX0_chance_129 (by decide) hf (fun hf => ?_) (fun hf => ?_)
    · refine z_iload S 2 dX0_chance_137 rfl ?_
      refine z_iload S 0 dX0_chance_139 rfl ?_
      refine z_idiv S dX0_chance_141 hf (fun hf => ?_)
      exact z_iretP (v := (q9 / q11)) S M rfl dX0_chance_142 hf
    · refine z_iload S 3 dX0_chance_132 rfl ?_
      refine z_goto (tgt := 139) S dX0_chance_134 (by decide) ?_
      refine z_iload S 0 dX0_chance_139 rfl ?_
      refine z_idiv S dX0_chance_141 hf (fun hf => ?_)
      exact z_iretP (v := (v10 / q11)) S M rfl dX0_chance_142 hf
  · refine z_iconst (v := (-1 : Int32)) S dX0_chance_126 (by decide) ?_
    exact z_iretP (v := (-1 : Int32)) S M rfl dX0_chance_127 hf
theorem m_X0_chance (l : Launch) (E : Ev) (P : PH) (x0 : Nat) (x1 : Int32) (x2 : Int32) (x3 : Int32) (h_x0 : ok x0 1 0) (r : Int32) (hf : f_X0_chance P x0 x1 x2 x3 = some r) : CtI l E yX0_chance cX0_chance 10 (some .int) r_X0_chance [.ref (ad E x0), .int x1, .int x2, .int x3] P r P :=
  z_body (own := RX0) (by decide +kernel) rfl (Nat.le_of_ble_eq_true rfl) rfl (fun x _ S M => w_X0_chance S M P x0 x1 x2 x3 h_x0 r hf)
-- yX3_firstDayCutOff
theorem dX3_firstDayCutOff_0 : decode cX3_firstDayCutOff 0 = .ok (.aload_n 0, 1) := by decide +kernel
theorem dX3_firstDayCutOff_1 : decode cX3_firstDayCutOff 1 = .ok (.getfield 9, 3) := by decide +kernel
theorem dX3_firstDayCutOff_4 : decode cX3_firstDayCutOff 4 = .ok (.getfield 15, 3) := by decide +kernel
theorem dX3_firstDayCutOff_7 : decode cX3_firstDayCutOff 7 = .ok (.istore_n 2, 1) := by decide +kernel
theorem dX3_firstDayCutOff_8 : decode cX3_firstDayCutOff 8 = .ok (.iload_n 2, 1) := by decide +kernel
theorem dX3_firstDayCutOff_9 : decode cX3_firstDayCutOff 9 = .ok (.bipush 99, 2) := by decide +kernel
theorem dX3_firstDayCutOff_11 : decode cX3_firstDayCutOff 11 = .ok (.if_icmp .gt 28, 3) := by decide +kernel
theorem dX3_firstDayCutOff_14 : decode cX3_firstDayCutOff 14 = .ok (.aload_n 0, 1) := by decide +kernel
theorem dX3_firstDayCutOff_15 : decode cX3_firstDayCutOff 15 = .ok (.iload_n 1, 1) := by decide +kernel
theorem dX3_firstDayCutOff_16 : decode cX3_firstDayCutOff 16 = .ok (.aload_n 0, 1) := by decide +kernel
theorem dX3_firstDayCutOff_17 : decode cX3_firstDayCutOff 17 = .ok (.getfield 9, 3) := by decide +kernel
theorem dX3_firstDayCutOff_20 : decode cX3_firstDayCutOff 20 = .ok (.getfield 21, 3) := by decide +kernel
theorem dX3_firstDayCutOff_23 : decode cX3_firstDayCutOff 23 = .ok (.iload_n 2, 1) := by decide +kernel
theorem dX3_firstDayCutOff_24 : decode cX3_firstDayCutOff 24 = .ok (.iconst 0, 1) := by decide +kernel
theorem dX3_firstDayCutOff_25 : decode cX3_firstDayCutOff 25 = .ok (.invokevirtual 24, 3) := by decide +kernel
theorem dX3_firstDayCutOff_28 : decode cX3_firstDayCutOff 28 = .ok (.ifCond .eq 5, 3) := by decide +kernel
theorem dX3_firstDayCutOff_31 : decode cX3_firstDayCutOff 31 = .ok (.iload_n 2, 1) := by decide +kernel
theorem dX3_firstDayCutOff_32 : decode cX3_firstDayCutOff 32 = .ok (.ireturn, 1) := by decide +kernel
theorem dX3_firstDayCutOff_33 : decode cX3_firstDayCutOff 33 = .ok (.iinc 2 1, 3) := by decide +kernel
theorem dX3_firstDayCutOff_36 : decode cX3_firstDayCutOff 36 = .ok (.goto (-28), 3) := by decide +kernel
theorem dX3_firstDayCutOff_39 : decode cX3_firstDayCutOff 39 = .ok (.bipush (-9), 2) := by decide +kernel
theorem dX3_firstDayCutOff_41 : decode cX3_firstDayCutOff 41 = .ok (.ireturn, 1) := by decide +kernel
def r_X3_firstDayCutOff : Room := { frames := 4, cells := 0, slots := 0, locals := 97 }
def f_X3_firstDayCutOff_L8 (K0 : Int32 → Option Int32) (K1 : Option Int32) (P : PH) (x0 : Nat) (x1 : Int32) : Nat → Int32 → Option Int32
  | 0, _ => none
  | n + 1, x2 =>
    (if (99 : Int32) < x2 then K1 else ((f_X2_isCutOff P x0 x1 (P.1 (P.2.2 x0 5) 1) x2 (0 : Int32)).bind fun q2 => (if (b2i q2) = 0 then f_X3_firstDayCutOff_L8 K0 K1 P x0 x1 n (x2 + (1 : Int32)) else K0 x2)))
theorem w_X3_firstDayCutOff_L8 {x : Fx} {E : Ev} (S : ZS x E r_X3_firstDayCutOff cX3_firstDayCutOff 3 RX3 (some .int)) (M : ZM x E) {K0 : Int32 → Option Int32} {K1 : Option Int32} (P : PH) (x0 : Nat) (x1 : Int32) (h_x0 : ok x0 1 0) (r : Int32) (hK0 : ∀ (y2 : Int32), K0 y2 = some r → Wz x E 3 (QI E x r P) P 31 [(2, .int y2)] []) (hK1 : K1  = some r → Wz x E 3 (QI E x r P) P 39 [] []) : ∀ (n : Nat) (x2 : Int32), f_X3_firstDayCutOff_L8 K0 K1 P x0 x1 n x2 = some r → Wz x E 3 (QI E x r P) P 8 [(0, .ref (ad E x0)), (1, .int x1), (2, .int x2)] [] := by
  intro n
  induction n with
  | zero => intro x2 hf; cases hf
  | succ n ih =>
    intro x2 hf
    unfold f_X3_firstDayCutOff_L8 at hf
    refine z_iload_n S 2 dX3_firstDayCutOff_8 rfl rfl ?_
    refine z_bipush (v := 99) S dX3_firstDayCutOff_9 (by decide) ?_
    refine z_icmp_gt (tgt := 39) S dX3_firstDayCutOff_11 (by decide) hf (fun hf => ?_) (fun hf => ?_)
    · refine z_sub [] rfl ?_
      exact hK1  hf
    · refine z_aload_n S 0 dX3_firstDayCutOff_14 rfl rfl ?_
      refine z_iload_n S 1 dX3_firstDayCutOff_15 rfl rfl ?_
      refine z_aload_n S 0 dX3_firstDayCutOff_16 rfl rfl ?_
      refine z_getR (K' := 2) (n' := 0) S cf_1 h_x0 5 (by decide) rfl rfl rfl wd231 dX3_firstDayCutOff_17 (fun h1 => ?_)
      refine z_getI S cf_2 h1 1 (by decide) rfl wd172 dX3_firstDayCutOff_20 ?_
      refine z_iload_n S 2 dX3_firstDayCutOff_23 rfl rfl ?_
      refine z_iconst (v := 0) S dX3_firstDayCutOff_24 (by decide) ?_
      refine z_callVI (rc := r_X2_isCutOff) [.int x1, .int (P.1 (P.2.2 x0 5) 1), .int x2, .int (0 : Int32)] S mo_X2_isCutOff wd400 wd401 wd494 h_x0 (by decide) cl_1 rfl rfl (by decide) (z_room0 S M (by rfl) (by rfl)) rfl (Nat.le_of_ble_eq_true rfl) rfl dX3_firstDayCutOff_25 (fun q => b2i q) (fun _ => P) (fun q hq => m_X2_isCutOff (xl x) E _ _ _ _ _ _ h_x0 q hq) hf (fun q2 hf => ?_)
      refine z_if_eq (tgt := 33) S dX3_firstDayCutOff_28 (by decide) hf (fun hf => ?_) (fun hf => ?_)
      · refine z_iinc (v := (x2 + (1 : Int32))) (lv' := [(2, .int (x2 + (1 : Int32))), (0, .ref (ad E x0)), (1, .int x1)]) S 2 dX3_firstDayCutOff_33 rfl (by rfl) (by decide) rfl ?_
        refine z_goto (tgt := 8) S dX3_firstDayCutOff_36 (by decide) ?_
        refine z_sub [1, 2, 0] rfl ?_
        exact ih (x2 + (1 : Int32)) hf
      · refine z_sub [2] rfl ?_
        exact hK0 x2 hf
def f_X3_firstDayCutOff (P : PH) (x0 : Nat) (x1 : Int32) : Option Int32 :=
  f_X3_firstDayCutOff_L8 (fun v4 => some v4) (some (-9 : Int32)) P x0 x1 1000 (P.1 (P.2.2 x0 5) 0)
theorem w_X3_firstDayCutOff {x : Fx} {E : Ev} (S : ZS x E r_X3_firstDayCutOff cX3_firstDayCutOff 3 RX3 (some .int)) (M : ZM x E) (P : PH) (x0 : Nat) (x1 : Int32) (h_x0 : ok x0 1 0) (r : Int32) (hf : f_X3_firstDayCutOff P x0 x1 = some r) : Wz x E 3 (QI E x r P) P 0 [(0, .ref (ad E x0)), (1, .int x1)] [] := by
  unfold f_X3_firstDayCutOff at hf
  refine z_aload_n S 0 dX3_firstDayCutOff_0 rfl rfl ?_
  refine z_getR (K' := 2) (n' := 0) S cf_1 h_x0 5 (by decide) rfl rfl rfl wd231 dX3_firstDayCutOff_1 (fun h3 => ?_)
  refine z_getI S cf_2 h3 0 (by decide) rfl wd165 dX3_firstDayCutOff_4 ?_
  refine z_istore_n (lv' := [(2, .int (P.1 (P.2.2 x0 5) 0)), (0, .ref (ad E x0)), (1, .int x1)]) S dX3_firstDayCutOff_7 rfl (by decide) rfl ?_
  refine z_sub [1, 2, 0] rfl ?_
  refine w_X3_firstDayCutOff_L8 S M _ x0 x1 h_x0 r (fun v4 hf => ?_) (fun hf => ?_) 1000 (P.1 (P.2.2 x0 5) 0) hf
  · refine z_iload_n S 0 dX3_firstDayCutOff_31 rfl rfl ?_
    exact z_iretP (v := v4) S M rfl dX3_firstDayCutOff_32 hf
  · refine z_bipush (v := (-9 : Int32)) S dX3_firstDayCutOff_39 (by decide) ?_
    exact z_iretP (v := (-9 : Int32)) S M rfl dX3_firstDayCutOff_41 hf
theorem m_X3_firstDayCutOff (l : Launch) (E : Ev) (P : PH) (x0 : Nat) (x1 : Int32) (h_x0 : ok x0 1 0) (r : Int32) (hf : f_X3_firstDayCutOff P x0 x1 = some r) : CtI l E yX3_firstDayCutOff cX3_firstDayCutOff 3 (some .int) r_X3_firstDayCutOff [.ref (ad E x0), .int x1] P r P :=
  z_body (own := RX3) (by decide +kernel) rfl (Nat.le_of_ble_eq_true rfl) rfl (fun x _ S M => w_X3_firstDayCutOff S M P x0 x1 h_x0 r hf)
-- yX3_fewestRights
theorem dX3_fewestRights_0 : decode cX3_fewestRights 0 = .ok (.aload_n 0, 1) := by decide +kernel
theorem dX3_fewestRights_1 : decode cX3_fewestRights 1 = .ok (.iload_n 1, 1) := by decide +kernel
theorem dX3_fewestRights_2 : decode cX3_fewestRights 2 = .ok (.invokevirtual 28, 3) := by decide +kernel
theorem dX3_fewestRights_5 : decode cX3_fewestRights 5 = .ok (.istore_n 2, 1) := by decide +kernel
theorem dX3_fewestRights_6 : decode cX3_fewestRights 6 = .ok (.bipush (-9), 2) := by decide +kernel
theorem dX3_fewestRights_8 : decode cX3_fewestRights 8 = .ok (.istore_n 3, 1) := by decide +kernel
theorem dX3_fewestRights_9 : decode cX3_fewestRights 9 = .ok (.iconst 0, 1) := by decide +kernel
theorem dX3_fewestRights_10 : decode cX3_fewestRights 10 = .ok (.istore 4, 2) := by decide +kernel
theorem dX3_fewestRights_12 : decode cX3_fewestRights 12 = .ok (.iload 4, 2) := by decide +kernel
theorem dX3_fewestRights_14 : decode cX3_fewestRights 14 = .ok (.iconst 1, 1) := by decide +kernel
theorem dX3_fewestRights_15 : decode cX3_fewestRights 15 = .ok (.aload_n 0, 1) := by decide +kernel
theorem dX3_fewestRights_16 : decode cX3_fewestRights 16 = .ok (.getfield 32, 3) := by decide +kernel
theorem dX3_fewestRights_19 : decode cX3_fewestRights 19 = .ok (.ishl, 1) := by decide +kernel
theorem dX3_fewestRights_20 : decode cX3_fewestRights 20 = .ok (.if_icmp .ge 54, 3) := by decide +kernel
theorem dX3_fewestRights_23 : decode cX3_fewestRights 23 = .ok (.iload_n 3, 1) := by decide +kernel
theorem dX3_fewestRights_24 : decode cX3_fewestRights 24 = .ok (.bipush (-9), 2) := by decide +kernel
theorem dX3_fewestRights_26 : decode cX3_fewestRights 26 = .ok (.if_icmp .eq 15, 3) := by decide +kernel
theorem dX3_fewestRights_29 : decode cX3_fewestRights 29 = .ok (.iload 4, 2) := by decide +kernel
theorem dX3_fewestRights_31 : decode cX3_fewestRights 31 = .ok (.invokestatic 35, 3) := by decide +kernel
theorem dX3_fewestRights_34 : decode cX3_fewestRights 34 = .ok (.iload_n 3, 1) := by decide +kernel
theorem dX3_fewestRights_35 : decode cX3_fewestRights 35 = .ok (.invokestatic 35, 3) := by decide +kernel
theorem dX3_fewestRights_38 : decode cX3_fewestRights 38 = .ok (.if_icmp .ge 7, 3) := by decide +kernel
theorem dX3_fewestRights_41 : decode cX3_fewestRights 41 = .ok (.iconst 1, 1) := by decide +kernel
theorem dX3_fewestRights_42 : decode cX3_fewestRights 42 = .ok (.goto 4, 3) := by decide +kernel
theorem dX3_fewestRights_45 : decode cX3_fewestRights 45 = .ok (.iconst 0, 1) := by decide +kernel
theorem dX3_fewestRights_46 : decode cX3_fewestRights 46 = .ok (.istore 5, 2) := by decide +kernel
theorem dX3_fewestRights_48 : decode cX3_fewestRights 48 = .ok (.iload 5, 2) := by decide +kernel
theorem dX3_fewestRights_50 : decode cX3_fewestRights 50 = .ok (.ifCond .eq 18, 3) := by decide +kernel
theorem dX3_fewestRights_53 : decode cX3_fewestRights 53 = .ok (.aload_n 0, 1) := by decide +kernel
theorem dX3_fewestRights_54 : decode cX3_fewestRights 54 = .ok (.iload_n 1, 1) := by decide +kernel
theorem dX3_fewestRights_55 : decode cX3_fewestRights 55 = .ok (.iload_n 2, 1) := by decide +kernel
theorem dX3_fewestRights_56 : decode cX3_fewestRights 56 = .ok (.iload 4, 2) := by decide +kernel
theorem dX3_fewestRights_58 : decode cX3_fewestRights 58 = .ok (.ior, 1) := by decide +kernel
theorem dX3_fewestRights_59 : decode cX3_fewestRights 59 = .ok (.invokevirtual 40, 3) := by decide +kernel
theorem dX3_fewestRights_62 : decode cX3_fewestRights 62 = .ok (.ifCond .ne 6, 3) := by decide +kernel
theorem dX3_fewestRights_65 : decode cX3_fewestRights 65 = .ok (.iload 4, 2) := by decide +kernel
theorem dX3_fewestRights_67 : decode cX3_fewestRights 67 = .ok (.istore_n 3, 1) := by decide +kernel
theorem dX3_fewestRights_68 : decode cX3_fewestRights 68 = .ok (.iinc 4 1, 3) := by decide +kernel
theorem dX3_fewestRights_71 : decode cX3_fewestRights 71 = .ok (.goto (-59), 3) := by decide +kernel
theorem dX3_fewestRights_74 : decode cX3_fewestRights 74 = .ok (.iload_n 3, 1) := by decide +kernel
theorem dX3_fewestRights_75 : decode cX3_fewestRights 75 = .ok (.ireturn, 1) := by decide +kernel
def r_X3_fewestRights : Room := { frames := 4, cells := 0, slots := 0, locals := 94 }
def f_X3_fewestRights_L12 (K : Int32 → Option Int32) (P : PH) (x0 : Nat) (x1 : Int32) (x2 : Int32) : Nat → Int32 → Int32 → Option Int32
  | 0, _, _ => none
  | n + 1, x3, x4 =>
    (if ((1 : Int32) <<< ((P.1 x0 1) &&& 31)) ≤ x4 then K x3 else (if x3 = (-9 : Int32) then (if (1 : Int32) = 0 then f_X3_fewestRights_L12 K P x0 x1 x2 n x3 (x4 + (1 : Int32)) else ((f_X2_lacks P x0 x1 (x2 ||| x4)).bind fun q1 => (if (b2i q1) = 0 then f_X3_fewestRights_L12 K P x0 x1 x2 n x4 (x4 + (1 : Int32)) else f_X3_fewestRights_L12 K P x0 x1 x2 n x3 (x4 + (1 : Int32))))) else ((f_J6_bitCount_0f7a4 P x4).bind fun q2 => ((f_J6_bitCount_0f7a4 P x3).bind fun q3 => (if q3 ≤ q2 then (if (0 : Int32) = 0 then f_X3_fewestRights_L12 K P x0 x1 x2 n x3 (x4 + (1 : Int32)) else ((f_X2_lacks P x0 x1 (x2 ||| x4)).bind fun q4 => (if (b2i q4) = 0 then f_X3_fewestRights_L12 K P x0 x1 x2 n x4 (x4 + (1 : Int32)) else f_X3_fewestRights_L12 K P x0 x1 x2 n x3 (x4 + (1 : Int32))))) else (if (1 : Int32) = 0 then f_X3_fewestRights_L12 K P x0 x1 x2 n x3 (x4 + (1 : Int32)) else ((f_X2_lacks P x0 x1 (x2 ||| x4)).bind fun q5 => (if (b2i q5) = 0 then f_X3_fewestRights_L12 K P x0 x1 x2 n x4 (x4 + (1 : Int32)) else f_X3_fewestRights_L12 K P x0 x1 x2 n x3 (x4 + (1 : Int32))))))))))
theorem w_X3_fewestRights_L12 {x : Fx} {E : Ev} (S : ZS x E r_X3_fewestRights cX3_fewestRights 6 RX3 (some .int)) (M : ZM x E) {K : Int32 → Option Int32} (P : PH) (x0 : Nat) (x1 : Int32) (x2 : Int32) (h_x0 : ok x0 1 0) (r : Int32) (hK : ∀ (y3 : Int32), K y3 = some r → Wz x E 6 (QI E x r P) P 74 [(3, .int y3)] []) : ∀ (n : Nat) (x3 : Int32) (x4 : Int32), f_X3_fewestRights_L12 K P x0 x1 x2 n x3 x4 = some r → Wz x E 6 (QI E x r P) P 12 [(0, .ref (ad E x0)), (1, .int x1), (2, .int x2), (3, .int x3), (4, .int x4)] [] := by
  intro n
  induction n with
  | zero => intro x3 x4 hf; cases hf
  | succ n ih =>
    intro x3 x4 hf
    unfold f_X3_fewestRights_L12 at hf
    refine z_iload S 4 dX3_fewestRights_12 rfl ?_
    refine z_iconst (v := 1) S dX3_fewestRights_14 (by decide) ?_
    refine z_aload_n S 0 dX3_fewestRights_15 rfl rfl ?_
    refine z_getI S cf_1 h_x0 1 (by decide) rfl wd218 dX3_fewestRights_16 ?_
    refine z_ishl S dX3_fewestRights_19 ?_
    refine z_icmp_ge (tgt := 74) S dX3_fewestRights_20 (by decide) hf (fun hf => ?_) (fun hf => ?_)
    · refine z_sub [3] rfl ?_
      exact hK x3 hf
    · refine z_iload_n S 3 dX3_fewestRights_23 rfl rfl ?_
      refine z_bipush (v := (-9 : Int32)) S dX3_fewestRights_24 (by decide) ?_
      refine z_icmp_eq (tgt := 41) S dX3_fewestRights_26 (by decide) hf (fun hf => ?_) (fun hf => ?_)
      · refine z_iconst (v := 1) S dX3_fewestRights_41 (by decide) ?_
        refine z_goto (tgt := 46) S dX3_fewestRights_42 (by decide) ?_
        refine z_istore (lv' := [(5, .int (1 : Int32)), (0, .ref (ad E x0)), (1, .int x1), (2, .int x2), (3, .int x3), (4, .int x4)]) S dX3_fewestRights_46 (by decide) rfl ?_
        refine z_iload S 0 dX3_fewestRights_48 rfl ?_
        refine z_if_eq (tgt := 68) S dX3_fewestRights_50 (by decide) hf (fun hf => ?_) (fun hf => ?_)
        · refine z_iinc (v := (x4 + (1 : Int32))) (lv' := [(4, .int (x4 + (1 : Int32))), (5, .int (1 : Int32)), (0, .ref (ad E x0)), (1, .int x1), (2, .int x2), (3, .int x3)]) S 5 dX3_fewestRights_68 rfl (by rfl) (by decide) rfl ?_
          refine z_goto (tgt := 12) S dX3_fewestRights_71 (by decide) ?_
          refine z_sub [2, 3, 4, 5, 0] rfl ?_
          exact ih x3 (x4 + (1 : Int32)) hf
        · refine z_aload_n S 1 dX3_fewestRights_53 rfl rfl ?_
          refine z_iload_n S 2 dX3_fewestRights_54 rfl rfl ?_
          refine z_iload_n S 3 dX3_fewestRights_55 rfl rfl ?_
          refine z_iload S 5 dX3_fewestRights_56 rfl ?_
          refine z_ior S dX3_fewestRights_58 ?_
          refine z_callVI (rc := r_X2_lacks) [.int x1, .int (x2 ||| x4)] S mo_X2_lacks wd404 wd405 wd508 h_x0 (by decide) cl_1 rfl rfl (by decide) (z_room0 S M (by rfl) (by rfl)) rfl (Nat.le_of_ble_eq_true rfl) rfl dX3_fewestRights_59 (fun q => b2i q) (fun _ => P) (fun q hq => m_X2_lacks (xl x) E _ _ _ _ h_x0 q hq) hf (fun q1 hf => ?_)
          refine z_if_ne (tgt := 68) S dX3_fewestRights_62 (by decide) hf (fun hf => ?_) (fun hf => ?_)
          · refine z_iload S 5 dX3_fewestRights_65 rfl ?_
            refine z_istore_n (lv' := [(3, .int x4), (5, .int (1 : Int32)), (0, .ref (ad E x0)), (1, .int x1), (2, .int x2), (4, .int x4)]) S dX3_fewestRights_67 rfl (by decide) rfl ?_
            refine z_iinc (v := (x4 + (1 : Int32))) (lv' := [(4, .int (x4 + (1 : Int32))), (3, .int x4), (5, .int (1 : Int32)), (0, .ref (ad E x0)), (1, .int x1), (2, .int x2)]) S 5 dX3_fewestRights_68 rfl (by rfl) (by decide) rfl ?_
            refine z_goto (tgt := 12) S dX3_fewestRights_71 (by decide) ?_
            refine z_sub [3, 4, 5, 1, 0] rfl ?_
            exact ih x4 (x4 + (1 : Int32)) hf
          · refine z_iinc (v := (x4 + (1 : Int32))) (lv' := [(4, .int (x4 + (1 : Int32))), (5, .int (1 : Int32)), (0, .ref (ad E x0)), (1, .int x1), (2, .int x2), (3, .int x3)]) S 5 dX3_fewestRights_68 rfl (by rfl) (by decide) rfl ?_
            refine z_goto (tgt := 12) S dX3_fewestRights_71 (by decide) ?_
            refine z_sub [2, 3, 4, 5, 0] rfl ?_
            exact ih x3 (x4 + (1 : Int32)) hf
      · refine z_iload S 4 dX3_fewestRights_29 rfl ?_
        refine z_callSI (rc := r_J6_bitCount_0f7a4) [.int x4] S mo_J6_bitCount_0f7a4 wd455 wd507 rfl rfl (by decide) (z_room0 S M (by rfl) (by rfl)) rfl (Nat.le_of_ble_eq_true rfl) rfl dX3_fewestRights_31 (fun q => q) (fun _ => P) (fun q hq => m_J6_bitCount_0f7a4 (xl x) E _ _  q hq) hf (fun q2 hf => ?_)
        refine z_iload_n S 3 dX3_fewestRights_34 rfl rfl ?_
        refine z_callSI (rc := r_J6_bitCount_0f7a4) [.int x3] S mo_J6_bitCount_0f7a4 wd455 wd507 rfl rfl (by decide) (z_room0 S M (by rfl) (by rfl)) rfl (Nat.le_of_ble_eq_true rfl) rfl dX3_fewestRights_35 (fun q => q) (fun _ => P) (fun q hq => m_J6_bitCount_0f7a4 (xl x) E _ _  q hq) hf (fun q3 hf => ?_)
        refine z_icmp_ge (tgt := 45) S dX3_fewestRights_38 (by decide) hf (fun hf => ?_) (fun hf => ?_)
        · refine z_iconst (v := 0) S dX3_fewestRights_45 (by decide) ?_
          refine z_istore (lv' := [(5, .int (0 : Int32)), (0, .ref (ad E x0)), (1, .int x1), (2, .int x2), (3, .int x3), (4, .int x4)]) S dX3_fewestRights_46 (by decide) rfl ?_
          refine z_iload S 0 dX3_fewestRights_48 rfl ?_
          refine z_if_eq (tgt := 68) S dX3_fewestRights_50 (by decide) hf (fun hf => ?_) (fun hf => ?_)
          · refine z_iinc (v := (x4 + (1 : Int32))) (lv' := [(4, .int (x4 + (1 : Int32))), (5, .int (0 : Int32)), (0, .ref (ad E x0)), (1, .int x1), (2, .int x2), (3, .int x3)]) S 5 dX3_fewestRights_68 rfl (by rfl) (by decide) rfl ?_
            refine z_goto (tgt := 12) S dX3_fewestRights_71 (by decide) ?_
            refine z_sub [2, 3, 4, 5, 0] rfl ?_
            exact ih x3 (x4 + (1 : Int32)) hf
          · refine z_aload_n S 1 dX3_fewestRights_53 rfl rfl ?_
            refine z_iload_n S 2 dX3_fewestRights_54 rfl rfl ?_
            refine z_iload_n S 3 dX3_fewestRights_55 rfl rfl ?_
            refine z_iload S 5 dX3_fewestRights_56 rfl ?_
            refine z_ior S dX3_fewestRights_58 ?_
            refine z_callVI (rc := r_X2_lacks) [.int x1, .int (x2 ||| x4)] S mo_X2_lacks wd404 wd405 wd508 h_x0 (by decide) cl_1 rfl rfl (by decide) (z_room0 S M (by rfl) (by rfl)) rfl (Nat.le_of_ble_eq_true rfl) rfl dX3_fewestRights_59 (fun q => b2i q) (fun _ => P) (fun q hq => m_X2_lacks (xl x) E _ _ _ _ h_x0 q hq) hf (fun q4 hf => ?_)
            refine z_if_ne (tgt := 68) S dX3_fewestRights_62 (by decide) hf (fun hf => ?_) (fun hf => ?_)
            · refine z_iload S 5 dX3_fewestRights_65 rfl ?_
              refine z_istore_n (lv' := [(3, .int x4), (5, .int (0 : Int32)), (0, .ref (ad E x0)), (1, .int x1), (2, .int x2), (4, .int x4)]) S dX3_fewestRights_67 rfl (by decide) rfl ?_
              refine z_iinc (v := (x4 + (1 : Int32))) (lv' := [(4, .int (x4 + (1 : Int32))), (3, .int x4), (5, .int (0 : Int32)), (0, .ref (ad E x0)), (1, .int x1), (2, .int x2)]) S 5 dX3_fewestRights_68 rfl (by rfl) (by decide) rfl ?_
              refine z_goto (tgt := 12) S dX3_fewestRights_71 (by decide) ?_
              refine z_sub [3, 4, 5, 1, 0] rfl ?_
              exact ih x4 (x4 + (1 : Int32)) hf
            · refine z_iinc (v := (x4 + (1 : Int32))) (lv' := [(4, .int (x4 + (1 : Int32))), (5, .int (0 : Int32)), (0, .ref (ad E x0)), (1, .int x1), (2, .int x2), (3, .int x3)]) S 5 dX3_fewestRights_68 rfl (by rfl) (by decide) rfl ?_
              refine z_goto (tgt := 12) S dX3_fewestRights_71 (by decide) ?_
              refine z_sub [2, 3, 4, 5, 0] rfl ?_
              exact ih x3 (x4 + (1 : Int32)) hf
        · refine z_iconst (v := 1) S dX3_fewestRights_41 (by decide) ?_
          refine z_goto (tgt := 46) S dX3_fewestRights_42 (by decide) ?_
          refine z_istore (lv' := [(5, .int (1 : Int32)), (0, .ref (ad E x0)), (1, .int x1), (2, .int x2), (3, .int x3), (4, .int x4)]) S dX3_fewestRights_46 (by decide) rfl ?_
          refine z_iload S 0 dX3_fewestRights_48 rfl ?_
          refine z_if_eq (tgt := 68) S dX3_fewestRights_50 (by decide) hf (fun hf => ?_) (fun hf => ?_)
          · refine z_iinc (v := (x4 + (1 : Int32))) (lv' := [(4, .int (x4 + (1 : Int32))), (5, .int (1 : Int32)), (0, .ref (ad E x0)), (1, .int x1), (2, .int x2), (3, .int x3)]) S 5 dX3_fewestRights_68 rfl (by rfl) (by decide) rfl ?_
            refine z_goto (tgt := 12) S dX3_fewestRights_71 (by decide) ?_
            refine z_sub [2, 3, 4, 5, 0] rfl ?_
            exact ih x3 (x4 + (1 : Int32)) hf
          · refine z_aload_n S 1 dX3_fewestRights_53 rfl rfl ?_
            refine z_iload_n S 2 dX3_fewestRights_54 rfl rfl ?_
            refine z_iload_n S 3 dX3_fewestRights_55 rfl rfl ?_
            refine z_iload S 5 dX3_fewestRights_56 rfl ?_
            refine z_ior S dX3_fewestRights_58 ?_
            refine z_callVI (rc := r_X2_lacks) [.int x1, .int (x2 ||| x4)] S mo_X2_lacks wd404 wd405 wd508 h_x0 (by decide) cl_1 rfl rfl (by decide) (z_room0 S M (by rfl) (by rfl)) rfl (Nat.le_of_ble_eq_true rfl) rfl dX3_fewestRights_59 (fun q => b2i q) (fun _ => P) (fun q hq => m_X2_lacks (xl x) E _ _ _ _ h_x0 q hq) hf (fun q5 hf => ?_)
            refine z_if_ne (tgt := 68) S dX3_fewestRights_62 (by decide) hf (fun hf => ?_) (fun hf => ?_)
            · refine z_iload S 5 dX3_fewestRights_65 rfl ?_
              refine z_istore_n (lv' := [(3, .int x4), (5, .int (1 : Int32)), (0, .ref (ad E x0)), (1, .int x1), (2, .int x2), (4, .int x4)]) S dX3_fewestRights_67 rfl (by decide) rfl ?_
              refine z_iinc (v := (x4 + (1 : Int32))) (lv' := [(4, .int (x4 + (1 : Int32))), (3, .int x4), (5, .int (1 : Int32)), (0, .ref (ad E x0)), (1, .int x1), (2, .int x2)]) S 5 dX3_fewestRights_68 rfl (by rfl) (by decide) rfl ?_
              refine z_goto (tgt := 12) S dX3_fewestRights_71 (by decide) ?_
              refine z_sub [3, 4, 5, 1, 0] rfl ?_
              exact ih x4 (x4 + (1 : Int32)) hf
            · refine z_iinc (v := (x4 + (1 : Int32))) (lv' := [(4, .int (x4 + (1 : Int32))), (5, .int (1 : Int32)), (0, .ref (ad E x0)), (1, .int x1), (2, .int x2), (3, .int x3)]) S 5 dX3_fewestRights_68 rfl (by rfl) (by decide) rfl ?_
              refine z_goto (tgt := 12) S dX3_fewestRights_71 (by decide) ?_
              refine z_sub [2, 3, 4, 5, 0] rfl ?_
              exact ih x3 (x4 + (1 : Int32)) hf
def f_X3_fewestRights (P : PH) (x0 : Nat) (x1 : Int32) : Option Int32 :=
  ((f_X2_mayNow P x0 x1).bind fun q6 => f_X3_fewestRights_L12 (fun v7 => some v7) P x0 x1 q6 1000 (-9 : Int32) (0 : Int32))
theorem w_X3_fewestRights {x : Fx} {E : Ev} (S : ZS x E r_X3_fewestRights cX3_fewestRights 6 RX3 (some .int)) (M : ZM x E) (P : PH) (x0 : Nat) (x1 : Int32) (h_x0 : ok x0 1 0) (r : Int32) (hf : f_X3_fewestRights P x0 x1 = some r) : Wz x E 6 (QI E x r P) P 0 [(0, .ref (ad E x0)), (1, .int x1)] [] := by
  unfold f_X3_fewestRights at hf
  refine z_aload_n S 0 dX3_fewestRights_0 rfl rfl ?_
  refine z_iload_n S 1 dX3_fewestRights_1 rfl rfl ?_
  refine z_callVI (rc := r_X2_mayNow) [.int x1] S mo_X2_mayNow wd372 wd373 wd506 h_x0 (by decide) cl_1 rfl rfl (by decide) (z_room0 S M (by rfl) (by rfl)) rfl (Nat.le_of_ble_eq_true rfl) rfl dX3_fewestRights_2 (fun q => q) (fun _ => P) (fun q hq => m_X2_mayNow (xl x) E _ _ _ h_x0 q hq) hf (fun q6 hf => ?_)
  refine z_istore_n (lv' := [(2, .int q6), (0, .ref (ad E x0)), (1, .int x1)]) S dX3_fewestRights_5 rfl (by decide) rfl ?_
  refine z_bipush (v := (-9 : Int32)) S dX3_fewestRights_6 (by decide) ?_
  refine z_istore_n (lv' := [(3, .int (-9 : Int32)), (2, .int q6), (0, .ref (ad E x0)), (1, .int x1)]) S dX3_fewestRights_8 rfl (by decide) rfl ?_
  refine z_iconst (v := 0) S dX3_fewestRights_9 (by decide) ?_
  refine z_istore (lv' := [(4, .int (0 : Int32)), (3, .int (-9 : Int32)), (2, .int q6), (0, .ref (ad E x0)), (1, .int x1)]) S dX3_fewestRights_10 (by decide) rfl ?_
  refine z_sub [3, 4, 2, 1, 0] rfl ?_
  refine w_X3_fewestRights_L12 S M _ x0 x1 q6 h_x0 r (fun v7 hf => ?_) 1000 (-9 : Int32) (0 : Int32) hf
  refine z_iload_n S 0 dX3_fewestRights_74 rfl rfl ?_
  exact z_iretP (v := v7) S M rfl dX3_fewestRights_75 hf
theorem m_X3_fewestRights (l : Launch) (E : Ev) (P : PH) (x0 : Nat) (x1 : Int32) (h_x0 : ok x0 1 0) (r : Int32) (hf : f_X3_fewestRights P x0 x1 = some r) : CtI l E yX3_fewestRights cX3_fewestRights 6 (some .int) r_X3_fewestRights [.ref (ad E x0), .int x1] P r P :=
  z_body (own := RX3) (by decide +kernel) rfl (Nat.le_of_ble_eq_true rfl) rfl (fun x _ S M => w_X3_fewestRights S M P x0 x1 h_x0 r hf)
-- yX3_openers
theorem dX3_openers_0 : decode cX3_openers 0 = .ok (.aload_n 0, 1) := by decide +kernel
theorem dX3_openers_1 : decode cX3_openers 1 = .ok (.getfield 9, 3) := by decide +kernel
theorem dX3_openers_4 : decode cX3_openers 4 = .ok (.getfield 21, 3) := by decide +kernel
theorem dX3_openers_7 : decode cX3_openers 7 = .ok (.istore_n 2, 1) := by decide +kernel
theorem dX3_openers_8 : decode cX3_openers 8 = .ok (.aload_n 0, 1) := by decide +kernel
theorem dX3_openers_9 : decode cX3_openers 9 = .ok (.getfield 9, 3) := by decide +kernel
theorem dX3_openers_12 : decode cX3_openers 12 = .ok (.getfield 15, 3) := by decide +kernel
theorem dX3_openers_15 : decode cX3_openers 15 = .ok (.istore_n 3, 1) := by decide +kernel
theorem dX3_openers_16 : decode cX3_openers 16 = .ok (.aload_n 0, 1) := by decide +kernel
theorem dX3_openers_17 : decode cX3_openers 17 = .ok (.iload_n 1, 1) := by decide +kernel
theorem dX3_openers_18 : decode cX3_openers 18 = .ok (.iload_n 2, 1) := by decide +kernel
theorem dX3_openers_19 : decode cX3_openers 19 = .ok (.iload_n 3, 1) := by decide +kernel
theorem dX3_openers_20 : decode cX3_openers 20 = .ok (.iconst 0, 1) := by decide +kernel
theorem dX3_openers_21 : decode cX3_openers 21 = .ok (.invokevirtual 24, 3) := by decide +kernel
theorem dX3_openers_24 : decode cX3_openers 24 = .ok (.ifCond .ne 5, 3) := by decide +kernel
theorem dX3_openers_27 : decode cX3_openers 27 = .ok (.iconst 0, 1) := by decide +kernel
theorem dX3_openers_28 : decode cX3_openers 28 = .ok (.ireturn, 1) := by decide +kernel
theorem dX3_openers_29 : decode cX3_openers 29 = .ok (.iconst 0, 1) := by decide +kernel
theorem dX3_openers_30 : decode cX3_openers 30 = .ok (.istore 4, 2) := by decide +kernel
theorem dX3_openers_32 : decode cX3_openers 32 = .ok (.iconst 0, 1) := by decide +kernel
theorem dX3_openers_33 : decode cX3_openers 33 = .ok (.istore 5, 2) := by decide +kernel
theorem dX3_openers_35 : decode cX3_openers 35 = .ok (.iload 5, 2) := by decide +kernel
theorem dX3_openers_37 : decode cX3_openers 37 = .ok (.aload_n 0, 1) := by decide +kernel
theorem dX3_openers_38 : decode cX3_openers 38 = .ok (.getfield 44, 3) := by decide +kernel
theorem dX3_openers_41 : decode cX3_openers 41 = .ok (.if_icmp .ge 63, 3) := by decide +kernel
theorem dX3_openers_44 : decode cX3_openers 44 = .ok (.iload 5, 2) := by decide +kernel
theorem dX3_openers_46 : decode cX3_openers 46 = .ok (.iload_n 1, 1) := by decide +kernel
theorem dX3_openers_47 : decode cX3_openers 47 = .ok (.if_icmp .eq 16, 3) := by decide +kernel
theorem dX3_openers_50 : decode cX3_openers 50 = .ok (.aload_n 0, 1) := by decide +kernel
theorem dX3_openers_51 : decode cX3_openers 51 = .ok (.iload 5, 2) := by decide +kernel
theorem dX3_openers_53 : decode cX3_openers 53 = .ok (.invokevirtual 47, 3) := by decide +kernel
theorem dX3_openers_56 : decode cX3_openers 56 = .ok (.ifCond .eq 7, 3) := by decide +kernel
theorem dX3_openers_59 : decode cX3_openers 59 = .ok (.iconst 1, 1) := by decide +kernel
theorem dX3_openers_60 : decode cX3_openers 60 = .ok (.goto 4, 3) := by decide +kernel
theorem dX3_openers_63 : decode cX3_openers 63 = .ok (.iconst 0, 1) := by decide +kernel
theorem dX3_openers_64 : decode cX3_openers 64 = .ok (.istore 6, 2) := by decide +kernel
theorem dX3_openers_66 : decode cX3_openers 66 = .ok (.iload 6, 2) := by decide +kernel
theorem dX3_openers_68 : decode cX3_openers 68 = .ok (.ifCond .eq 30, 3) := by decide +kernel
theorem dX3_openers_71 : decode cX3_openers 71 = .ok (.aload_n 0, 1) := by decide +kernel
theorem dX3_openers_72 : decode cX3_openers 72 = .ok (.iload_n 1, 1) := by decide +kernel
theorem dX3_openers_73 : decode cX3_openers 73 = .ok (.iload_n 2, 1) := by decide +kernel
theorem dX3_openers_74 : decode cX3_openers 74 = .ok (.iconst 1, 1) := by decide +kernel
theorem dX3_openers_75 : decode cX3_openers 75 = .ok (.iload 5, 2) := by decide +kernel
theorem dX3_openers_77 : decode cX3_openers 77 = .ok (.ishl, 1) := by decide +kernel
theorem dX3_openers_78 : decode cX3_openers 78 = .ok (.iconst (-1), 1) := by decide +kernel
theorem dX3_openers_79 : decode cX3_openers 79 = .ok (.ixor, 1) := by decide +kernel
theorem dX3_openers_80 : decode cX3_openers 80 = .ok (.iand, 1) := by decide +kernel
theorem dX3_openers_81 : decode cX3_openers 81 = .ok (.iload_n 3, 1) := by decide +kernel
theorem dX3_openers_82 : decode cX3_openers 82 = .ok (.iconst 0, 1) := by decide +kernel
theorem dX3_openers_83 : decode cX3_openers 83 = .ok (.invokevirtual 24, 3) := by decide +kernel
theorem dX3_openers_86 : decode cX3_openers 86 = .ok (.ifCond .ne 12, 3) := by decide +kernel
theorem dX3_openers_89 : decode cX3_openers 89 = .ok (.iload 4, 2) := by decide +kernel
theorem dX3_openers_91 : decode cX3_openers 91 = .ok (.iconst 1, 1) := by decide +kernel
theorem dX3_openers_92 : decode cX3_openers 92 = .ok (.iload 5, 2) := by decide +kernel
theorem dX3_openers_94 : decode cX3_openers 94 = .ok (.ishl, 1) := by decide +kernel
theorem dX3_openers_95 : decode cX3_openers 95 = .ok (.ior, 1) := by decide +kernel
theorem dX3_openers_96 : decode cX3_openers 96 = .ok (.istore 4, 2) := by decide +kernel
theorem dX3_openers_98 : decode cX3_openers 98 = .ok (.iinc 5 1, 3) := by decide +kernel
theorem dX3_openers_101 : decode cX3_openers 101 = .ok (.goto (-66), 3) := by decide +kernel
theorem dX3_openers_104 : decode cX3_openers 104 = .ok (.iload 4, 2) := by decide +kernel
theorem dX3_openers_106 : decode cX3_openers 106 = .ok (.ireturn, 1) := by decide +kernel
def r_X3_openers : Room := { frames := 4, cells := 0, slots := 0, locals := 97 }
def f_X3_openers_L35 (K : Int32 → Option Int32) (P : PH) (x0 : Nat) (x1 : Int32) (x2 : Int32) (x3 : Int32) : Nat → Int32 → Int32 → Option Int32
  | 0, _, _ => none
  | n + 1, x4, x5 =>
    (if (P.1 x0 0) ≤ x5 then K x4 else (if x5 = x1 then (if (0 : Int32) = 0 then f_X3_openers_L35 K P x0 x1 x2 x3 n x4 (x5 + (1 : Int32)) else ((f_X2_isCutOff P x0 x1 (x2 &&& (((1 : Int32) <<< (x5 &&& 31)) ^^^ (-1 : Int32))) x3 (0 : Int32)).bind fun q1 => (if (b2i q1) = 0 then f_X3_openers_L35 K P x0 x1 x2 x3 n (x4 ||| ((1 : Int32) <<< (x5 &&& 31))) (x5 + (1 : Int32)) else f_X3_openers_L35 K P x0 x1 x2 x3 n x4 (x5 + (1 : Int32))))) else ((f_X2_lives P x0 x5).bind fun q2 => (if (b2i q2) = 0 then (if (0 : Int32) = 0 then f_X3_openers_L35 K P x0 x1 x2 x3 n x4 (x5 + (1 : Int32)) else ((f_X2_isCutOff P x0 x1 (x2 &&& (((1 : Int32) <<< (x5 &&& 31)) ^^^ (-1 : Int32))) x3 (0 : Int32)).bind fun q3 => (if (b2i q3) = 0 then f_X3_openers_L35 K P x0 x1 x2 x3 n (x4 ||| ((1 : Int32) <<< (x5 &&& 31))) (x5 + (1 : Int32)) else f_X3_openers_L35 K P x0 x1 x2 x3 n x4 (x5 + (1 : Int32))))) else (if (1 : Int32) = 0 then f_X3_openers_L35 K P x0 x1 x2 x3 n x4 (x5 + (1 : Int32)) else ((f_X2_isCutOff P x0 x1 (x2 &&& (((1 : Int32) <<< (x5 &&& 31)) ^^^ (-1 : Int32))) x3 (0 : Int32)).bind fun q4 => (if (b2i q4) = 0 then f_X3_openers_L35 K P x0 x1 x2 x3 n (x4 ||| ((1 : Int32) <<< (x5 &&& 31))) (x5 + (1 : Int32)) else f_X3_openers_L35 K P x0 x1 x2 x3 n x4 (x5 + (1 : Int32)))))))))
theorem w_X3_openers_L35 {x : Fx} {E : Ev} (S : ZS x E r_X3_openers cX3_openers 7 RX3 (some .int)) (M : ZM x E) {K : Int32 → Option Int32} (P : PH) (x0 : Nat) (x1 : Int32) (x2 : Int32) (x3 : Int32) (h_x0 : ok x0 1 0) (r : Int32) (hK : ∀ (y4 : Int32), K y4 = some r → Wz x E 7 (QI E x r P) P 104 [(4, .int y4)] []) : ∀ (n : Nat) (x4 : Int32) (x5 : Int32), f_X3_openers_L35 K P x0 x1 x2 x3 n x4 x5 = some r → Wz x E 7 (QI E x r P) P 35 [(0, .ref (ad E x0)), (1, .int x1), (2, .int x2), (3, .int x3), (4, .int x4), (5, .int x5)] [] := by
  intro n
  induction n with
  | zero => intro x4 x5 hf; cases hf
  | succ n ih =>
    intro x4 x5 hf
    unfold f_X3_openers_L35 at hf
    refine z_iload S 5 dX3_openers_35 rfl ?_
    refine z_aload_n S 0 dX3_openers_37 rfl rfl ?_
    refine z_getI S cf_1 h_x0 0 (by decide) rfl wd214 dX3_openers_38 ?_
    refine z_icmp_ge (tgt := 104) S dX3_openers_41 (by decide) hf (fun hf => ?_) (fun hf => ?_)
    · refine z_sub [4] rfl ?_
      exact hK x4 hf
    · refine z_iload S 5 dX3_openers_44 rfl ?_
      refine z_iload_n S 1 dX3_openers_46 rfl rfl ?_
      refine z_icmp_eq (tgt := 63) S dX3_openers_47 (by decide) hf (fun hf => ?_) (fun hf => ?_)
      · refine z_iconst (v := 0) S dX3_openers_63 (by decide) ?_
        refine z_istore (lv' := [(6, .int (0 : Int32)), (0, .ref (ad E x0)), (1, .int x1), (2, .int x2), (3, .int x3), (4, .int x4), (5, .int x5)]) S dX3_openers_64 (by decide) rfl ?_
        refine z_iload S 0 dX3_openers_66 rfl ?_
        refine z_if_eq (tgt := 98) S dX3_openers_68 (by decide) hf (fun hf => ?_) (fun hf => ?_)
        · refine z_iinc (v := (x5 + (1 : Int32))) (lv' := [(5, .int (x5 + (1 : Int32))), (6, .int (0 : Int32)), (0, .ref (ad E x0)), (1, .int x1), (2, .int x2), (3, .int x3), (4, .int x4)]) S 6 dX3_openers_98 rfl (by rfl) (by decide) rfl ?_
          refine z_goto (tgt := 35) S dX3_openers_101 (by decide) ?_
          refine z_sub [2, 3, 4, 5, 6, 0] rfl ?_
          exact ih x4 (x5 + (1 : Int32)) hf
        · refine z_aload_n S 1 dX3_openers_71 rfl rfl ?_
          refine z_iload_n S 2 dX3_openers_72 rfl rfl ?_
          refine z_iload_n S 3 dX3_openers_73 rfl rfl ?_
          refine z_iconst (v := 1) S dX3_openers_74 (by decide) ?_
          refine z_iload S 6 dX3_openers_75 rfl ?_
          refine z_ishl S dX3_openers_77 ?_
          refine z_iconst (v := (-1 : Int32)) S dX3_openers_78 (by decide) ?_
          refine z_ixor S dX3_openers_79 ?_
          refine z_iand S dX3_openers_80 ?_
          refine z_iload_n S 4 dX3_openers_81 rfl rfl ?_
          refine z_iconst (v := 0) S dX3_openers_82 (by decide) ?_
          refine z_callVI (rc := r_X2_isCutOff) [.int x1, .int (x2 &&& (((1 : Int32) <<< (x5 &&& 31)) ^^^ (-1 : Int32))), .int x3, .int (0 : Int32)] S mo_X2_isCutOff wd400 wd401 wd494 h_x0 (by decide) cl_1 rfl rfl (by decide) (z_room0 S M (by rfl) (by rfl)) rfl (Nat.le_of_ble_eq_true rfl) rfl dX3_openers_83 (fun q => b2i q) (fun _ => P) (fun q hq => m_X2_isCutOff (xl x) E _ _ _ _ _ _ h_x0 q hq) hf (fun q1 hf => ?_)
          refine z_if_ne (tgt := 98) S dX3_openers_86 (by decide) hf (fun hf => ?_) (fun hf => ?_)
          · refine z_iload S 5 dX3_openers_89 rfl ?_
            refine z_iconst (v := 1) S dX3_openers_91 (by decide) ?_
            refine z_iload S 6 dX3_openers_92 rfl ?_
            refine z_ishl S dX3_openers_94 ?_
            refine z_ior S dX3_openers_95 ?_
            refine z_istore (lv' := [(4, .int (x4 ||| ((1 : Int32) <<< (x5 &&& 31)))), (6, .int (0 : Int32)), (0, .ref (ad E x0)), (1, .int x1), (2, .int x2), (3, .int x3), (5, .int x5)]) S dX3_openers_96 (by decide) rfl ?_
            refine z_iinc (v := (x5 + (1 : Int32))) (lv' := [(5, .int (x5 + (1 : Int32))), (4, .int (x4 ||| ((1 : Int32) <<< (x5 &&& 31)))), (6, .int (0 : Int32)), (0, .ref (ad E x0)), (1, .int x1), (2, .int x2), (3, .int x3)]) S 6 dX3_openers_98 rfl (by rfl) (by decide) rfl ?_
            refine z_goto (tgt := 35) S dX3_openers_101 (by decide) ?_
            refine z_sub [3, 4, 5, 6, 1, 0] rfl ?_
            exact ih (x4 ||| ((1 : Int32) <<< (x5 &&& 31))) (x5 + (1 : Int32)) hf
          · refine z_iinc (v := (x5 + (1 : Int32))) (lv' := [(5, .int (x5 + (1 : Int32))), (6, .int (0 : Int32)), (0, .ref (ad E x0)), (1, .int x1), (2, .int x2), (3, .int x3), (4, .int x4)]) S 6 dX3_openers_98 rfl (by rfl) (by decide) rfl ?_
            refine z_goto (tgt := 35) S dX3_openers_101 (by decide) ?_
            refine z_sub [2, 3, 4, 5, 6, 0] rfl ?_
            exact ih x4 (x5 + (1 : Int32)) hf
      · refine z_aload_n S 0 dX3_openers_50 rfl rfl ?_
        refine z_iload S 5 dX3_openers_51 rfl ?_
        refine z_callVI (rc := r_X2_lives) [.int x5] S mo_X2_lives wd367 wd368 wd516 h_x0 (by decide) cl_1 rfl rfl (by decide) (z_room0 S M (by rfl) (by rfl)) rfl (Nat.le_of_ble_eq_true rfl) rfl dX3_openers_53 (fun q => b2i q) (fun _ => P) (fun q hq => m_X2_lives (xl x) E _ _ _ h_x0 q hq) hf (fun q2 hf => ?_)
        refine z_if_eq (tgt := 63) S dX3_openers_56 (by decide) hf (fun hf => ?_) (fun hf => ?_)
        · refine z_iconst (v := 0) S dX3_openers_63 (by decide) ?_
          refine z_istore (lv' := [(6, .int (0 : Int32)), (0, .ref (ad E x0)), (1, .int x1), (2, .int x2), (3, .int x3), (4, .int x4), (5, .int x5)]) S dX3_openers_64 (by decide) rfl ?_
          refine z_iload S 0 dX3_openers_66 rfl ?_
          refine z_if_eq (tgt := 98) S dX3_openers_68 (by decide) hf (fun hf => ?_) (fun hf => ?_)
          · refine z_iinc (v := (x5 + (1 : Int32))) (lv' := [(5, .int (x5 + (1 : Int32))), (6, .int (0 : Int32)), (0, .ref (ad E x0)), (1, .int x1), (2, .int x2), (3, .int x3), (4, .int x4)]) S 6 dX3_openers_98 rfl (by rfl) (by decide) rfl ?_
            refine z_goto (tgt := 35) S dX3_openers_101 (by decide) ?_
            refine z_sub [2, 3, 4, 5, 6, 0] rfl ?_
            exact ih x4 (x5 + (1 : Int32)) hf
          · refine z_aload_n S 1 dX3_openers_71 rfl rfl ?_
            refine z_iload_n S 2 dX3_openers_72 rfl rfl ?_
            refine z_iload_n S 3 dX3_openers_73 rfl rfl ?_
            refine z_iconst (v := 1) S dX3_openers_74 (by decide) ?_
            refine z_iload S 6 dX3_openers_75 rfl ?_
            refine z_ishl S dX3_openers_77 ?_
            refine z_iconst (v := (-1 : Int32)) S dX3_openers_78 (by decide) ?_
            refine z_ixor S dX3_openers_79 ?_
            refine z_iand S dX3_openers_80 ?_
            refine z_iload_n S 4 dX3_openers_81 rfl rfl ?_
            refine z_iconst (v := 0) S dX3_openers_82 (by decide) ?_
            refine z_callVI (rc := r_X2_isCutOff) [.int x1, .int (x2 &&& (((1 : Int32) <<< (x5 &&& 31)) ^^^ (-1 : Int32))), .int x3, .int (0 : Int32)] S mo_X2_isCutOff wd400 wd401 wd494 h_x0 (by decide) cl_1 rfl rfl (by decide) (z_room0 S M (by rfl) (by rfl)) rfl (Nat.le_of_ble_eq_true rfl) rfl dX3_openers_83 (fun q => b2i q) (fun _ => P) (fun q hq => m_X2_isCutOff (xl x) E _ _ _ _ _ _ h_x0 q hq) hf (fun q3 hf => ?_)
            refine z_if_ne (tgt := 98) S dX3_openers_86 (by decide) hf (fun hf => ?_) (fun hf => ?_)
            · refine z_iload S 5 dX3_openers_89 rfl ?_
              refine z_iconst (v := 1) S dX3_openers_91 (by decide) ?_
              refine z_iload S 6 dX3_openers_92 rfl ?_
              refine z_ishl S dX3_openers_94 ?_
              refine z_ior S dX3_openers_95 ?_
              refine z_istore (lv' := [(4, .int (x4 ||| ((1 : Int32) <<< (x5 &&& 31)))), (6, .int (0 : Int32)), (0, .ref (ad E x0)), (1, .int x1), (2, .int x2), (3, .int x3), (5, .int x5)]) S dX3_openers_96 (by decide) rfl ?_
              refine z_iinc (v := (x5 + (1 : Int32))) (lv' := [(5, .int (x5 + (1 : Int32))), (4, .int (x4 ||| ((1 : Int32) <<< (x5 &&& 31)))), (6, .int (0 : Int32)), (0, .ref (ad E x0)), (1, .int x1), (2, .int x2), (3, .int x3)]) S 6 dX3_openers_98 rfl (by rfl) (by decide) rfl ?_
              refine z_goto (tgt := 35) S dX3_openers_101 (by decide) ?_
              refine z_sub [3, 4, 5, 6, 1, 0] rfl ?_
              exact ih (x4 ||| ((1 : Int32) <<< (x5 &&& 31))) (x5 + (1 : Int32)) hf
            · refine z_iinc (v := (x5 + (1 : Int32))) (lv' := [(5, .int (x5 + (1 : Int32))), (6, .int (0 : Int32)), (0, .ref (ad E x0)), (1, .int x1), (2, .int x2), (3, .int x3), (4, .int x4)]) S 6 dX3_openers_98 rfl (by rfl) (by decide) rfl ?_
              refine z_goto (tgt := 35) S dX3_openers_101 (by decide) ?_
              refine z_sub [2, 3, 4, 5, 6, 0] rfl ?_
              exact ih x4 (x5 + (1 : Int32)) hf
        · refine z_iconst (v := 1) S dX3_openers_59 (by decide) ?_
          refine z_goto (tgt := 64) S dX3_openers_60 (by decide) ?_
          refine z_istore (lv' := [(6, .int (1 : Int32)), (0, .ref (ad E x0)), (1, .int x1), (2, .int x2), (3, .int x3), (4, .int x4), (5, .int x5)]) S dX3_openers_64 (by decide) rfl ?_
          refine z_iload S 0 dX3_openers_66 rfl ?_
          refine z_if_eq (tgt := 98) S dX3_openers_68 (by decide) hf (fun hf => ?_) (fun hf => ?_)
          · refine z_iinc (v := (x5 + (1 : Int32))) (lv' := [(5, .int (x5 + (1 : Int32))), (6, .int (1 : Int32)), (0, .ref (ad E x0)), (1, .int x1), (2, .int x2), (3, .int x3), (4, .int x4)]) S 6 dX3_openers_98 rfl (by rfl) (by decide) rfl ?_
            refine z_goto (tgt := 35) S dX3_openers_101 (by decide) ?_
            refine z_sub [2, 3, 4, 5, 6, 0] rfl ?_
            exact ih x4 (x5 + (1 : Int32)) hf
          · refine z_aload_n S 1 dX3_openers_71 rfl rfl ?_
            refine z_iload_n S 2 dX3_openers_72 rfl rfl ?_
            refine z_iload_n S 3 dX3_openers_73 rfl rfl ?_
            refine z_iconst (v := 1) S dX3_openers_74 (by decide) ?_
            refine z_iload S 6 dX3_openers_75 rfl ?_
            refine z_ishl S dX3_openers_77 ?_
            refine z_iconst (v := (-1 : Int32)) S dX3_openers_78 (by decide) ?_
            refine z_ixor S dX3_openers_79 ?_
            refine z_iand S dX3_openers_80 ?_
            refine z_iload_n S 4 dX3_openers_81 rfl rfl ?_
            refine z_iconst (v := 0) S dX3_openers_82 (by decide) ?_
            refine z_callVI (rc := r_X2_isCutOff) [.int x1, .int (x2 &&& (((1 : Int32) <<< (x5 &&& 31)) ^^^ (-1 : Int32))), .int x3, .int (0 : Int32)] S mo_X2_isCutOff wd400 wd401 wd494 h_x0 (by decide) cl_1 rfl rfl (by decide) (z_room0 S M (by rfl) (by rfl)) rfl (Nat.le_of_ble_eq_true rfl) rfl dX3_openers_83 (fun q => b2i q) (fun _ => P) (fun q hq => m_X2_isCutOff (xl x) E _ _ _ _ _ _ h_x0 q hq) hf (fun q4 hf => ?_)
            refine z_if_ne (tgt := 98) S dX3_openers_86 (by decide) hf (fun hf => ?_) (fun hf => ?_)
            · refine z_iload S 5 dX3_openers_89 rfl ?_
              refine z_iconst (v := 1) S dX3_openers_91 (by decide) ?_
              refine z_iload S 6 dX3_openers_92 rfl ?_
              refine z_ishl S dX3_openers_94 ?_
              refine z_ior S dX3_openers_95 ?_
              refine z_istore (lv' := [(4, .int (x4 ||| ((1 : Int32) <<< (x5 &&& 31)))), (6, .int (1 : Int32)), (0, .ref (ad E x0)), (1, .int x1), (2, .int x2), (3, .int x3), (5, .int x5)]) S dX3_openers_96 (by decide) rfl ?_
              refine z_iinc (v := (x5 + (1 : Int32))) (lv' := [(5, .int (x5 + (1 : Int32))), (4, .int (x4 ||| ((1 : Int32) <<< (x5 &&& 31)))), (6, .int (1 : Int32)), (0, .ref (ad E x0)), (1, .int x1), (2, .int x2), (3, .int x3)]) S 6 dX3_openers_98 rfl (by rfl) (by decide) rfl ?_
              refine z_goto (tgt := 35) S dX3_openers_101 (by decide) ?_
              refine z_sub [3, 4, 5, 6, 1, 0] rfl ?_
              exact ih (x4 ||| ((1 : Int32) <<< (x5 &&& 31))) (x5 + (1 : Int32)) hf
            · refine z_iinc (v := (x5 + (1 : Int32))) (lv' := [(5, .int (x5 + (1 : Int32))), (6, .int (1 : Int32)), (0, .ref (ad E x0)), (1, .int x1), (2, .int x2), (3, .int x3), (4, .int x4)]) S 6 dX3_openers_98 rfl (by rfl) (by decide) rfl ?_
              refine z_goto (tgt := 35) S dX3_openers_101 (by decide) ?_
              refine z_sub [2, 3, 4, 5, 6, 0] rfl ?_
              exact ih x4 (x5 + (1 : Int32)) hf
def f_X3_openers (P : PH) (x0 : Nat) (x1 : Int32) : Option Int32 :=
  ((f_X2_isCutOff P x0 x1 (P.1 (P.2.2 x0 5) 1) (P.1 (P.2.2 x0 5) 0) (0 : Int32)).bind fun q7 => (if (b2i q7) = 0 then some (0 : Int32) else f_X3_openers_L35 (fun v8 => some v8) P x0 x1 (P.1 (P.2.2 x0 5) 1) (P.1 (P.2.2 x0 5) 0) 1000 (0 : Int32) (0 : Int32)))
theorem w_X3_openers {x : Fx} {E : Ev} (S : ZS x E r_X3_openers cX3_openers 7 RX3 (some .int)) (M : ZM x E) (P : PH) (x0 : Nat) (x1 : Int32) (h_x0 : ok x0 1 0) (r : Int32) (hf : f_X3_openers P x0 x1 = some r) : Wz x E 7 (QI E x r P) P 0 [(0, .ref (ad E x0)), (1, .int x1)] [] := by
  unfold f_X3_openers at hf
  refine z_aload_n S 0 dX3_openers_0 rfl rfl ?_
  refine z_getR (K' := 2) (n' := 0) S cf_1 h_x0 5 (by decide) rfl rfl rfl wd231 dX3_openers_1 (fun h5 => ?_)
  refine z_getI S cf_2 h5 1 (by decide) rfl wd172 dX3_openers_4 ?_
  refine z_istore_n (lv' := [(2, .int (P.1 (P.2.2 x0 5) 1)), (0, .ref (ad E x0)), (1, .int x1)]) S dX3_openers_7 rfl (by decide) rfl ?_
  refine z_aload_n S 1 dX3_openers_8 rfl rfl ?_
  refine z_getR (K' := 2) (n' := 0) S cf_1 h_x0 5 (by decide) rfl rfl rfl wd231 dX3_openers_9 (fun h6 => ?_)
  refine z_getI S cf_2 h6 0 (by decide) rfl wd165 dX3_openers_12 ?_
  refine z_istore_n (lv' := [(3, .int (P.1 (P.2.2 x0 5) 0)), (2, .int (P.1 (P.2.2 x0 5) 1)), (0, .ref (ad E x0)), (1, .int x1)]) S dX3_openers_15 rfl (by decide) rfl ?_
  refine z_aload_n S 2 dX3_openers_16 rfl rfl ?_
  refine z_iload_n S 3 dX3_openers_17 rfl rfl ?_
  refine z_iload_n S 1 dX3_openers_18 rfl rfl ?_
  refine z_iload_n S 0 dX3_openers_19 rfl rfl ?_
  refine z_iconst (v := 0) S dX3_openers_20 (by decide) ?_
  refine z_callVI (rc := r_X2_isCutOff) [.int x1, .int (P.1 (P.2.2 x0 5) 1), .int (P.1 (P.2.2 x0 5) 0), .int (0 : Int32)] S mo_X2_isCutOff wd400 wd401 wd494 h_x0 (by decide) cl_1 rfl rfl (by decide) (z_room0 S M (by rfl) (by rfl)) rfl (Nat.le_of_ble_eq_true rfl) rfl dX3_openers_21 (fun q => b2i q) (fun _ => P) (fun q hq => m_X2_isCutOff (xl x) E _ _ _ _ _ _ h_x0 q hq) hf (fun q7 hf => ?_)
  refine z_if_ne (tgt := 29) S dX3_openers_24 (by decide) hf (fun hf => ?_) (fun hf => ?_)
  · refine z_iconst (v := 0) S dX3_openers_27 (by decide) ?_
    exact z_iretP (v := (0 : Int32)) S M rfl dX3_openers_28 hf
  · refine z_iconst (v := 0) S dX3_openers_29 (by decide) ?_
    refine z_istore (lv' := [(4, .int (0 : Int32)), (3, .int (P.1 (P.2.2 x0 5) 0)), (2, .int (P.1 (P.2.2 x0 5) 1)), (0, .ref (ad E x0)), (1, .int x1)]) S dX3_openers_30 (by decide) rfl ?_
    refine z_iconst (v := 0) S dX3_openers_32 (by decide) ?_
    refine z_istore (lv' := [(5, .int (0 : Int32)), (4, .int (0 : Int32)), (3, .int (P.1 (P.2.2 x0 5) 0)), (2, .int (P.1 (P.2.2 x0 5) 1)), (0, .ref (ad E x0)), (1, .int x1)]) S dX3_openers_33 (by decide) rfl ?_
    refine z_sub [4, 5, 3, 2, 1, 0] rfl ?_
    refine w_X3_openers_L35 S M _ x0 x1 (P.1 (P.2.2 x0 5) 1) (P.1 (P.2.2 x0 5) 0) h_x0 r (fun v8 hf => ?_) 1000 (0 : Int32) (0 : Int32) hf
    refine z_iload S 0 dX3_openers_104 rfl ?_
    exact z_iretP (v := v8) S M rfl dX3_openers_106 hf
theorem m_X3_openers (l : Launch) (E : Ev) (P : PH) (x0 : Nat) (x1 : Int32) (h_x0 : ok x0 1 0) (r : Int32) (hf : f_X3_openers P x0 x1 = some r) : CtI l E yX3_openers cX3_openers 7 (some .int) r_X3_openers [.ref (ad E x0), .int x1] P r P :=
  z_body (own := RX3) (by decide +kernel) rfl (Nat.le_of_ble_eq_true rfl) rfl (fun x _ S M => w_X3_openers S M P x0 x1 h_x0 r hf)
-- yX3_bestExchange
theorem dX3_bestExchange_0 : decode cX3_bestExchange 0 = .ok (.aload_n 0, 1) := by decide +kernel
theorem dX3_bestExchange_1 : decode cX3_bestExchange 1 = .ok (.iconst 0, 1) := by decide +kernel
theorem dX3_bestExchange_2 : decode cX3_bestExchange 2 = .ok (.invokevirtual 51, 3) := by decide +kernel
theorem dX3_bestExchange_5 : decode cX3_bestExchange 5 = .ok (.invokestatic 35, 3) := by decide +kernel
theorem dX3_bestExchange_8 : decode cX3_bestExchange 8 = .ok (.istore_n 1, 1) := by decide +kernel
theorem dX3_bestExchange_9 : decode cX3_bestExchange 9 = .ok (.bipush (-9), 2) := by decide +kernel
theorem dX3_bestExchange_11 : decode cX3_bestExchange 11 = .ok (.istore_n 2, 1) := by decide +kernel
theorem dX3_bestExchange_12 : decode cX3_bestExchange 12 = .ok (.iconst 0, 1) := by decide +kernel
theorem dX3_bestExchange_13 : decode cX3_bestExchange 13 = .ok (.istore_n 3, 1) := by decide +kernel
theorem dX3_bestExchange_14 : decode cX3_bestExchange 14 = .ok (.iload_n 3, 1) := by decide +kernel
theorem dX3_bestExchange_15 : decode cX3_bestExchange 15 = .ok (.aload_n 0, 1) := by decide +kernel
theorem dX3_bestExchange_16 : decode cX3_bestExchange 16 = .ok (.getfield 32, 3) := by decide +kernel
theorem dX3_bestExchange_19 : decode cX3_bestExchange 19 = .ok (.if_icmp .ge 76, 3) := by decide +kernel
theorem dX3_bestExchange_22 : decode cX3_bestExchange 22 = .ok (.iload_n 3, 1) := by decide +kernel
theorem dX3_bestExchange_23 : decode cX3_bestExchange 23 = .ok (.iconst 1, 1) := by decide +kernel
theorem dX3_bestExchange_24 : decode cX3_bestExchange 24 = .ok (.iadd, 1) := by decide +kernel
theorem dX3_bestExchange_25 : decode cX3_bestExchange 25 = .ok (.istore 4, 2) := by decide +kernel
theorem dX3_bestExchange_27 : decode cX3_bestExchange 27 = .ok (.iload 4, 2) := by decide +kernel
theorem dX3_bestExchange_29 : decode cX3_bestExchange 29 = .ok (.aload_n 0, 1) := by decide +kernel
theorem dX3_bestExchange_30 : decode cX3_bestExchange 30 = .ok (.getfield 32, 3) := by decide +kernel
theorem dX3_bestExchange_33 : decode cX3_bestExchange 33 = .ok (.if_icmp .ge 56, 3) := by decide +kernel
theorem dX3_bestExchange_36 : decode cX3_bestExchange 36 = .ok (.aload_n 0, 1) := by decide +kernel
theorem dX3_bestExchange_37 : decode cX3_bestExchange 37 = .ok (.getfield 9, 3) := by decide +kernel
theorem dX3_bestExchange_40 : decode cX3_bestExchange 40 = .ok (.iload_n 3, 1) := by decide +kernel
theorem dX3_bestExchange_41 : decode cX3_bestExchange 41 = .ok (.iload 4, 2) := by decide +kernel
theorem dX3_bestExchange_43 : decode cX3_bestExchange 43 = .ok (.invokevirtual 54, 3) := by decide +kernel
theorem dX3_bestExchange_46 : decode cX3_bestExchange 46 = .ok (.aload_n 0, 1) := by decide +kernel
theorem dX3_bestExchange_47 : decode cX3_bestExchange 47 = .ok (.iconst 0, 1) := by decide +kernel
theorem dX3_bestExchange_48 : decode cX3_bestExchange 48 = .ok (.invokevirtual 51, 3) := by decide +kernel
theorem dX3_bestExchange_51 : decode cX3_bestExchange 51 = .ok (.invokestatic 35, 3) := by decide +kernel
theorem dX3_bestExchange_54 : decode cX3_bestExchange 54 = .ok (.istore 5, 2) := by decide +kernel
theorem dX3_bestExchange_56 : decode cX3_bestExchange 56 = .ok (.aload_n 0, 1) := by decide +kernel
theorem dX3_bestExchange_57 : decode cX3_bestExchange 57 = .ok (.getfield 9, 3) := by decide +kernel
theorem dX3_bestExchange_60 : decode cX3_bestExchange 60 = .ok (.iload_n 3, 1) := by decide +kernel
theorem dX3_bestExchange_61 : decode cX3_bestExchange 61 = .ok (.iload 4, 2) := by decide +kernel
theorem dX3_bestExchange_63 : decode cX3_bestExchange 63 = .ok (.invokevirtual 54, 3) := by decide +kernel
theorem dX3_bestExchange_66 : decode cX3_bestExchange 66 = .ok (.iload 5, 2) := by decide +kernel
theorem dX3_bestExchange_68 : decode cX3_bestExchange 68 = .ok (.iload_n 1, 1) := by decide +kernel
theorem dX3_bestExchange_69 : decode cX3_bestExchange 69 = .ok (.if_icmp .ge 14, 3) := by decide +kernel
theorem dX3_bestExchange_72 : decode cX3_bestExchange 72 = .ok (.iload 5, 2) := by decide +kernel
theorem dX3_bestExchange_74 : decode cX3_bestExchange 74 = .ok (.istore_n 1, 1) := by decide +kernel
theorem dX3_bestExchange_75 : decode cX3_bestExchange 75 = .ok (.bipush 10, 2) := by decide +kernel
theorem dX3_bestExchange_77 : decode cX3_bestExchange 77 = .ok (.iload_n 3, 1) := by decide +kernel
theorem dX3_bestExchange_78 : decode cX3_bestExchange 78 = .ok (.imul, 1) := by decide +kernel
theorem dX3_bestExchange_79 : decode cX3_bestExchange 79 = .ok (.iload 4, 2) := by decide +kernel
theorem dX3_bestExchange_81 : decode cX3_bestExchange 81 = .ok (.iadd, 1) := by decide +kernel
theorem dX3_bestExchange_82 : decode cX3_bestExchange 82 = .ok (.istore_n 2, 1) := by decide +kernel
theorem dX3_bestExchange_83 : decode cX3_bestExchange 83 = .ok (.iinc 4 1, 3) := by decide +kernel
theorem dX3_bestExchange_86 : decode cX3_bestExchange 86 = .ok (.goto (-59), 3) := by decide +kernel
theorem dX3_bestExchange_89 : decode cX3_bestExchange 89 = .ok (.iinc 3 1, 3) := by decide +kernel
theorem dX3_bestExchange_92 : decode cX3_bestExchange 92 = .ok (.goto (-78), 3) := by decide +kernel
theorem dX3_bestExchange_95 : decode cX3_bestExchange 95 = .ok (.iload_n 2, 1) := by decide +kernel
theorem dX3_bestExchange_96 : decode cX3_bestExchange 96 = .ok (.ireturn, 1) := by decide +kernel
def r_X3_bestExchange : Room := { frames := 5, cells := 0, slots := 0, locals := 120 }
def f_X3_bestExchange_L27 (K : PH → Int32 → Int32 → Option (Int32 × PH)) (x0 : Nat) (x3 : Int32) : Nat → PH → Int32 → Int32 → Int32 → Option (Int32 × PH)
  | 0, _, _, _, _ => none
  | n + 1, P, x1, x2, x4 =>
    (if (P.1 x0 1) ≤ x4 then K P x1 x2 else ((f_X4_swap P (P.2.2 x0 5) x3 x4).bind fun q2 => ((f_X2_cutOff q2 x0 (0 : Int32)).bind fun q3 => ((f_J6_bitCount_0f7a4 q2 q3).bind fun q4 => ((f_X4_swap q2 (q2.2.2 x0 5) x3 x4).bind fun q6 => (if x1 ≤ q4 then f_X3_bestExchange_L27 K x0 x3 n q6 x1 x2 (x4 + (1 : Int32)) else f_X3_bestExchange_L27 K x0 x3 n q6 q4 (((10 : Int32) * x3) + x4) (x4 + (1 : Int32))))))))
theorem w_X3_bestExchange_L27 {x : Fx} {E : Ev} (S : ZS x E r_X3_bestExchange cX3_bestExchange 6 RX3 (some .int)) (M : ZM x E) {K : PH → Int32 → Int32 → Option (Int32 × PH)} (x0 : Nat) (x3 : Int32) (h_x0 : ok x0 1 0) (r : (Int32 × PH)) (hK : ∀ (P1 : PH) (y1 : Int32) (y2 : Int32), K P1 y1 y2 = some r → Wz x E 6 (QI E x r.1 r.2) P1 89 [(0, .ref (ad E x0)), (1, .int y1), (2, .int y2), (3, .int x3)] []) : ∀ (n : Nat) (P : PH) (x1 : Int32) (x2 : Int32) (x4 : Int32), f_X3_bestExchange_L27 K x0 x3 n P x1 x2 x4 = some r → Wz x E 6 (QI E x r.1 r.2) P 27 [(0, .ref (ad E x0)), (1, .int x1), (2, .int x2), (3, .int x3), (4, .int x4)] [] := by
  intro n
  induction n with
  | zero => intro P x1 x2 x4 hf; cases hf
  | succ n ih =>
    intro P x1 x2 x4 hf
    unfold f_X3_bestExchange_L27 at hf
    refine z_iload S 4 dX3_bestExchange_27 rfl ?_
    refine z_aload_n S 0 dX3_bestExchange_29 rfl rfl ?_
    refine z_getI S cf_1 h_x0 1 (by decide) rfl wd218 dX3_bestExchange_30 ?_
    refine z_icmp_ge (tgt := 89) S dX3_bestExchange_33 (by decide) hf (fun hf => ?_) (fun hf => ?_)
    · refine z_sub [0, 1, 2, 3] rfl ?_
      exact hK P x1 x2 hf
    · refine z_aload_n S 0 dX3_bestExchange_36 rfl rfl ?_
      refine z_getR (K' := 2) (n' := 0) S cf_1 h_x0 5 (by decide) rfl rfl rfl wd231 dX3_bestExchange_37 (fun h1 => ?_)
      refine z_iload_n S 3 dX3_bestExchange_40 rfl rfl ?_
      refine z_iload S 4 dX3_bestExchange_41 rfl ?_
      refine z_callVV (rc := r_X4_swap) [.int x3, .int x4] S mo_X4_swap wd470 wd471 wd525 h1 (by decide) cl_2 rfl rfl (by decide) (z_room0 S M (by rfl) (by rfl)) rfl (Nat.le_of_ble_eq_true rfl) rfl dX3_bestExchange_43  (fun q => q) (fun q hq => m_X4_swap (xl x) E _ _ _ _ h1 q hq) hf (fun q2 hf => ?_)
      refine z_aload_n S 0 dX3_bestExchange_46 rfl rfl ?_
      refine z_iconst (v := 0) S dX3_bestExchange_47 (by decide) ?_
      refine z_callVI (rc := r_X2_cutOff) [.int (0 : Int32)] S mo_X2_cutOff wd431 wd432 wd524 h_x0 (by decide) cl_1 rfl rfl (by decide) (z_room0 S M (by rfl) (by rfl)) rfl (Nat.le_of_ble_eq_true rfl) rfl dX3_bestExchange_48 (fun q => q) (fun _ => q2) (fun q hq => m_X2_cutOff (xl x) E _ _ _ h_x0 q hq) hf (fun q3 hf => ?_)
      refine z_callSI (rc := r_J6_bitCount_0f7a4) [.int q3] S mo_J6_bitCount_0f7a4 wd455 wd507 rfl rfl (by decide) (z_room0 S M (by rfl) (by rfl)) rfl (Nat.le_of_ble_eq_true rfl) rfl dX3_bestExchange_51 (fun q => q) (fun _ => q2) (fun q hq => m_J6_bitCount_0f7a4 (xl x) E _ _  q hq) hf (fun q4 hf => ?_)
      refine z_istore (lv' := [(5, .int q4), (0, .ref (ad E x0)), (1, .int x1), (2, .int x2), (3, .int x3), (4, .int x4)]) S dX3_bestExchange_54 (by decide) rfl ?_
      refine z_aload_n S 1 dX3_bestExchange_56 rfl rfl ?_
      refine z_getR (K' := 2) (n' := 0) S cf_1 h_x0 5 (by decide) rfl rfl rfl wd231 dX3_bestExchange_57 (fun h5 => ?_)
      refine z_iload_n S 4 dX3_bestExchange_60 rfl rfl ?_
      refine z_iload S 5 dX3_bestExchange_61 rfl ?_
      refine z_callVV (rc := r_X4_swap) [.int x3, .int x4] S mo_X4_swap wd470 wd471 wd525 h5 (by decide) cl_2 rfl rfl (by decide) (z_room0 S M (by rfl) (by rfl)) rfl (Nat.le_of_ble_eq_true rfl) rfl dX3_bestExchange_63  (fun q => q) (fun q hq => m_X4_swap (xl x) E _ _ _ _ h5 q hq) hf (fun q6 hf => ?_)
      refine z_iload S 0 dX3_bestExchange_66 rfl ?_
      refine z_iload_n S 2 dX3_bestExchange_68 rfl rfl ?_
      refine z_icmp_ge (tgt := 83) S dX3_bestExchange_69 (by decide) hf (fun hf => ?_) (fun hf => ?_)
      · refine z_iinc (v := (x4 + (1 : Int32))) (lv' := [(4, .int (x4 + (1 : Int32))), (5, .int q4), (0, .ref (ad E x0)), (1, .int x1), (2, .int x2), (3, .int x3)]) S 5 dX3_bestExchange_83 rfl (by rfl) (by decide) rfl ?_
        refine z_goto (tgt := 27) S dX3_bestExchange_86 (by decide) ?_
        refine z_sub [2, 3, 4, 5, 0] rfl ?_
        exact ih q6 x1 x2 (x4 + (1 : Int32)) hf
      · refine z_iload S 0 dX3_bestExchange_72 rfl ?_
        refine z_istore_n (lv' := [(1, .int q4), (5, .int q4), (0, .ref (ad E x0)), (2, .int x2), (3, .int x3), (4, .int x4)]) S dX3_bestExchange_74 rfl (by decide) rfl ?_
        refine z_bipush (v := 10) S dX3_bestExchange_75 (by decide) ?_
        refine z_iload_n S 4 dX3_bestExchange_77 rfl rfl ?_
        refine z_imul S dX3_bestExchange_78 ?_
        refine z_iload S 5 dX3_bestExchange_79 rfl ?_
        refine z_iadd S dX3_bestExchange_81 ?_
        refine z_istore_n (lv' := [(2, .int (((10 : Int32) * x3) + x4)), (1, .int q4), (5, .int q4), (0, .ref (ad E x0)), (3, .int x3), (4, .int x4)]) S dX3_bestExchange_82 rfl (by decide) rfl ?_
        refine z_iinc (v := (x4 + (1 : Int32))) (lv' := [(4, .int (x4 + (1 : Int32))), (2, .int (((10 : Int32) * x3) + x4)), (1, .int q4), (5, .int q4), (0, .ref (ad E x0)), (3, .int x3)]) S 5 dX3_bestExchange_83 rfl (by rfl) (by decide) rfl ?_
        refine z_goto (tgt := 27) S dX3_bestExchange_86 (by decide) ?_
        refine z_sub [4, 2, 1, 5, 0] rfl ?_
        exact ih q6 q4 (((10 : Int32) * x3) + x4) (x4 + (1 : Int32)) hf
def f_X3_bestExchange_L14 (K : PH → Int32 → Option (Int32 × PH)) (x0 : Nat) : Nat → PH → Int32 → Int32 → Int32 → Option (Int32 × PH)
  | 0, _, _, _, _ => none
  | n + 1, P, x1, x2, x3 =>
    (if (P.1 x0 1) ≤ x3 then K P x2 else f_X3_bestExchange_L27 (fun P9 v7 v8 => f_X3_bestExchange_L14 K x0 n P9 v7 v8 (x3 + (1 : Int32))) x0 x3 1000 P x1 x2 (x3 + (1 : Int32)))
theorem w_X3_bestExchange_L14 {x : Fx} {E : Ev} (S : ZS x E r_X3_bestExchange cX3_bestExchange 6 RX3 (some .int)) (M : ZM x E) {K : PH → Int32 → Option (Int32 × PH)} (x0 : Nat) (h_x0 : ok x0 1 0) (r : (Int32 × PH)) (hK : ∀ (P1 : PH) (y2 : Int32), K P1 y2 = some r → Wz x E 6 (QI E x r.1 r.2) P1 95 [(2, .int y2)] []) : ∀ (n : Nat) (P : PH) (x1 : Int32) (x2 : Int32) (x3 : Int32), f_X3_bestExchange_L14 K x0 n P x1 x2 x3 = some r → Wz x E 6 (QI E x r.1 r.2) P 14 [(0, .ref (ad E x0)), (1, .int x1), (2, .int x2), (3, .int x3)] [] := by
  intro n
  induction n with
  | zero => intro P x1 x2 x3 hf; cases hf
  | succ n ih =>
    intro P x1 x2 x3 hf
    unfold f_X3_bestExchange_L14 at hf
    refine z_iload_n S 3 dX3_bestExchange_14 rfl rfl ?_
    refine z_aload_n S 0 dX3_bestExchange_15 rfl rfl ?_
    refine z_getI S cf_1 h_x0 1 (by decide) rfl wd218 dX3_bestExchange_16 ?_
    refine z_icmp_ge (tgt := 95) S dX3_bestExchange_19 (by decide) hf (fun hf => ?_) (fun hf => ?_)
    · refine z_sub [2] rfl ?_
      exact hK P x2 hf
    · refine z_iload_n S 3 dX3_bestExchange_22 rfl rfl ?_
      refine z_iconst (v := 1) S dX3_bestExchange_23 (by decide) ?_
      refine z_iadd S dX3_bestExchange_24 ?_
      refine z_istore (lv' := [(4, .int (x3 + (1 : Int32))), (0, .ref (ad E x0)), (1, .int x1), (2, .int x2), (3, .int x3)]) S dX3_bestExchange_25 (by decide) rfl ?_
      refine z_sub [1, 2, 3, 4, 0] rfl ?_
      refine w_X3_bestExchange_L27 S M x0 x3 h_x0 r (fun P9 v7 v8 hf => ?_) 1000 P x1 x2 (x3 + (1 : Int32)) hf
      refine z_iinc (v := (x3 + (1 : Int32))) (lv' := [(3, .int (x3 + (1 : Int32))), (0, .ref (ad E x0)), (1, .int v7), (2, .int v8)]) S 3 dX3_bestExchange_89 rfl (by rfl) (by decide) rfl ?_
      refine z_goto (tgt := 14) S dX3_bestExchange_92 (by decide) ?_
      refine z_sub [1, 2, 3, 0] rfl ?_
      exact ih P9 v7 v8 (x3 + (1 : Int32)) hf
def f_X3_bestExchange (P : PH) (x0 : Nat) : Option (Int32 × PH) :=
  ((f_X2_cutOff P x0 (0 : Int32)).bind fun q10 => ((f_J6_bitCount_0f7a4 P q10).bind fun q11 => f_X3_bestExchange_L14 (fun P13 v12 => some (v12, P13)) x0 1000 P q11 (-9 : Int32) (0 : Int32)))
theorem w_X3_bestExchange {x : Fx} {E : Ev} (S : ZS x E r_X3_bestExchange cX3_bestExchange 6 RX3 (some .int)) (M : ZM x E) (P : PH) (x0 : Nat) (h_x0 : ok x0 1 0) (r : (Int32 × PH)) (hf : f_X3_bestExchange P x0 = some r) : Wz x E 6 (QI E x r.1 r.2) P 0 [(0, .ref (ad E x0))] [] := by
  unfold f_X3_bestExchange at hf
  refine z_aload_n S 0 dX3_bestExchange_0 rfl rfl ?_
  refine z_iconst (v := 0) S dX3_bestExchange_1 (by decide) ?_
  refine z_callVI (rc := r_X2_cutOff) [.int (0 : Int32)] S mo_X2_cutOff wd431 wd432 wd524 h_x0 (by decide) cl_1 rfl rfl (by decide) (z_room0 S M (by rfl) (by rfl)) rfl (Nat.le_of_ble_eq_true rfl) rfl dX3_bestExchange_2 (fun q => q) (fun _ => P) (fun q hq => m_X2_cutOff (xl x) E _ _ _ h_x0 q hq) hf (fun q10 hf => ?_)
  refine z_callSI (rc := r_J6_bitCount_0f7a4) [.int q10] S mo_J6_bitCount_0f7a4 wd455 wd507 rfl rfl (by decide) (z_room0 S M (by rfl) (by rfl)) rfl (Nat.le_of_ble_eq_true rfl) rfl dX3_bestExchange_5 (fun q => q) (fun _ => P) (fun q hq => m_J6_bitCount_0f7a4 (xl x) E _ _  q hq) hf (fun q11 hf => ?_)
  refine z_istore_n (lv' := [(1, .int q11), (0, .ref (ad E x0))]) S dX3_bestExchange_8 rfl (by decide) rfl ?_
  refine z_bipush (v := (-9 : Int32)) S dX3_bestExchange_9 (by decide) ?_
  refine z_istore_n (lv' := [(2, .int (-9 : Int32)), (1, .int q11), (0, .ref (ad E x0))]) S dX3_bestExchange_11 rfl (by decide) rfl ?_
  refine z_iconst (v := 0) S dX3_bestExchange_12 (by decide) ?_
  refine z_istore_n (lv' := [(3, .int (0 : Int32)), (2, .int (-9 : Int32)), (1, .int q11), (0, .ref (ad E x0))]) S dX3_bestExchange_13 rfl (by decide) rfl ?_
  refine z_sub [3, 2, 1, 0] rfl ?_
  refine w_X3_bestExchange_L14 S M x0 h_x0 r (fun P13 v12 hf => ?_) 1000 P q11 (-9 : Int32) (0 : Int32) hf
  refine z_iload_n S 0 dX3_bestExchange_95 rfl rfl ?_
  exact z_iretI (v := v12) S M rfl dX3_bestExchange_96 hf
theorem m_X3_bestExchange (l : Launch) (E : Ev) (P : PH) (x0 : Nat) (h_x0 : ok x0 1 0) (r : (Int32 × PH)) (hf : f_X3_bestExchange P x0 = some r) : CtI l E yX3_bestExchange cX3_bestExchange 6 (some .int) r_X3_bestExchange [.ref (ad E x0)] P r.1 r.2 :=
  z_body (own := RX3) (by decide +kernel) rfl (Nat.le_of_ble_eq_true rfl) rfl (fun x _ S M => w_X3_bestExchange S M P x0 h_x0 r hf)
-- yX3_roomsHeldByRight
theorem dX3_roomsHeldByRight_0 : decode cX3_roomsHeldByRight 0 = .ok (.aload_n 0, 1) := by decide +kernel
theorem dX3_roomsHeldByRight_1 : decode cX3_roomsHeldByRight 1 = .ok (.iconst 0, 1) := by decide +kernel
theorem dX3_roomsHeldByRight_2 : decode cX3_roomsHeldByRight 2 = .ok (.invokevirtual 51, 3) := by decide +kernel
theorem dX3_roomsHeldByRight_5 : decode cX3_roomsHeldByRight 5 = .ok (.invokestatic 35, 3) := by decide +kernel
theorem dX3_roomsHeldByRight_8 : decode cX3_roomsHeldByRight 8 = .ok (.istore_n 1, 1) := by decide +kernel
theorem dX3_roomsHeldByRight_9 : decode cX3_roomsHeldByRight 9 = .ok (.iconst 0, 1) := by decide +kernel
theorem dX3_roomsHeldByRight_10 : decode cX3_roomsHeldByRight 10 = .ok (.istore_n 2, 1) := by decide +kernel
theorem dX3_roomsHeldByRight_11 : decode cX3_roomsHeldByRight 11 = .ok (.iconst 0, 1) := by decide +kernel
theorem dX3_roomsHeldByRight_12 : decode cX3_roomsHeldByRight 12 = .ok (.istore_n 3, 1) := by decide +kernel
theorem dX3_roomsHeldByRight_13 : decode cX3_roomsHeldByRight 13 = .ok (.iload_n 3, 1) := by decide +kernel
theorem dX3_roomsHeldByRight_14 : decode cX3_roomsHeldByRight 14 = .ok (.aload_n 0, 1) := by decide +kernel
theorem dX3_roomsHeldByRight_15 : decode cX3_roomsHeldByRight 15 = .ok (.getfield 32, 3) := by decide +kernel
theorem dX3_roomsHeldByRight_18 : decode cX3_roomsHeldByRight 18 = .ok (.if_icmp .ge 29, 3) := by decide +kernel
theorem dX3_roomsHeldByRight_21 : decode cX3_roomsHeldByRight 21 = .ok (.aload_n 0, 1) := by decide +kernel
theorem dX3_roomsHeldByRight_22 : decode cX3_roomsHeldByRight 22 = .ok (.iconst 1, 1) := by decide +kernel
theorem dX3_roomsHeldByRight_23 : decode cX3_roomsHeldByRight 23 = .ok (.iload_n 3, 1) := by decide +kernel
theorem dX3_roomsHeldByRight_24 : decode cX3_roomsHeldByRight 24 = .ok (.ishl, 1) := by decide +kernel
theorem dX3_roomsHeldByRight_25 : decode cX3_roomsHeldByRight 25 = .ok (.invokevirtual 51, 3) := by decide +kernel
theorem dX3_roomsHeldByRight_28 : decode cX3_roomsHeldByRight 28 = .ok (.invokestatic 35, 3) := by decide +kernel
theorem dX3_roomsHeldByRight_31 : decode cX3_roomsHeldByRight 31 = .ok (.iload_n 1, 1) := by decide +kernel
theorem dX3_roomsHeldByRight_32 : decode cX3_roomsHeldByRight 32 = .ok (.if_icmp .le 9, 3) := by decide +kernel
theorem dX3_roomsHeldByRight_35 : decode cX3_roomsHeldByRight 35 = .ok (.iload_n 2, 1) := by decide +kernel
theorem dX3_roomsHeldByRight_36 : decode cX3_roomsHeldByRight 36 = .ok (.iconst 1, 1) := by decide +kernel
theorem dX3_roomsHeldByRight_37 : decode cX3_roomsHeldByRight 37 = .ok (.iload_n 3, 1) := by decide +kernel
theorem dX3_roomsHeldByRight_38 : decode cX3_roomsHeldByRight 38 = .ok (.ishl, 1) := by decide +kernel
theorem dX3_roomsHeldByRight_39 : decode cX3_roomsHeldByRight 39 = .ok (.ior, 1) := by decide +kernel
theorem dX3_roomsHeldByRight_40 : decode cX3_roomsHeldByRight 40 = .ok (.istore_n 2, 1) := by decide +kernel
theorem dX3_roomsHeldByRight_41 : decode cX3_roomsHeldByRight 41 = .ok (.iinc 3 1, 3) := by decide +kernel
theorem dX3_roomsHeldByRight_44 : decode cX3_roomsHeldByRight 44 = .ok (.goto (-31), 3) := by decide +kernel
theorem dX3_roomsHeldByRight_47 : decode cX3_roomsHeldByRight 47 = .ok (.iload_n 2, 1) := by decide +kernel
theorem dX3_roomsHeldByRight_48 : decode cX3_roomsHeldByRight 48 = .ok (.ireturn, 1) := by decide +kernel
def r_X3_roomsHeldByRight : Room := { frames := 5, cells := 0, slots := 0, locals := 120 }
def f_X3_roomsHeldByRight_L13 (K : Int32 → Option Int32) (P : PH) (x0 : Nat) (x1 : Int32) : Nat → Int32 → Int32 → Option Int32
  | 0, _, _ => none
  | n + 1, x2, x3 =>
    (if (P.1 x0 1) ≤ x3 then K x2 else ((f_X2_cutOff P x0 ((1 : Int32) <<< (x3 &&& 31))).bind fun q1 => ((f_J6_bitCount_0f7a4 P q1).bind fun q2 => (if q2 ≤ x1 then f_X3_roomsHeldByRight_L13 K P x0 x1 n x2 (x3 + (1 : Int32)) else f_X3_roomsHeldByRight_L13 K P x0 x1 n (x2 ||| ((1 : Int32) <<< (x3 &&& 31))) (x3 + (1 : Int32))))))
theorem w_X3_roomsHeldByRight_L13 {x : Fx} {E : Ev} (S : ZS x E r_X3_roomsHeldByRight cX3_roomsHeldByRight 4 RX3 (some .int)) (M : ZM x E) {K : Int32 → Option Int32} (P : PH) (x0 : Nat) (x1 : Int32) (h_x0 : ok x0 1 0) (r : Int32) (hK : ∀ (y2 : Int32), K y2 = some r → Wz x E 4 (QI E x r P) P 47 [(2, .int y2)] []) : ∀ (n : Nat) (x2 : Int32) (x3 : Int32), f_X3_roomsHeldByRight_L13 K P x0 x1 n x2 x3 = some r → Wz x E 4 (QI E x r P) P 13 [(0, .ref (ad E x0)), (1, .int x1), (2, .int x2), (3, .int x3)] [] := by
  intro n
  induction n with
  | zero => intro x2 x3 hf; cases hf
  | succ n ih =>
    intro x2 x3 hf
    unfold f_X3_roomsHeldByRight_L13 at hf
    refine z_iload_n S 3 dX3_roomsHeldByRight_13 rfl rfl ?_
    refine z_aload_n S 0 dX3_roomsHeldByRight_14 rfl rfl ?_
    refine z_getI S cf_1 h_x0 1 (by decide) rfl wd218 dX3_roomsHeldByRight_15 ?_
    refine z_icmp_ge (tgt := 47) S dX3_roomsHeldByRight_18 (by decide) hf (fun hf => ?_) (fun hf => ?_)
    · refine z_sub [2] rfl ?_
      exact hK x2 hf
    · refine z_aload_n S 0 dX3_roomsHeldByRight_21 rfl rfl ?_
      refine z_iconst (v := 1) S dX3_roomsHeldByRight_22 (by decide) ?_
      refine z_iload_n S 3 dX3_roomsHeldByRight_23 rfl rfl ?_
      refine z_ishl S dX3_roomsHeldByRight_24 ?_
      refine z_callVI (rc := r_X2_cutOff) [.int ((1 : Int32) <<< (x3 &&& 31))] S mo_X2_cutOff wd431 wd432 wd524 h_x0 (by decide) cl_1 rfl rfl (by decide) (z_room0 S M (by rfl) (by rfl)) rfl (Nat.le_of_ble_eq_true rfl) rfl dX3_roomsHeldByRight_25 (fun q => q) (fun _ => P) (fun q hq => m_X2_cutOff (xl x) E _ _ _ h_x0 q hq) hf (fun q1 hf => ?_)
      refine z_callSI (rc := r_J6_bitCount_0f7a4) [.int q1] S mo_J6_bitCount_0f7a4 wd455 wd507 rfl rfl (by decide) (z_room0 S M (by rfl) (by rfl)) rfl (Nat.le_of_ble_eq_true rfl) rfl dX3_roomsHeldByRight_28 (fun q => q) (fun _ => P) (fun q hq => m_J6_bitCount_0f7a4 (xl x) E _ _  q hq) hf (fun q2 hf => ?_)
      refine z_iload_n S 1 dX3_roomsHeldByRight_31 rfl rfl ?_
      refine z_icmp_le (tgt := 41) S dX3_roomsHeldByRight_32 (by decide) hf (fun hf => ?_) (fun hf => ?_)
      · refine z_iinc (v := (x3 + (1 : Int32))) (lv' := [(3, .int (x3 + (1 : Int32))), (0, .ref (ad E x0)), (1, .int x1), (2, .int x2)]) S 3 dX3_roomsHeldByRight_41 rfl (by rfl) (by decide) rfl ?_
        refine z_goto (tgt := 13) S dX3_roomsHeldByRight_44 (by decide) ?_
        refine z_sub [1, 2, 3, 0] rfl ?_
        exact ih x2 (x3 + (1 : Int32)) hf
      · refine z_iload_n S 2 dX3_roomsHeldByRight_35 rfl rfl ?_
        refine z_iconst (v := 1) S dX3_roomsHeldByRight_36 (by decide) ?_
        refine z_iload_n S 3 dX3_roomsHeldByRight_37 rfl rfl ?_
        refine z_ishl S dX3_roomsHeldByRight_38 ?_
        refine z_ior S dX3_roomsHeldByRight_39 ?_
        refine z_istore_n (lv' := [(2, .int (x2 ||| ((1 : Int32) <<< (x3 &&& 31)))), (0, .ref (ad E x0)), (1, .int x1), (3, .int x3)]) S dX3_roomsHeldByRight_40 rfl (by decide) rfl ?_
        refine z_iinc (v := (x3 + (1 : Int32))) (lv' := [(3, .int (x3 + (1 : Int32))), (2, .int (x2 ||| ((1 : Int32) <<< (x3 &&& 31)))), (0, .ref (ad E x0)), (1, .int x1)]) S 3 dX3_roomsHeldByRight_41 rfl (by rfl) (by decide) rfl ?_
        refine z_goto (tgt := 13) S dX3_roomsHeldByRight_44 (by decide) ?_
        refine z_sub [2, 3, 1, 0] rfl ?_
        exact ih (x2 ||| ((1 : Int32) <<< (x3 &&& 31))) (x3 + (1 : Int32)) hf
def f_X3_roomsHeldByRight (P : PH) (x0 : Nat) : Option Int32 :=
  ((f_X2_cutOff P x0 (0 : Int32)).bind fun q3 => ((f_J6_bitCount_0f7a4 P q3).bind fun q4 => f_X3_roomsHeldByRight_L13 (fun v5 => some v5) P x0 q4 1000 (0 : Int32) (0 : Int32)))
theorem w_X3_roomsHeldByRight {x : Fx} {E : Ev} (S : ZS x E r_X3_roomsHeldByRight cX3_roomsHeldByRight 4 RX3 (some .int)) (M : ZM x E) (P : PH) (x0 : Nat) (h_x0 : ok x0 1 0) (r : Int32) (hf : f_X3_roomsHeldByRight P x0 = some r) : Wz x E 4 (QI E x r P) P 0 [(0, .ref (ad E x0))] [] := by
  unfold f_X3_roomsHeldByRight at hf
  refine z_aload_n S 0 dX3_roomsHeldByRight_0 rfl rfl ?_
  refine z_iconst (v := 0) S dX3_roomsHeldByRight_1 (by decide) ?_
  refine z_callVI (rc := r_X2_cutOff) [.int (0 : Int32)] S mo_X2_cutOff wd431 wd432 wd524 h_x0 (by decide) cl_1 rfl rfl (by decide) (z_room0 S M (by rfl) (by rfl)) rfl (Nat.le_of_ble_eq_true rfl) rfl dX3_roomsHeldByRight_2 (fun q => q) (fun _ => P) (fun q hq => m_X2_cutOff (xl x) E _ _ _ h_x0 q hq) hf (fun q3 hf => ?_)
  refine z_callSI (rc := r_J6_bitCount_0f7a4) [.int q3] S mo_J6_bitCount_0f7a4 wd455 wd507 rfl rfl (by decide) (z_room0 S M (by rfl) (by rfl)) rfl (Nat.le_of_ble_eq_true rfl) rfl dX3_roomsHeldByRight_5 (fun q => q) (fun _ => P) (fun q hq => m_J6_bitCount_0f7a4 (xl x) E _ _  q hq) hf (fun q4 hf => ?_)
  refine z_istore_n (lv' := [(1, .int q4), (0, .ref (ad E x0))]) S dX3_roomsHeldByRight_8 rfl (by decide) rfl ?_
  refine z_iconst (v := 0) S dX3_roomsHeldByRight_9 (by decide) ?_
  refine z_istore_n (lv' := [(2, .int (0 : Int32)), (1, .int q4), (0, .ref (ad E x0))]) S dX3_roomsHeldByRight_10 rfl (by decide) rfl ?_
  refine z_iconst (v := 0) S dX3_roomsHeldByRight_11 (by decide) ?_
  refine z_istore_n (lv' := [(3, .int (0 : Int32)), (2, .int (0 : Int32)), (1, .int q4), (0, .ref (ad E x0))]) S dX3_roomsHeldByRight_12 rfl (by decide) rfl ?_
  refine z_sub [3, 2, 1, 0] rfl ?_
  refine w_X3_roomsHeldByRight_L13 S M _ x0 q4 h_x0 r (fun v5 hf => ?_) 1000 (0 : Int32) (0 : Int32) hf
  refine z_iload_n S 0 dX3_roomsHeldByRight_47 rfl rfl ?_
  exact z_iretP (v := v5) S M rfl dX3_roomsHeldByRight_48 hf
theorem m_X3_roomsHeldByRight (l : Launch) (E : Ev) (P : PH) (x0 : Nat) (h_x0 : ok x0 1 0) (r : Int32) (hf : f_X3_roomsHeldByRight P x0 = some r) : CtI l E yX3_roomsHeldByRight cX3_roomsHeldByRight 4 (some .int) r_X3_roomsHeldByRight [.ref (ad E x0)] P r P :=
  z_body (own := RX3) (by decide +kernel) rfl (Nat.le_of_ble_eq_true rfl) rfl (fun x _ S M => w_X3_roomsHeldByRight S M P x0 h_x0 r hf)
-- yX3_doorsBetween
theorem dX3_doorsBetween_0 : decode cX3_doorsBetween 0 = .ok (.iconst 0, 1) := by decide +kernel
theorem dX3_doorsBetween_1 : decode cX3_doorsBetween 1 = .ok (.istore_n 3, 1) := by decide +kernel
theorem dX3_doorsBetween_2 : decode cX3_doorsBetween 2 = .ok (.iconst 0, 1) := by decide +kernel
theorem dX3_doorsBetween_3 : decode cX3_doorsBetween 3 = .ok (.istore 4, 2) := by decide +kernel
theorem dX3_doorsBetween_5 : decode cX3_doorsBetween 5 = .ok (.iload 4, 2) := by decide +kernel
theorem dX3_doorsBetween_7 : decode cX3_doorsBetween 7 = .ok (.aload_n 0, 1) := by decide +kernel
theorem dX3_doorsBetween_8 : decode cX3_doorsBetween 8 = .ok (.getfield 44, 3) := by decide +kernel
theorem dX3_doorsBetween_11 : decode cX3_doorsBetween 11 = .ok (.if_icmp .ge 18, 3) := by decide +kernel
theorem dX3_doorsBetween_14 : decode cX3_doorsBetween 14 = .ok (.iload_n 3, 1) := by decide +kernel
theorem dX3_doorsBetween_15 : decode cX3_doorsBetween 15 = .ok (.aload_n 0, 1) := by decide +kernel
theorem dX3_doorsBetween_16 : decode cX3_doorsBetween 16 = .ok (.iload 4, 2) := by decide +kernel
theorem dX3_doorsBetween_18 : decode cX3_doorsBetween 18 = .ok (.invokevirtual 28, 3) := by decide +kernel
theorem dX3_doorsBetween_21 : decode cX3_doorsBetween 21 = .ok (.ior, 1) := by decide +kernel
theorem dX3_doorsBetween_22 : decode cX3_doorsBetween 22 = .ok (.istore_n 3, 1) := by decide +kernel
theorem dX3_doorsBetween_23 : decode cX3_doorsBetween 23 = .ok (.iinc 4 1, 3) := by decide +kernel
theorem dX3_doorsBetween_26 : decode cX3_doorsBetween 26 = .ok (.goto (-21), 3) := by decide +kernel
theorem dX3_doorsBetween_29 : decode cX3_doorsBetween 29 = .ok (.iconst 1, 1) := by decide +kernel
theorem dX3_doorsBetween_30 : decode cX3_doorsBetween 30 = .ok (.iload_n 1, 1) := by decide +kernel
theorem dX3_doorsBetween_31 : decode cX3_doorsBetween 31 = .ok (.ishl, 1) := by decide +kernel
theorem dX3_doorsBetween_32 : decode cX3_doorsBetween 32 = .ok (.iload_n 3, 1) := by decide +kernel
theorem dX3_doorsBetween_33 : decode cX3_doorsBetween 33 = .ok (.iand, 1) := by decide +kernel
theorem dX3_doorsBetween_34 : decode cX3_doorsBetween 34 = .ok (.istore 4, 2) := by decide +kernel
theorem dX3_doorsBetween_36 : decode cX3_doorsBetween 36 = .ok (.iconst 0, 1) := by decide +kernel
theorem dX3_doorsBetween_37 : decode cX3_doorsBetween 37 = .ok (.istore 5, 2) := by decide +kernel
theorem dX3_doorsBetween_39 : decode cX3_doorsBetween 39 = .ok (.iload 5, 2) := by decide +kernel
theorem dX3_doorsBetween_41 : decode cX3_doorsBetween 41 = .ok (.aload_n 0, 1) := by decide +kernel
theorem dX3_doorsBetween_42 : decode cX3_doorsBetween 42 = .ok (.getfield 32, 3) := by decide +kernel
theorem dX3_doorsBetween_45 : decode cX3_doorsBetween 45 = .ok (.if_icmp .ge 35, 3) := by decide +kernel
theorem dX3_doorsBetween_48 : decode cX3_doorsBetween 48 = .ok (.iload 4, 2) := by decide +kernel
theorem dX3_doorsBetween_50 : decode cX3_doorsBetween 50 = .ok (.iload_n 2, 1) := by decide +kernel
theorem dX3_doorsBetween_51 : decode cX3_doorsBetween 51 = .ok (.ishr, 1) := by decide +kernel
theorem dX3_doorsBetween_52 : decode cX3_doorsBetween 52 = .ok (.iconst 1, 1) := by decide +kernel
theorem dX3_doorsBetween_53 : decode cX3_doorsBetween 53 = .ok (.iand, 1) := by decide +kernel
theorem dX3_doorsBetween_54 : decode cX3_doorsBetween 54 = .ok (.iconst 1, 1) := by decide +kernel
theorem dX3_doorsBetween_55 : decode cX3_doorsBetween 55 = .ok (.if_icmp .ne 6, 3) := by decide +kernel
theorem dX3_doorsBetween_58 : decode cX3_doorsBetween 58 = .ok (.iload 5, 2) := by decide +kernel
theorem dX3_doorsBetween_60 : decode cX3_doorsBetween 60 = .ok (.ireturn, 1) := by decide +kernel
theorem dX3_doorsBetween_61 : decode cX3_doorsBetween 61 = .ok (.iload 4, 2) := by decide +kernel
theorem dX3_doorsBetween_63 : decode cX3_doorsBetween 63 = .ok (.aload_n 0, 1) := by decide +kernel
theorem dX3_doorsBetween_64 : decode cX3_doorsBetween 64 = .ok (.iload 4, 2) := by decide +kernel
theorem dX3_doorsBetween_66 : decode cX3_doorsBetween 66 = .ok (.invokevirtual 58, 3) := by decide +kernel
theorem dX3_doorsBetween_69 : decode cX3_doorsBetween 69 = .ok (.iload_n 3, 1) := by decide +kernel
theorem dX3_doorsBetween_70 : decode cX3_doorsBetween 70 = .ok (.iand, 1) := by decide +kernel
theorem dX3_doorsBetween_71 : decode cX3_doorsBetween 71 = .ok (.ior, 1) := by decide +kernel
theorem dX3_doorsBetween_72 : decode cX3_doorsBetween 72 = .ok (.istore 4, 2) := by decide +kernel
theorem dX3_doorsBetween_74 : decode cX3_doorsBetween 74 = .ok (.iinc 5 1, 3) := by decide +kernel
theorem dX3_doorsBetween_77 : decode cX3_doorsBetween 77 = .ok (.goto (-38), 3) := by decide +kernel
theorem dX3_doorsBetween_80 : decode cX3_doorsBetween 80 = .ok (.bipush (-9), 2) := by decide +kernel
theorem dX3_doorsBetween_82 : decode cX3_doorsBetween 82 = .ok (.ireturn, 1) := by decide +kernel
def r_X3_doorsBetween : Room := { frames := 4, cells := 0, slots := 0, locals := 94 }
def f_X3_doorsBetween_L39 (K0 : Int32 → Option Int32) (K1 : Option Int32) (P : PH) (x0 : Nat) (x2 : Int32) (x3 : Int32) : Nat → Int32 → Int32 → Option Int32
  | 0, _, _ => none
  | n + 1, x4, x5 =>
    (if (P.1 x0 1) ≤ x5 then K1 else (if ((x4 >>> (x2 &&& 31)) &&& (1 : Int32)) = (1 : Int32) then K0 x5 else ((f_X2_behindDoorsOf P x0 x4).bind fun q1 => f_X3_doorsBetween_L39 K0 K1 P x0 x2 x3 n (x4 ||| (q1 &&& x3)) (x5 + (1 : Int32)))))
theorem w_X3_doorsBetween_L39 {x : Fx} {E : Ev} (S : ZS x E r_X3_doorsBetween cX3_doorsBetween 6 RX3 (some .int)) (M : ZM x E) {K0 : Int32 → Option Int32} {K1 : Option Int32} (P : PH) (x0 : Nat) (x2 : Int32) (x3 : Int32) (h_x0 : ok x0 1 0) (r : Int32) (hK0 : ∀ (y5 : Int32), K0 y5 = some r → Wz x E 6 (QI E x r P) P 58 [(5, .int y5)] []) (hK1 : K1  = some r → Wz x E 6 (QI E x r P) P 80 [] []) : ∀ (n : Nat) (x4 : Int32) (x5 : Int32), f_X3_doorsBetween_L39 K0 K1 P x0 x2 x3 n x4 x5 = some r → Wz x E 6 (QI E x r P) P 39 [(0, .ref (ad E x0)), (2, .int x2), (3, .int x3), (4, .int x4), (5, .int x5)] [] := by
  intro n
  induction n with
  | zero => intro x4 x5 hf; cases hf
  | succ n ih =>
    intro x4 x5 hf
    unfold f_X3_doorsBetween_L39 at hf
    refine z_iload S 4 dX3_doorsBetween_39 rfl ?_
    refine z_aload_n S 0 dX3_doorsBetween_41 rfl rfl ?_
    refine z_getI S cf_1 h_x0 1 (by decide) rfl wd218 dX3_doorsBetween_42 ?_
    refine z_icmp_ge (tgt := 80) S dX3_doorsBetween_45 (by decide) hf (fun hf => ?_) (fun hf => ?_)
    · refine z_sub [] rfl ?_
      exact hK1  hf
    · refine z_iload S 3 dX3_doorsBetween_48 rfl ?_
      refine z_iload_n S 1 dX3_doorsBetween_50 rfl rfl ?_
      refine z_ishr S dX3_doorsBetween_51 ?_
      refine z_iconst (v := 1) S dX3_doorsBetween_52 (by decide) ?_
      refine z_iand S dX3_doorsBetween_53 ?_
      refine z_iconst (v := 1) S dX3_doorsBetween_54 (by decide) ?_
      refine z_icmp_ne (tgt := 61) S dX3_doorsBetween_55 (by decide) hf (fun hf => ?_) (fun hf => ?_)
      · refine z_sub [4] rfl ?_
        exact hK0 x5 hf
      · refine z_iload S 3 dX3_doorsBetween_61 rfl ?_
        refine z_aload_n S 0 dX3_doorsBetween_63 rfl rfl ?_
        refine z_iload S 3 dX3_doorsBetween_64 rfl ?_
        refine z_callVI (rc := r_X2_behindDoorsOf) [.int x4] S mo_X2_behindDoorsOf wd396 wd397 wd540 h_x0 (by decide) cl_1 rfl rfl (by decide) (z_room0 S M (by rfl) (by rfl)) rfl (Nat.le_of_ble_eq_true rfl) rfl dX3_doorsBetween_66 (fun q => q) (fun _ => P) (fun q hq => m_X2_behindDoorsOf (xl x) E _ _ _ h_x0 q hq) hf (fun q1 hf => ?_)
        refine z_iload_n S 2 dX3_doorsBetween_69 rfl rfl ?_
        refine z_iand S dX3_doorsBetween_70 ?_
        refine z_ior S dX3_doorsBetween_71 ?_
        refine z_istore (lv' := [(4, .int (x4 ||| (q1 &&& x3))), (0, .ref (ad E x0)), (2, .int x2), (3, .int x3), (5, .int x5)]) S dX3_doorsBetween_72 (by decide) rfl ?_
        refine z_iinc (v := (x5 + (1 : Int32))) (lv' := [(5, .int (x5 + (1 : Int32))), (4, .int (x4 ||| (q1 &&& x3))), (0, .ref (ad E x0)), (2, .int x2), (3, .int x3)]) S 4 dX3_doorsBetween_74 rfl (by rfl) (by decide) rfl ?_
        refine z_goto (tgt := 39) S dX3_doorsBetween_77 (by decide) ?_
        refine z_sub [2, 3, 4, 1, 0] rfl ?_
        exact ih (x4 ||| (q1 &&& x3)) (x5 + (1 : Int32)) hf
def f_X3_doorsBetween_L5 (K : Int32 → Option Int32) (P : PH) (x0 : Nat) (x1 : Int32) (x2 : Int32) : Nat → Int32 → Int32 → Option Int32
  | 0, _, _ => none
  | n + 1, x3, x4 =>
    (if (P.1 x0 0) ≤ x4 then K x3 else ((f_X2_mayNow P x0 x4).bind fun q2 => f_X3_doorsBetween_L5 K P x0 x1 x2 n (x3 ||| q2) (x4 + (1 : Int32))))
theorem w_X3_doorsBetween_L5 {x : Fx} {E : Ev} (S : ZS x E r_X3_doorsBetween cX3_doorsBetween 6 RX3 (some .int)) (M : ZM x E) {K : Int32 → Option Int32} (P : PH) (x0 : Nat) (x1 : Int32) (x2 : Int32) (h_x0 : ok x0 1 0) (r : Int32) (hK : ∀ (y3 : Int32), K y3 = some r → Wz x E 6 (QI E x r P) P 29 [(0, .ref (ad E x0)), (1, .int x1), (2, .int x2), (3, .int y3)] []) : ∀ (n : Nat) (x3 : Int32) (x4 : Int32), f_X3_doorsBetween_L5 K P x0 x1 x2 n x3 x4 = some r → Wz x E 6 (QI E x r P) P 5 [(0, .ref (ad E x0)), (1, .int x1), (2, .int x2), (3, .int x3), (4, .int x4)] [] := by
  intro n
  induction n with
  | zero => intro x3 x4 hf; cases hf
  | succ n ih =>
    intro x3 x4 hf
    unfold f_X3_doorsBetween_L5 at hf
    refine z_iload S 4 dX3_doorsBetween_5 rfl ?_
    refine z_aload_n S 0 dX3_doorsBetween_7 rfl rfl ?_
    refine z_getI S cf_1 h_x0 0 (by decide) rfl wd214 dX3_doorsBetween_8 ?_
    refine z_icmp_ge (tgt := 29) S dX3_doorsBetween_11 (by decide) hf (fun hf => ?_) (fun hf => ?_)
    · refine z_sub [0, 1, 2, 3] rfl ?_
      exact hK x3 hf
    · refine z_iload_n S 3 dX3_doorsBetween_14 rfl rfl ?_
      refine z_aload_n S 0 dX3_doorsBetween_15 rfl rfl ?_
      refine z_iload S 4 dX3_doorsBetween_16 rfl ?_
      refine z_callVI (rc := r_X2_mayNow) [.int x4] S mo_X2_mayNow wd372 wd373 wd506 h_x0 (by decide) cl_1 rfl rfl (by decide) (z_room0 S M (by rfl) (by rfl)) rfl (Nat.le_of_ble_eq_true rfl) rfl dX3_doorsBetween_18 (fun q => q) (fun _ => P) (fun q hq => m_X2_mayNow (xl x) E _ _ _ h_x0 q hq) hf (fun q2 hf => ?_)
      refine z_ior S dX3_doorsBetween_21 ?_
      refine z_istore_n (lv' := [(3, .int (x3 ||| q2)), (0, .ref (ad E x0)), (1, .int x1), (2, .int x2), (4, .int x4)]) S dX3_doorsBetween_22 rfl (by decide) rfl ?_
      refine z_iinc (v := (x4 + (1 : Int32))) (lv' := [(4, .int (x4 + (1 : Int32))), (3, .int (x3 ||| q2)), (0, .ref (ad E x0)), (1, .int x1), (2, .int x2)]) S 4 dX3_doorsBetween_23 rfl (by rfl) (by decide) rfl ?_
      refine z_goto (tgt := 5) S dX3_doorsBetween_26 (by decide) ?_
      refine z_sub [2, 3, 4, 1, 0] rfl ?_
      exact ih (x3 ||| q2) (x4 + (1 : Int32)) hf
def f_X3_doorsBetween (P : PH) (x0 : Nat) (x1 : Int32) (x2 : Int32) : Option Int32 :=
  f_X3_doorsBetween_L5 (fun v3 => f_X3_doorsBetween_L39 (fun v4 => some v4) (some (-9 : Int32)) P x0 x2 v3 1000 (((1 : Int32) <<< (x1 &&& 31)) &&& v3) (0 : Int32)) P x0 x1 x2 1000 (0 : Int32) (0 : Int32)
theorem w_X3_doorsBetween {x : Fx} {E : Ev} (S : ZS x E r_X3_doorsBetween cX3_doorsBetween 6 RX3 (some .int)) (M : ZM x E) (P : PH) (x0 : Nat) (x1 : Int32) (x2 : Int32) (h_x0 : ok x0 1 0) (r : Int32) (hf : f_X3_doorsBetween P x0 x1 x2 = some r) : Wz x E 6 (QI E x r P) P 0 [(0, .ref (ad E x0)), (1, .int x1), (2, .int x2)] [] := by
  unfold f_X3_doorsBetween at hf
  refine z_iconst (v := 0) S dX3_doorsBetween_0 (by decide) ?_
  refine z_istore_n (lv' := [(3, .int (0 : Int32)), (0, .ref (ad E x0)), (1, .int x1), (2, .int x2)]) S dX3_doorsBetween_1 rfl (by decide) rfl ?_
  refine z_iconst (v := 0) S dX3_doorsBetween_2 (by decide) ?_
  refine z_istore (lv' := [(4, .int (0 : Int32)), (3, .int (0 : Int32)), (0, .ref (ad E x0)), (1, .int x1), (2, .int x2)]) S dX3_doorsBetween_3 (by decide) rfl ?_
  refine z_sub [2, 3, 4, 1, 0] rfl ?_
  refine w_X3_doorsBetween_L5 S M _ x0 x1 x2 h_x0 r (fun v3 hf => ?_) 1000 (0 : Int32) (0 : Int32) hf
  refine z_iconst (v := 1) S dX3_doorsBetween_29 (by decide) ?_
  refine z_iload_n S 1 dX3_doorsBetween_30 rfl rfl ?_
  refine z_ishl S dX3_doorsBetween_31 ?_
  refine z_iload_n S 3 dX3_doorsBetween_32 rfl rfl ?_
  refine z_iand S dX3_doorsBetween_33 ?_
  refine z_istore (lv' := [(4, .int (((1 : Int32) <<< (x1 &&& 31)) &&& v3)), (0, .ref (ad E x0)), (1, .int x1), (2, .int x2), (3, .int v3)]) S dX3_doorsBetween_34 (by decide) rfl ?_
  refine z_iconst (v := 0) S dX3_doorsBetween_36 (by decide) ?_
  refine z_istore (lv' := [(5, .int (0 : Int32)), (4, .int (((1 : Int32) <<< (x1 &&& 31)) &&& v3)), (0, .ref (ad E x0)), (1, .int x1), (2, .int x2), (3, .int v3)]) S dX3_doorsBetween_37 (by decide) rfl ?_
  refine z_sub [2, 4, 5, 1, 0] rfl ?_
  refine w_X3_doorsBetween_L39 S M _ x0 x2 v3 h_x0 r (fun v4 hf => ?_) (fun hf => ?_) 1000 (((1 : Int32) <<< (x1 &&& 31)) &&& v3) (0 : Int32) hf
  · refine z_iload S 0 dX3_doorsBetween_58 rfl ?_
    exact z_iretP (v := v4) S M rfl dX3_doorsBetween_60 hf
  · refine z_bipush (v := (-9 : Int32)) S dX3_doorsBetween_80 (by decide) ?_
    exact z_iretP (v := (-9 : Int32)) S M rfl dX3_doorsBetween_82 hf
theorem m_X3_doorsBetween (l : Launch) (E : Ev) (P : PH) (x0 : Nat) (x1 : Int32) (x2 : Int32) (h_x0 : ok x0 1 0) (r : Int32) (hf : f_X3_doorsBetween P x0 x1 x2 = some r) : CtI l E yX3_doorsBetween cX3_doorsBetween 6 (some .int) r_X3_doorsBetween [.ref (ad E x0), .int x1, .int x2] P r P :=
  z_body (own := RX3) (by decide +kernel) rfl (Nat.le_of_ble_eq_true rfl) rfl (fun x _ S M => w_X3_doorsBetween S M P x0 x1 x2 h_x0 r hf)
-- yX5_asRoom
theorem dX5_asRoom_0 : decode cX5_asRoom 0 = .ok (.aload_n 0, 1) := by decide +kernel
theorem dX5_asRoom_1 : decode cX5_asRoom 1 = .ok (.dup, 1) := by decide +kernel
theorem dX5_asRoom_2 : decode cX5_asRoom 2 = .ok (.getfield 7, 3) := by decide +kernel
theorem dX5_asRoom_5 : decode cX5_asRoom 5 = .ok (.lconst 1, 1) := by decide +kernel
theorem dX5_asRoom_6 : decode cX5_asRoom 6 = .ok (.ladd, 1) := by decide +kernel
theorem dX5_asRoom_7 : decode cX5_asRoom 7 = .ok (.putfield 7, 3) := by decide +kernel
theorem dX5_asRoom_10 : decode cX5_asRoom 10 = .ok (.aload_n 1, 1) := by decide +kernel
theorem dX5_asRoom_11 : decode cX5_asRoom 11 = .ok (.getfield 13, 3) := by decide +kernel
theorem dX5_asRoom_14 : decode cX5_asRoom 14 = .ok (.iload_n 2, 1) := by decide +kernel
theorem dX5_asRoom_15 : decode cX5_asRoom 15 = .ok (.iaload, 1) := by decide +kernel
theorem dX5_asRoom_16 : decode cX5_asRoom 16 = .ok (.invokestatic 19, 3) := by decide +kernel
theorem dX5_asRoom_19 : decode cX5_asRoom 19 = .ok (.ireturn, 1) := by decide +kernel
def r_X5_asRoom : Room := { frames := 1, cells := 0, slots := 0, locals := 20 }
def f_X5_asRoom (P : PH) (x0 : Nat) (x1 : Nat) (x2 : Int32) : Option (Int32 × PH) :=
  (if (x2 < 0 ∨ 7 ≤ x2.toNatClampNeg) then none else ((f_J6_bitCount_0f7a4 (sL P x0 ((P.2.1 x0) + (1 : Int64))) ((sL P x0 ((P.2.1 x0) + (1 : Int64))).1 ((sL P x0 ((P.2.1 x0) + (1 : Int64))).2.2 x1 2) x2.toNatClampNeg)).bind fun q2 => some (q2, (sL P x0 ((P.2.1 x0) + (1 : Int64))))))
theorem w_X5_asRoom {x : Fx} {E : Ev} (S : ZS x E r_X5_asRoom cX5_asRoom 3 RX5 (some .int)) (M : ZM x E) (P : PH) (x0 : Nat) (x1 : Nat) (x2 : Int32) (h_x0 : ok x0 3 0) (h_x1 : ok x1 1 0) (r : (Int32 × PH)) (hf : f_X5_asRoom P x0 x1 x2 = some r) : Wz x E 3 (QI E x r.1 r.2) P 0 [(0, .ref (ad E x0)), (1, .ref (ad E x1)), (2, .int x2)] [] := by
  unfold f_X5_asRoom at hf
  refine z_aload_n S 0 dX5_asRoom_0 rfl rfl ?_
  refine z_dup S dX5_asRoom_1 rfl ?_
  refine z_getL S cf_3 h_x0 0 (by decide) rfl wd145 dX5_asRoom_2 ?_
  refine z_lconst (v := 1) S dX5_asRoom_5 (by decide) ?_
  refine z_ladd S dX5_asRoom_6 ?_
  refine z_putL S cf_3 h_x0 0 (by decide) rfl sole_3 rfl rfl rfl wd145 dX5_asRoom_7 ?_
  refine z_aload_n S 1 dX5_asRoom_10 rfl rfl ?_
  refine z_getR (K' := 9) (n' := 7) S cf_1 h_x1 2 (by decide) rfl rfl rfl wd222 dX5_asRoom_11 (fun h1 => ?_)
  refine z_iload_n S 2 dX5_asRoom_14 rfl rfl ?_
  refine z_iald S h1 dX5_asRoom_15 hf (fun hf => ?_)
  refine z_callSI (rc := r_J6_bitCount_0f7a4) [.int ((sL P x0 ((P.2.1 x0) + (1 : Int64))).1 ((sL P x0 ((P.2.1 x0) + (1 : Int64))).2.2 x1 2) x2.toNatClampNeg)] S mo_J6_bitCount_0f7a4 wd455 wd606 rfl rfl (by decide) (z_room0 S M (by rfl) (by rfl)) rfl (Nat.le_of_ble_eq_true rfl) rfl dX5_asRoom_16 (fun q => q) (fun _ => (sL P x0 ((P.2.1 x0) + (1 : Int64)))) (fun q hq => m_J6_bitCount_0f7a4 (xl x) E _ _  q hq) hf (fun q2 hf => ?_)
  exact z_iretI (v := q2) S M rfl dX5_asRoom_19 hf
theorem m_X5_asRoom (l : Launch) (E : Ev) (P : PH) (x0 : Nat) (x1 : Nat) (x2 : Int32) (h_x0 : ok x0 3 0) (h_x1 : ok x1 1 0) (r : (Int32 × PH)) (hf : f_X5_asRoom P x0 x1 x2 = some r) : CtI l E yX5_asRoom cX5_asRoom 3 (some .int) r_X5_asRoom [.ref (ad E x0), .ref (ad E x1), .int x2] P r.1 r.2 :=
  z_body (own := RX5) (by decide +kernel) rfl (Nat.le_of_ble_eq_true rfl) rfl (fun x _ S M => w_X5_asRoom S M P x0 x1 x2 h_x0 h_x1 r hf)
-- yX5_asHall
theorem dX5_asHall_0 : decode cX5_asHall 0 = .ok (.aload_n 0, 1) := by decide +kernel
theorem dX5_asHall_1 : decode cX5_asHall 1 = .ok (.dup, 1) := by decide +kernel
theorem dX5_asHall_2 : decode cX5_asHall 2 = .ok (.getfield 7, 3) := by decide +kernel
theorem dX5_asHall_5 : decode cX5_asHall 5 = .ok (.ldc2_w 25, 3) := by decide +kernel
theorem dX5_asHall_8 : decode cX5_asHall 8 = .ok (.ladd, 1) := by decide +kernel
theorem dX5_asHall_9 : decode cX5_asHall 9 = .ok (.putfield 7, 3) := by decide +kernel
theorem dX5_asHall_12 : decode cX5_asHall 12 = .ok (.aload_n 0, 1) := by decide +kernel
theorem dX5_asHall_13 : decode cX5_asHall 13 = .ok (.aload_n 1, 1) := by decide +kernel
theorem dX5_asHall_14 : decode cX5_asHall 14 = .ok (.iload_n 2, 1) := by decide +kernel
theorem dX5_asHall_15 : decode cX5_asHall 15 = .ok (.invokevirtual 27, 3) := by decide +kernel
theorem dX5_asHall_18 : decode cX5_asHall 18 = .ok (.aload_n 1, 1) := by decide +kernel
theorem dX5_asHall_19 : decode cX5_asHall 19 = .ok (.iload_n 2, 1) := by decide +kernel
theorem dX5_asHall_20 : decode cX5_asHall 20 = .ok (.invokevirtual 31, 3) := by decide +kernel
theorem dX5_asHall_23 : decode cX5_asHall 23 = .ok (.invokestatic 19, 3) := by decide +kernel
theorem dX5_asHall_26 : decode cX5_asHall 26 = .ok (.iadd, 1) := by decide +kernel
theorem dX5_asHall_27 : decode cX5_asHall 27 = .ok (.ireturn, 1) := by decide +kernel
def r_X5_asHall : Room := { frames := 4, cells := 0, slots := 0, locals := 96 }
def f_X5_asHall (P : PH) (x0 : Nat) (x1 : Nat) (x2 : Int32) : Option (Int32 × PH) :=
  ((f_X5_asRoom (sL P x0 ((P.2.1 x0) + (10 : Int64))) x0 x1 x2).bind fun q1 => ((f_X2_whoMay q1.2 x1 x2).bind fun q2 => ((f_J6_bitCount_0f7a4 q1.2 q2).bind fun q3 => some ((q1.1 + q3), q1.2))))
theorem w_X5_asHall {x : Fx} {E : Ev} (S : ZS x E r_X5_asHall cX5_asHall 3 RX5 (some .int)) (M : ZM x E) (P : PH) (x0 : Nat) (x1 : Nat) (x2 : Int32) (h_x0 : ok x0 3 0) (h_x1 : ok x1 1 0) (r : (Int32 × PH)) (hf : f_X5_asHall P x0 x1 x2 = some r) : Wz x E 3 (QI E x r.1 r.2) P 0 [(0, .ref (ad E x0)), (1, .ref (ad E x1)), (2, .int x2)] [] := by
  unfold f_X5_asHall at hf
  refine z_aload_n S 0 dX5_asHall_0 rfl rfl ?_
  refine z_dup S dX5_asHall_1 rfl ?_
  refine z_getL S cf_3 h_x0 0 (by decide) rfl wd145 dX5_asHall_2 ?_
  refine z_ldc2 (v := 10) S wd611 dX5_asHall_5 ?_
  refine z_ladd S dX5_asHall_8 ?_
  refine z_putL S cf_3 h_x0 0 (by decide) rfl sole_3 rfl rfl rfl wd145 dX5_asHall_9 ?_
  refine z_aload_n S 0 dX5_asHall_12 rfl rfl ?_
  refine z_aload_n S 1 dX5_asHall_13 rfl rfl ?_
  refine z_iload_n S 2 dX5_asHall_14 rfl rfl ?_
  refine z_callVI (rc := r_X5_asRoom) [.ref (ad E x1), .int x2] S mo_X5_asRoom wd603 wd604 wd612 h_x0 (by decide) cl_3 rfl rfl (by decide) (z_room0 S M (by rfl) (by rfl)) rfl (Nat.le_of_ble_eq_true rfl) rfl dX5_asHall_15 (fun q => q.1) (fun q => q.2) (fun q hq => m_X5_asRoom (xl x) E _ _ _ _ h_x0 h_x1 q hq) hf (fun q1 hf => ?_)
  refine z_aload_n S 1 dX5_asHall_18 rfl rfl ?_
  refine z_iload_n S 2 dX5_asHall_19 rfl rfl ?_
  refine z_callVI (rc := r_X2_whoMay) [.int x2] S mo_X2_whoMay wd419 wd420 wd613 h_x1 (by decide) cl_1 rfl rfl (by decide) (z_room0 S M (by rfl) (by rfl)) rfl (Nat.le_of_ble_eq_true rfl) rfl dX5_asHall_20 (fun q => q) (fun _ => q1.2) (fun q hq => m_X2_whoMay (xl x) E _ _ _ h_x1 q hq) hf (fun q2 hf => ?_)
  refine z_callSI (rc := r_J6_bitCount_0f7a4) [.int q2] S mo_J6_bitCount_0f7a4 wd455 wd606 rfl rfl (by decide) (z_room0 S M (by rfl) (by rfl)) rfl (Nat.le_of_ble_eq_true rfl) rfl dX5_asHall_23 (fun q => q) (fun _ => q1.2) (fun q hq => m_J6_bitCount_0f7a4 (xl x) E _ _  q hq) hf (fun q3 hf => ?_)
  refine z_iadd S dX5_asHall_26 ?_
  exact z_iretI (v := (q1.1 + q3)) S M rfl dX5_asHall_27 hf
theorem m_X5_asHall (l : Launch) (E : Ev) (P : PH) (x0 : Nat) (x1 : Nat) (x2 : Int32) (h_x0 : ok x0 3 0) (h_x1 : ok x1 1 0) (r : (Int32 × PH)) (hf : f_X5_asHall P x0 x1 x2 = some r) : CtI l E yX5_asHall cX5_asHall 3 (some .int) r_X5_asHall [.ref (ad E x0), .ref (ad E x1), .int x2] P r.1 r.2 :=
  z_body (own := RX5) (by decide +kernel) rfl (Nat.le_of_ble_eq_true rfl) rfl (fun x _ S M => w_X5_asHall S M P x0 x1 x2 h_x0 h_x1 r hf)
-- yX5_asStair
theorem dX5_asStair_0 : decode cX5_asStair 0 = .ok (.aload_n 0, 1) := by decide +kernel
theorem dX5_asStair_1 : decode cX5_asStair 1 = .ok (.dup, 1) := by decide +kernel
theorem dX5_asStair_2 : decode cX5_asStair 2 = .ok (.getfield 7, 3) := by decide +kernel
theorem dX5_asStair_5 : decode cX5_asStair 5 = .ok (.ldc2_w 34, 3) := by decide +kernel
theorem dX5_asStair_8 : decode cX5_asStair 8 = .ok (.ladd, 1) := by decide +kernel
theorem dX5_asStair_9 : decode cX5_asStair 9 = .ok (.putfield 7, 3) := by decide +kernel
theorem dX5_asStair_12 : decode cX5_asStair 12 = .ok (.aload_n 0, 1) := by decide +kernel
theorem dX5_asStair_13 : decode cX5_asStair 13 = .ok (.aload_n 1, 1) := by decide +kernel
theorem dX5_asStair_14 : decode cX5_asStair 14 = .ok (.iload_n 2, 1) := by decide +kernel
theorem dX5_asStair_15 : decode cX5_asStair 15 = .ok (.invokevirtual 27, 3) := by decide +kernel
theorem dX5_asStair_18 : decode cX5_asStair 18 = .ok (.aload_n 1, 1) := by decide +kernel
theorem dX5_asStair_19 : decode cX5_asStair 19 = .ok (.getfield 36, 3) := by decide +kernel
theorem dX5_asStair_22 : decode cX5_asStair 22 = .ok (.iload_n 2, 1) := by decide +kernel
theorem dX5_asStair_23 : decode cX5_asStair 23 = .ok (.invokevirtual 40, 3) := by decide +kernel
theorem dX5_asStair_26 : decode cX5_asStair 26 = .ok (.isub, 1) := by decide +kernel
theorem dX5_asStair_27 : decode cX5_asStair 27 = .ok (.ireturn, 1) := by decide +kernel
def r_X5_asStair : Room := { frames := 2, cells := 0, slots := 0, locals := 42 }
def f_X5_asStair (P : PH) (x0 : Nat) (x1 : Nat) (x2 : Int32) : Option (Int32 × PH) :=
  ((f_X5_asRoom (sL P x0 ((P.2.1 x0) + (100 : Int64))) x0 x1 x2).bind fun q1 => ((f_X4_rightsIn q1.2 (q1.2.2.2 x1 5) x2).bind fun q3 => some ((q1.1 - q3), q1.2)))
theorem w_X5_asStair {x : Fx} {E : Ev} (S : ZS x E r_X5_asStair cX5_asStair 3 RX5 (some .int)) (M : ZM x E) (P : PH) (x0 : Nat) (x1 : Nat) (x2 : Int32) (h_x0 : ok x0 3 0) (h_x1 : ok x1 1 0) (r : (Int32 × PH)) (hf : f_X5_asStair P x0 x1 x2 = some r) : Wz x E 3 (QI E x r.1 r.2) P 0 [(0, .ref (ad E x0)), (1, .ref (ad E x1)), (2, .int x2)] [] := by
  unfold f_X5_asStair at hf
  refine z_aload_n S 0 dX5_asStair_0 rfl rfl ?_
  refine z_dup S dX5_asStair_1 rfl ?_
  refine z_getL S cf_3 h_x0 0 (by decide) rfl wd145 dX5_asStair_2 ?_
  refine z_ldc2 (v := 100) S wd618 dX5_asStair_5 ?_
  refine z_ladd S dX5_asStair_8 ?_
  refine z_putL S cf_3 h_x0 0 (by decide) rfl sole_3 rfl rfl rfl wd145 dX5_asStair_9 ?_
  refine z_aload_n S 0 dX5_asStair_12 rfl rfl ?_
  refine z_aload_n S 1 dX5_asStair_13 rfl rfl ?_
  refine z_iload_n S 2 dX5_asStair_14 rfl rfl ?_
  refine z_callVI (rc := r_X5_asRoom) [.ref (ad E x1), .int x2] S mo_X5_asRoom wd603 wd604 wd612 h_x0 (by decide) cl_3 rfl rfl (by decide) (z_room0 S M (by rfl) (by rfl)) rfl (Nat.le_of_ble_eq_true rfl) rfl dX5_asStair_15 (fun q => q.1) (fun q => q.2) (fun q hq => m_X5_asRoom (xl x) E _ _ _ _ h_x0 h_x1 q hq) hf (fun q1 hf => ?_)
  refine z_aload_n S 1 dX5_asStair_18 rfl rfl ?_
  refine z_getR (K' := 2) (n' := 0) S cf_1 h_x1 5 (by decide) rfl rfl rfl wd234 dX5_asStair_19 (fun h2 => ?_)
  refine z_iload_n S 2 dX5_asStair_22 rfl rfl ?_
  refine z_callVI (rc := r_X4_rightsIn) [.int x2] S mo_X4_rightsIn wd620 wd621 wd619 h2 (by decide) cl_2 rfl rfl (by decide) (z_room0 S M (by rfl) (by rfl)) rfl (Nat.le_of_ble_eq_true rfl) rfl dX5_asStair_23 (fun q => q) (fun _ => q1.2) (fun q hq => m_X4_rightsIn (xl x) E _ _ _ h2 q hq) hf (fun q3 hf => ?_)
  refine z_isub S dX5_asStair_26 ?_
  exact z_iretI (v := (q1.1 - q3)) S M rfl dX5_asStair_27 hf
theorem m_X5_asStair (l : Launch) (E : Ev) (P : PH) (x0 : Nat) (x1 : Nat) (x2 : Int32) (h_x0 : ok x0 3 0) (h_x1 : ok x1 1 0) (r : (Int32 × PH)) (hf : f_X5_asStair P x0 x1 x2 = some r) : CtI l E yX5_asStair cX5_asStair 3 (some .int) r_X5_asStair [.ref (ad E x0), .ref (ad E x1), .int x2] P r.1 r.2 :=
  z_body (own := RX5) (by decide +kernel) rfl (Nat.le_of_ble_eq_true rfl) rfl (fun x _ S M => w_X5_asStair S M P x0 x1 x2 h_x0 h_x1 r hf)
-- yX5_asAttic
theorem dX5_asAttic_0 : decode cX5_asAttic 0 = .ok (.aload_n 0, 1) := by decide +kernel
theorem dX5_asAttic_1 : decode cX5_asAttic 1 = .ok (.dup, 1) := by decide +kernel
theorem dX5_asAttic_2 : decode cX5_asAttic 2 = .ok (.getfield 7, 3) := by decide +kernel
theorem dX5_asAttic_5 : decode cX5_asAttic 5 = .ok (.ldc2_w 45, 3) := by decide +kernel
theorem dX5_asAttic_8 : decode cX5_asAttic 8 = .ok (.ladd, 1) := by decide +kernel
theorem dX5_asAttic_9 : decode cX5_asAttic 9 = .ok (.putfield 7, 3) := by decide +kernel
theorem dX5_asAttic_12 : decode cX5_asAttic 12 = .ok (.iconst 2, 1) := by decide +kernel
theorem dX5_asAttic_13 : decode cX5_asAttic 13 = .ok (.aload_n 0, 1) := by decide +kernel
theorem dX5_asAttic_14 : decode cX5_asAttic 14 = .ok (.aload_n 1, 1) := by decide +kernel
theorem dX5_asAttic_15 : decode cX5_asAttic 15 = .ok (.iload_n 2, 1) := by decide +kernel
theorem dX5_asAttic_16 : decode cX5_asAttic 16 = .ok (.invokevirtual 47, 3) := by decide +kernel
theorem dX5_asAttic_19 : decode cX5_asAttic 19 = .ok (.imul, 1) := by decide +kernel
theorem dX5_asAttic_20 : decode cX5_asAttic 20 = .ok (.ireturn, 1) := by decide +kernel
def r_X5_asAttic : Room := { frames := 5, cells := 0, slots := 0, locals := 118 }
def f_X5_asAttic (P : PH) (x0 : Nat) (x1 : Nat) (x2 : Int32) : Option (Int32 × PH) :=
  ((f_X5_asHall (sL P x0 ((P.2.1 x0) + (1000 : Int64))) x0 x1 x2).bind fun q1 => some (((2 : Int32) * q1.1), q1.2))
theorem w_X5_asAttic {x : Fx} {E : Ev} (S : ZS x E r_X5_asAttic cX5_asAttic 3 RX5 (some .int)) (M : ZM x E) (P : PH) (x0 : Nat) (x1 : Nat) (x2 : Int32) (h_x0 : ok x0 3 0) (h_x1 : ok x1 1 0) (r : (Int32 × PH)) (hf : f_X5_asAttic P x0 x1 x2 = some r) : Wz x E 3 (QI E x r.1 r.2) P 0 [(0, .ref (ad E x0)), (1, .ref (ad E x1)), (2, .int x2)] [] := by
  unfold f_X5_asAttic at hf
  refine z_aload_n S 0 dX5_asAttic_0 rfl rfl ?_
  refine z_dup S dX5_asAttic_1 rfl ?_
  refine z_getL S cf_3 h_x0 0 (by decide) rfl wd145 dX5_asAttic_2 ?_
  refine z_ldc2 (v := 1000) S wd627 dX5_asAttic_5 ?_
  refine z_ladd S dX5_asAttic_8 ?_
  refine z_putL S cf_3 h_x0 0 (by decide) rfl sole_3 rfl rfl rfl wd145 dX5_asAttic_9 ?_
  refine z_iconst (v := 2) S dX5_asAttic_12 (by decide) ?_
  refine z_aload_n S 0 dX5_asAttic_13 rfl rfl ?_
  refine z_aload_n S 1 dX5_asAttic_14 rfl rfl ?_
  refine z_iload_n S 2 dX5_asAttic_15 rfl rfl ?_
  refine z_callVI (rc := r_X5_asHall) [.ref (ad E x1), .int x2] S mo_X5_asHall wd608 wd609 wd628 h_x0 (by decide) cl_3 rfl rfl (by decide) (z_room0 S M (by rfl) (by rfl)) rfl (Nat.le_of_ble_eq_true rfl) rfl dX5_asAttic_16 (fun q => q.1) (fun q => q.2) (fun q hq => m_X5_asHall (xl x) E _ _ _ _ h_x0 h_x1 q hq) hf (fun q1 hf => ?_)
  refine z_imul S dX5_asAttic_19 ?_
  exact z_iretI (v := ((2 : Int32) * q1.1)) S M rfl dX5_asAttic_20 hf
theorem m_X5_asAttic (l : Launch) (E : Ev) (P : PH) (x0 : Nat) (x1 : Nat) (x2 : Int32) (h_x0 : ok x0 3 0) (h_x1 : ok x1 1 0) (r : (Int32 × PH)) (hf : f_X5_asAttic P x0 x1 x2 = some r) : CtI l E yX5_asAttic cX5_asAttic 3 (some .int) r_X5_asAttic [.ref (ad E x0), .ref (ad E x1), .int x2] P r.1 r.2 :=
  z_body (own := RX5) (by decide +kernel) rfl (Nat.le_of_ble_eq_true rfl) rfl (fun x _ S M => w_X5_asAttic S M P x0 x1 x2 h_x0 h_x1 r hf)
-- yX5_asCellar
theorem dX5_asCellar_0 : decode cX5_asCellar 0 = .ok (.aload_n 0, 1) := by decide +kernel
theorem dX5_asCellar_1 : decode cX5_asCellar 1 = .ok (.dup, 1) := by decide +kernel
theorem dX5_asCellar_2 : decode cX5_asCellar 2 = .ok (.getfield 7, 3) := by decide +kernel
theorem dX5_asCellar_5 : decode cX5_asCellar 5 = .ok (.ldc2_w 50, 3) := by decide +kernel
theorem dX5_asCellar_8 : decode cX5_asCellar 8 = .ok (.ladd, 1) := by decide +kernel
theorem dX5_asCellar_9 : decode cX5_asCellar 9 = .ok (.putfield 7, 3) := by decide +kernel
theorem dX5_asCellar_12 : decode cX5_asCellar 12 = .ok (.aload_n 0, 1) := by decide +kernel
theorem dX5_asCellar_13 : decode cX5_asCellar 13 = .ok (.aload_n 1, 1) := by decide +kernel
theorem dX5_asCellar_14 : decode cX5_asCellar 14 = .ok (.iload_n 2, 1) := by decide +kernel
theorem dX5_asCellar_15 : decode cX5_asCellar 15 = .ok (.invokevirtual 52, 3) := by decide +kernel
theorem dX5_asCellar_18 : decode cX5_asCellar 18 = .ok (.iload_n 2, 1) := by decide +kernel
theorem dX5_asCellar_19 : decode cX5_asCellar 19 = .ok (.iadd, 1) := by decide +kernel
theorem dX5_asCellar_20 : decode cX5_asCellar 20 = .ok (.ireturn, 1) := by decide +kernel
def r_X5_asCellar : Room := { frames := 3, cells := 0, slots := 0, locals := 64 }
def f_X5_asCellar (P : PH) (x0 : Nat) (x1 : Nat) (x2 : Int32) : Option (Int32 × PH) :=
  ((f_X5_asStair (sL P x0 ((P.2.1 x0) + (10000 : Int64))) x0 x1 x2).bind fun q1 => some ((q1.1 + x2), q1.2))
theorem w_X5_asCellar {x : Fx} {E : Ev} (S : ZS x E r_X5_asCellar cX5_asCellar 3 RX5 (some .int)) (M : ZM x E) (P : PH) (x0 : Nat) (x1 : Nat) (x2 : Int32) (h_x0 : ok x0 3 0) (h_x1 : ok x1 1 0) (r : (Int32 × PH)) (hf : f_X5_asCellar P x0 x1 x2 = some r) : Wz x E 3 (QI E x r.1 r.2) P 0 [(0, .ref (ad E x0)), (1, .ref (ad E x1)), (2, .int x2)] [] := by
  unfold f_X5_asCellar at hf
  refine z_aload_n S 0 dX5_asCellar_0 rfl rfl ?_
  refine z_dup S dX5_asCellar_1 rfl ?_
  refine z_getL S cf_3 h_x0 0 (by decide) rfl wd145 dX5_asCellar_2 ?_
  refine z_ldc2 (v := 10000) S wd633 dX5_asCellar_5 ?_
  refine z_ladd S dX5_asCellar_8 ?_
  refine z_putL S cf_3 h_x0 0 (by decide) rfl sole_3 rfl rfl rfl wd145 dX5_asCellar_9 ?_
  refine z_aload_n S 0 dX5_asCellar_12 rfl rfl ?_
  refine z_aload_n S 1 dX5_asCellar_13 rfl rfl ?_
  refine z_iload_n S 2 dX5_asCellar_14 rfl rfl ?_
  refine z_callVI (rc := r_X5_asStair) [.ref (ad E x1), .int x2] S mo_X5_asStair wd615 wd616 wd634 h_x0 (by decide) cl_3 rfl rfl (by decide) (z_room0 S M (by rfl) (by rfl)) rfl (Nat.le_of_ble_eq_true rfl) rfl dX5_asCellar_15 (fun q => q.1) (fun q => q.2) (fun q hq => m_X5_asStair (xl x) E _ _ _ _ h_x0 h_x1 q hq) hf (fun q1 hf => ?_)
  refine z_iload_n S 2 dX5_asCellar_18 rfl rfl ?_
  refine z_iadd S dX5_asCellar_19 ?_
  exact z_iretI (v := (q1.1 + x2)) S M rfl dX5_asCellar_20 hf
theorem m_X5_asCellar (l : Launch) (E : Ev) (P : PH) (x0 : Nat) (x1 : Nat) (x2 : Int32) (h_x0 : ok x0 3 0) (h_x1 : ok x1 1 0) (r : (Int32 × PH)) (hf : f_X5_asCellar P x0 x1 x2 = some r) : CtI l E yX5_asCellar cX5_asCellar 3 (some .int) r_X5_asCellar [.ref (ad E x0), .ref (ad E x1), .int x2] P r.1 r.2 :=
  z_body (own := RX5) (by decide +kernel) rfl (Nat.le_of_ble_eq_true rfl) rfl (fun x _ S M => w_X5_asCellar S M P x0 x1 x2 h_x0 h_x1 r hf)
-- yX5_asBath
theorem dX5_asBath_0 : decode cX5_asBath 0 = .ok (.aload_n 0, 1) := by decide +kernel
theorem dX5_asBath_1 : decode cX5_asBath 1 = .ok (.dup, 1) := by decide +kernel
theorem dX5_asBath_2 : decode cX5_asBath 2 = .ok (.getfield 7, 3) := by decide +kernel
theorem dX5_asBath_5 : decode cX5_asBath 5 = .ok (.ldc2_w 55, 3) := by decide +kernel
theorem dX5_asBath_8 : decode cX5_asBath 8 = .ok (.ladd, 1) := by decide +kernel
theorem dX5_asBath_9 : decode cX5_asBath 9 = .ok (.putfield 7, 3) := by decide +kernel
theorem dX5_asBath_12 : decode cX5_asBath 12 = .ok (.aload_n 0, 1) := by decide +kernel
theorem dX5_asBath_13 : decode cX5_asBath 13 = .ok (.aload_n 1, 1) := by decide +kernel
theorem dX5_asBath_14 : decode cX5_asBath 14 = .ok (.iload_n 2, 1) := by decide +kernel
theorem dX5_asBath_15 : decode cX5_asBath 15 = .ok (.invokevirtual 27, 3) := by decide +kernel
theorem dX5_asBath_18 : decode cX5_asBath 18 = .ok (.aload_n 1, 1) := by decide +kernel
theorem dX5_asBath_19 : decode cX5_asBath 19 = .ok (.getfield 36, 3) := by decide +kernel
theorem dX5_asBath_22 : decode cX5_asBath 22 = .ok (.getfield 57, 3) := by decide +kernel
theorem dX5_asBath_25 : decode cX5_asBath 25 = .ok (.iadd, 1) := by decide +kernel
theorem dX5_asBath_26 : decode cX5_asBath 26 = .ok (.ireturn, 1) := by decide +kernel
def r_X5_asBath : Room := { frames := 2, cells := 0, slots := 0, locals := 42 }
def f_X5_asBath (P : PH) (x0 : Nat) (x1 : Nat) (x2 : Int32) : Option (Int32 × PH) :=
  ((some (sL P x0 ((P.2.1 x0) + (100000 : Int64)))).bind fun P1 => ((f_X5_asRoom P1 x0 x1 x2).bind fun q2 => some ((q2.1 + (q2.2.1 (q2.2.2.2 x1 5) 0)), q2.2)))
theorem w_X5_asBath {x : Fx} {E : Ev} (S : ZS x E r_X5_asBath cX5_asBath 3 RX5 (some .int)) (M : ZM x E) (P : PH) (x0 : Nat) (x1 : Nat) (x2 : Int32) (h_x0 : ok x0 3 0) (h_x1 : ok x1 1 0) (r : (Int32 × PH)) (hf : f_X5_asBath P x0 x1 x2 = some r) : Wz x E 3 (QI E x r.1 r.2) P 0 [(0, .ref (ad E x0)), (1, .ref (ad E x1)), (2, .int x2)] [] := by
  unfold f_X5_asBath at hf
  refine z_aload_n S 0 dX5_asBath_0 rfl rfl ?_
  refine z_dup S dX5_asBath_1 rfl ?_
  refine z_getL S cf_3 h_x0 0 (by decide) rfl wd145 dX5_asBath_2 ?_
  refine z_ldc2 (v := 100000) S wd639 dX5_asBath_5 ?_
  refine z_ladd S dX5_asBath_8 ?_
  refine z_putL S cf_3 h_x0 0 (by decide) rfl sole_3 rfl rfl rfl wd145 dX5_asBath_9 ?_
  refine z_nmP hf (fun P1 hf => ?_)
  refine z_aload_n S 0 dX5_asBath_12 rfl rfl ?_
  refine z_aload_n S 1 dX5_asBath_13 rfl rfl ?_
  refine z_iload_n S 2 dX5_asBath_14 rfl rfl ?_
  refine z_callVI (rc := r_X5_asRoom) [.ref (ad E x1), .int x2] S mo_X5_asRoom wd603 wd604 wd612 h_x0 (by decide) cl_3 rfl rfl (by decide) (z_room0 S M (by rfl) (by rfl)) rfl (Nat.le_of_ble_eq_true rfl) rfl dX5_asBath_15 (fun q => q.1) (fun q => q.2) (fun q hq => m_X5_asRoom (xl x) E _ _ _ _ h_x0 h_x1 q hq) hf (fun q2 hf => ?_)
  refine z_aload_n S 1 dX5_asBath_18 rfl rfl ?_
  refine z_getR (K' := 2) (n' := 0) S cf_1 h_x1 5 (by decide) rfl rfl rfl wd234 dX5_asBath_19 (fun h3 => ?_)
  refine z_getI S cf_2 h3 0 (by decide) rfl wd170 dX5_asBath_22 ?_
  refine z_iadd S dX5_asBath_25 ?_
  exact z_iretI (v := (q2.1 + (q2.2.1 (q2.2.2.2 x1 5) 0))) S M rfl dX5_asBath_26 hf
theorem m_X5_asBath (l : Launch) (E : Ev) (P : PH) (x0 : Nat) (x1 : Nat) (x2 : Int32) (h_x0 : ok x0 3 0) (h_x1 : ok x1 1 0) (r : (Int32 × PH)) (hf : f_X5_asBath P x0 x1 x2 = some r) : CtI l E yX5_asBath cX5_asBath 3 (some .int) r_X5_asBath [.ref (ad E x0), .ref (ad E x1), .int x2] P r.1 r.2 :=
  z_body (own := RX5) (by decide +kernel) rfl (Nat.le_of_ble_eq_true rfl) rfl (fun x _ S M => w_X5_asBath S M P x0 x1 x2 h_x0 h_x1 r hf)
-- yX6_hasPlaceFor
theorem dX6_hasPlaceFor_0 : decode cX6_hasPlaceFor 0 = .ok (.iload_n 0, 1) := by decide +kernel
theorem dX6_hasPlaceFor_1 : decode cX6_hasPlaceFor 1 = .ok (.lookupswitch 109 #[(98, 107), (100, 107), (112, 59), (114, 74), (119, 107), (120, 89)], 59) := by decide +kernel
theorem dX6_hasPlaceFor_60 : decode cX6_hasPlaceFor 60 = .ok (.aload_n 1, 1) := by decide +kernel
theorem dX6_hasPlaceFor_61 : decode cX6_hasPlaceFor 61 = .ok (.getfield 63, 3) := by decide +kernel
theorem dX6_hasPlaceFor_64 : decode cX6_hasPlaceFor 64 = .ok (.bipush 6, 2) := by decide +kernel
theorem dX6_hasPlaceFor_66 : decode cX6_hasPlaceFor 66 = .ok (.if_icmp .ge 7, 3) := by decide +kernel
theorem dX6_hasPlaceFor_69 : decode cX6_hasPlaceFor 69 = .ok (.iconst 1, 1) := by decide +kernel
theorem dX6_hasPlaceFor_70 : decode cX6_hasPlaceFor 70 = .ok (.goto 4, 3) := by decide +kernel
theorem dX6_hasPlaceFor_73 : decode cX6_hasPlaceFor 73 = .ok (.iconst 0, 1) := by decide +kernel
theorem dX6_hasPlaceFor_74 : decode cX6_hasPlaceFor 74 = .ok (.ireturn, 1) := by decide +kernel
theorem dX6_hasPlaceFor_75 : decode cX6_hasPlaceFor 75 = .ok (.aload_n 1, 1) := by decide +kernel
theorem dX6_hasPlaceFor_76 : decode cX6_hasPlaceFor 76 = .ok (.getfield 66, 3) := by decide +kernel
theorem dX6_hasPlaceFor_79 : decode cX6_hasPlaceFor 79 = .ok (.bipush 7, 2) := by decide +kernel
theorem dX6_hasPlaceFor_81 : decode cX6_hasPlaceFor 81 = .ok (.if_icmp .ge 7, 3) := by decide +kernel
theorem dX6_hasPlaceFor_84 : decode cX6_hasPlaceFor 84 = .ok (.iconst 1, 1) := by decide +kernel
theorem dX6_hasPlaceFor_85 : decode cX6_hasPlaceFor 85 = .ok (.goto 4, 3) := by decide +kernel
theorem dX6_hasPlaceFor_88 : decode cX6_hasPlaceFor 88 = .ok (.iconst 0, 1) := by decide +kernel
theorem dX6_hasPlaceFor_89 : decode cX6_hasPlaceFor 89 = .ok (.ireturn, 1) := by decide +kernel
theorem dX6_hasPlaceFor_90 : decode cX6_hasPlaceFor 90 = .ok (.aload_n 1, 1) := by decide +kernel
theorem dX6_hasPlaceFor_91 : decode cX6_hasPlaceFor 91 = .ok (.getfield 69, 3) := by decide +kernel
theorem dX6_hasPlaceFor_94 : decode cX6_hasPlaceFor 94 = .ok (.getfield 73, 3) := by decide +kernel
theorem dX6_hasPlaceFor_97 : decode cX6_hasPlaceFor 97 = .ok (.bipush 10, 2) := by decide +kernel
theorem dX6_hasPlaceFor_99 : decode cX6_hasPlaceFor 99 = .ok (.if_icmp .ge 7, 3) := by decide +kernel
theorem dX6_hasPlaceFor_102 : decode cX6_hasPlaceFor 102 = .ok (.iconst 1, 1) := by decide +kernel
theorem dX6_hasPlaceFor_103 : decode cX6_hasPlaceFor 103 = .ok (.goto 4, 3) := by decide +kernel
theorem dX6_hasPlaceFor_106 : decode cX6_hasPlaceFor 106 = .ok (.iconst 0, 1) := by decide +kernel
theorem dX6_hasPlaceFor_107 : decode cX6_hasPlaceFor 107 = .ok (.ireturn, 1) := by decide +kernel
theorem dX6_hasPlaceFor_108 : decode cX6_hasPlaceFor 108 = .ok (.iconst 1, 1) := by decide +kernel
theorem dX6_hasPlaceFor_109 : decode cX6_hasPlaceFor 109 = .ok (.ireturn, 1) := by decide +kernel
theorem dX6_hasPlaceFor_110 : decode cX6_hasPlaceFor 110 = .ok (.iconst 0, 1) := by decide +kernel
theorem dX6_hasPlaceFor_111 : decode cX6_hasPlaceFor 111 = .ok (.ireturn, 1) := by decide +kernel
def r_X6_hasPlaceFor : Room := { frames := 0, cells := 0, slots := 0, locals := 0 }
def f_X6_hasPlaceFor (P : PH) (x0 : Int32) (x1 : Nat) : Option Bool :=
  (if x0 = (98 : Int32) then some true else (if x0 = (100 : Int32) then some true else (if x0 = (112 : Int32) then (if (6 : Int32) ≤ (P.1 x1 0) then some false else some true) else (if x0 = (114 : Int32) then (if (7 : Int32) ≤ (P.1 x1 1) then some false else some true) else (if x0 = (119 : Int32) then some true else (if x0 = (120 : Int32) then (if (10 : Int32) ≤ (P.1 (P.2.2 x1 5) 2) then some false else some true) else some false))))))
theorem w_X6_hasPlaceFor {x : Fx} {E : Ev} (S : ZS x E r_X6_hasPlaceFor cX6_hasPlaceFor 2 RX6 (some .boolean)) (M : ZM x E) (P : PH) (x0 : Int32) (x1 : Nat) (h_x1 : ok x1 1 0) (r : Bool) (hf : f_X6_hasPlaceFor P x0 x1 = some r) : Wz x E 2 (QI E x (b2i r) P) P 0 [(0, .int x0), (1, .ref (ad E x1))] [] := by
  unfold f_X6_hasPlaceFor at hf
  refine z_iload_n S 0 dX6_hasPlaceFor_0 rfl rfl ?_
  refine z_tif hf (fun h1 hf => ?_) (fun h1 hf => ?_)
  · refine z_lookup (tgt := 108) S dX6_hasPlaceFor_1 (by decide) (by rw [h1]; try rfl) (by decide) ?_
    refine z_iconst (v := 1) S dX6_hasPlaceFor_108 (by decide) ?_
    exact z_zretP (v := true) S M rfl dX6_hasPlaceFor_109 hf
  refine z_tif hf (fun h2 hf => ?_) (fun h2 hf => ?_)
  · refine z_lookup (tgt := 108) S dX6_hasPlaceFor_1 (by decide) (by rw [h2]; try rfl) (by decide) ?_
    refine z_iconst (v := 1) S dX6_hasPlaceFor_108 (by decide) ?_
    exact z_zretP (v := true) S M rfl dX6_hasPlaceFor_109 hf
  refine z_tif hf (fun h3 hf => ?_) (fun h3 hf => ?_)
  · refine z_lookup (tgt := 60) S dX6_hasPlaceFor_1 (by decide) (by rw [h3]; try rfl) (by decide) ?_
    refine z_aload_n S 1 dX6_hasPlaceFor_60 rfl rfl ?_
    refine z_getI S cf_1 h_x1 0 (by decide) rfl wd215 dX6_hasPlaceFor_61 ?_
    refine z_bipush (v := 6) S dX6_hasPlaceFor_64 (by decide) ?_
    refine z_icmp_ge (tgt := 73) S dX6_hasPlaceFor_66 (by decide) hf (fun hf => ?_) (fun hf => ?_)
    · refine z_iconst (v := 0) S dX6_hasPlaceFor_73 (by decide) ?_
      exact z_zretP (v := false) S M rfl dX6_hasPlaceFor_74 hf
    · refine z_iconst (v := 1) S dX6_hasPlaceFor_69 (by decide) ?_
      refine z_goto (tgt := 74) S dX6_hasPlaceFor_70 (by decide) ?_
      exact z_zretP (v := true) S M rfl dX6_hasPlaceFor_74 hf
  refine z_tif hf (fun h4 hf => ?_) (fun h4 hf => ?_)
  · refine z_lookup (tgt := 75) S dX6_hasPlaceFor_1 (by decide) (by rw [h4]; try rfl) (by decide) ?_
    refine z_aload_n S 1 dX6_hasPlaceFor_75 rfl rfl ?_
    refine z_getI S cf_1 h_x1 1 (by decide) rfl wd219 dX6_hasPlaceFor_76 ?_
    refine z_bipush (v := 7) S dX6_hasPlaceFor_79 (by decide) ?_
    refine z_icmp_ge (tgt := 88) S dX6_hasPlaceFor_81 (by decide) hf (fun hf => ?_) (fun hf => ?_)
    · refine z_iconst (v := 0) S dX6_hasPlaceFor_88 (by decide) ?_
      exact z_zretP (v := false) S M rfl dX6_hasPlaceFor_89 hf
    · refine z_iconst (v := 1) S dX6_hasPlaceFor_84 (by decide) ?_
      refine z_goto (tgt := 89) S dX6_hasPlaceFor_85 (by decide) ?_
      exact z_zretP (v := true) S M rfl dX6_hasPlaceFor_89 hf
  refine z_tif hf (fun h5 hf => ?_) (fun h5 hf => ?_)
  · refine z_lookup (tgt := 108) S dX6_hasPlaceFor_1 (by decide) (by rw [h5]; try rfl) (by decide) ?_
    refine z_iconst (v := 1) S dX6_hasPlaceFor_108 (by decide) ?_
    exact z_zretP (v := true) S M rfl dX6_hasPlaceFor_109 hf
  refine z_tif hf (fun h6 hf => ?_) (fun h6 hf => ?_)
  · refine z_lookup (tgt := 90) S dX6_hasPlaceFor_1 (by decide) (by rw [h6]; try rfl) (by decide) ?_
    refine z_aload_n S 1 dX6_hasPlaceFor_90 rfl rfl ?_
    refine z_getR (K' := 2) (n' := 0) S cf_1 h_x1 5 (by decide) rfl rfl rfl wd235 dX6_hasPlaceFor_91 (fun h7 => ?_)
    refine z_getI S cf_2 h7 2 (by decide) rfl wd179 dX6_hasPlaceFor_94 ?_
    refine z_bipush (v := 10) S dX6_hasPlaceFor_97 (by decide) ?_
    refine z_icmp_ge (tgt := 106) S dX6_hasPlaceFor_99 (by decide) hf (fun hf => ?_) (fun hf => ?_)
    · refine z_iconst (v := 0) S dX6_hasPlaceFor_106 (by decide) ?_
      exact z_zretP (v := false) S M rfl dX6_hasPlaceFor_107 hf
    · refine z_iconst (v := 1) S dX6_hasPlaceFor_102 (by decide) ?_
      refine z_goto (tgt := 107) S dX6_hasPlaceFor_103 (by decide) ?_
      exact z_zretP (v := true) S M rfl dX6_hasPlaceFor_107 hf
  refine z_lookup (tgt := 110) (off := 109) S dX6_hasPlaceFor_1 (by decide) ((lv_osw h1 rfl).trans ((lv_osw h2 rfl).trans ((lv_osw h3 rfl).trans ((lv_osw h4 rfl).trans ((lv_osw h5 rfl).trans ((lv_osw h6 rfl).trans (rfl))))))) (by decide) ?_
  refine z_iconst (v := 0) S dX6_hasPlaceFor_110 (by decide) ?_
  exact z_zretP (v := false) S M rfl dX6_hasPlaceFor_111 hf
theorem m_X6_hasPlaceFor (l : Launch) (E : Ev) (P : PH) (x0 : Int32) (x1 : Nat) (h_x1 : ok x1 1 0) (r : Bool) (hf : f_X6_hasPlaceFor P x0 x1 = some r) : CtI l E yX6_hasPlaceFor cX6_hasPlaceFor 2 (some .boolean) r_X6_hasPlaceFor [.int x0, .ref (ad E x1)] P (b2i r) P :=
  z_body (own := RX6) (by decide +kernel) rfl (Nat.le_of_ble_eq_true rfl) rfl (fun x _ S M => w_X6_hasPlaceFor S M P x0 x1 h_x1 r hf)
-- yX6_howManyNumbers
theorem dX6_howManyNumbers_0 : decode cX6_howManyNumbers 0 = .ok (.iload_n 0, 1) := by decide +kernel
theorem dX6_howManyNumbers_1 : decode cX6_howManyNumbers 1 = .ok (.lookupswitch 31 #[(114, 27), (120, 29)], 27) := by decide +kernel
theorem dX6_howManyNumbers_28 : decode cX6_howManyNumbers 28 = .ok (.iconst 1, 1) := by decide +kernel
theorem dX6_howManyNumbers_29 : decode cX6_howManyNumbers 29 = .ok (.ireturn, 1) := by decide +kernel
theorem dX6_howManyNumbers_30 : decode cX6_howManyNumbers 30 = .ok (.iconst 3, 1) := by decide +kernel
theorem dX6_howManyNumbers_31 : decode cX6_howManyNumbers 31 = .ok (.ireturn, 1) := by decide +kernel
theorem dX6_howManyNumbers_32 : decode cX6_howManyNumbers 32 = .ok (.iconst 2, 1) := by decide +kernel
theorem dX6_howManyNumbers_33 : decode cX6_howManyNumbers 33 = .ok (.ireturn, 1) := by decide +kernel
def r_X6_howManyNumbers : Room := { frames := 0, cells := 0, slots := 0, locals := 0 }
def f_X6_howManyNumbers (P : PH) (x0 : Int32) : Option Int32 :=
  (if x0 = (114 : Int32) then some (1 : Int32) else (if x0 = (120 : Int32) then some (3 : Int32) else some (2 : Int32)))
theorem w_X6_howManyNumbers {x : Fx} {E : Ev} (S : ZS x E r_X6_howManyNumbers cX6_howManyNumbers 1 RX6 (some .int)) (M : ZM x E) (P : PH) (x0 : Int32)  (r : Int32) (hf : f_X6_howManyNumbers P x0 = some r) : Wz x E 1 (QI E x r P) P 0 [(0, .int x0)] [] := by
  unfold f_X6_howManyNumbers at hf
  refine z_iload_n S 0 dX6_howManyNumbers_0 rfl rfl ?_
  refine z_tif hf (fun h1 hf => ?_) (fun h1 hf => ?_)
  · refine z_lookup (tgt := 28) S dX6_howManyNumbers_1 (by decide) (by rw [h1]; try rfl) (by decide) ?_
    refine z_iconst (v := 1) S dX6_howManyNumbers_28 (by decide) ?_
    exact z_iretP (v := (1 : Int32)) S M rfl dX6_howManyNumbers_29 hf
  refine z_tif hf (fun h2 hf => ?_) (fun h2 hf => ?_)
  · refine z_lookup (tgt := 30) S dX6_howManyNumbers_1 (by decide) (by rw [h2]; try rfl) (by decide) ?_
    refine z_iconst (v := 3) S dX6_howManyNumbers_30 (by decide) ?_
    exact z_iretP (v := (3 : Int32)) S M rfl dX6_howManyNumbers_31 hf
  refine z_lookup (tgt := 32) (off := 31) S dX6_howManyNumbers_1 (by decide) ((lv_osw h1 rfl).trans ((lv_osw h2 rfl).trans (rfl))) (by decide) ?_
  refine z_iconst (v := 2) S dX6_howManyNumbers_32 (by decide) ?_
  exact z_iretP (v := (2 : Int32)) S M rfl dX6_howManyNumbers_33 hf
theorem m_X6_howManyNumbers (l : Launch) (E : Ev) (P : PH) (x0 : Int32)  (r : Int32) (hf : f_X6_howManyNumbers P x0 = some r) : CtI l E yX6_howManyNumbers cX6_howManyNumbers 1 (some .int) r_X6_howManyNumbers [.int x0] P r P :=
  z_body (own := RX6) (by decide +kernel) rfl (Nat.le_of_ble_eq_true rfl) rfl (fun x _ S M => w_X6_howManyNumbers S M P x0  r hf)
-- yX6_fits
theorem dX6_fits_0 : decode cX6_fits 0 = .ok (.iload_n 1, 1) := by decide +kernel
theorem dX6_fits_1 : decode cX6_fits 1 = .ok (.lookupswitch 107 #[(100, 78), (112, 35), (114, 57)], 35) := by decide +kernel
theorem dX6_fits_36 : decode cX6_fits 36 = .ok (.iload_n 2, 1) := by decide +kernel
theorem dX6_fits_37 : decode cX6_fits 37 = .ok (.ifCond .ne 16, 3) := by decide +kernel
theorem dX6_fits_40 : decode cX6_fits 40 = .ok (.iload_n 3, 1) := by decide +kernel
theorem dX6_fits_41 : decode cX6_fits 41 = .ok (.iconst 1, 1) := by decide +kernel
theorem dX6_fits_42 : decode cX6_fits 42 = .ok (.if_icmp .gt 7, 3) := by decide +kernel
theorem dX6_fits_45 : decode cX6_fits 45 = .ok (.iconst 1, 1) := by decide +kernel
theorem dX6_fits_46 : decode cX6_fits 46 = .ok (.goto 11, 3) := by decide +kernel
theorem dX6_fits_49 : decode cX6_fits 49 = .ok (.iconst 0, 1) := by decide +kernel
theorem dX6_fits_50 : decode cX6_fits 50 = .ok (.goto 7, 3) := by decide +kernel
theorem dX6_fits_53 : decode cX6_fits 53 = .ok (.iload_n 3, 1) := by decide +kernel
theorem dX6_fits_54 : decode cX6_fits 54 = .ok (.invokestatic 78, 3) := by decide +kernel
theorem dX6_fits_57 : decode cX6_fits 57 = .ok (.ireturn, 1) := by decide +kernel
theorem dX6_fits_58 : decode cX6_fits 58 = .ok (.iload_n 3, 1) := by decide +kernel
theorem dX6_fits_59 : decode cX6_fits 59 = .ok (.bipush 9, 2) := by decide +kernel
theorem dX6_fits_61 : decode cX6_fits 61 = .ok (.if_icmp .eq 12, 3) := by decide +kernel
theorem dX6_fits_64 : decode cX6_fits 64 = .ok (.aload 4, 2) := by decide +kernel
theorem dX6_fits_66 : decode cX6_fits 66 = .ok (.iload_n 3, 1) := by decide +kernel
theorem dX6_fits_67 : decode cX6_fits 67 = .ok (.invokevirtual 82, 3) := by decide +kernel
theorem dX6_fits_70 : decode cX6_fits 70 = .ok (.ifCond .eq 7, 3) := by decide +kernel
theorem dX6_fits_73 : decode cX6_fits 73 = .ok (.iconst 1, 1) := by decide +kernel
theorem dX6_fits_74 : decode cX6_fits 74 = .ok (.goto 4, 3) := by decide +kernel
theorem dX6_fits_77 : decode cX6_fits 77 = .ok (.iconst 0, 1) := by decide +kernel
theorem dX6_fits_78 : decode cX6_fits 78 = .ok (.ireturn, 1) := by decide +kernel
theorem dX6_fits_79 : decode cX6_fits 79 = .ok (.aload 4, 2) := by decide +kernel
theorem dX6_fits_81 : decode cX6_fits 81 = .ok (.iload_n 3, 1) := by decide +kernel
theorem dX6_fits_82 : decode cX6_fits 82 = .ok (.invokevirtual 85, 3) := by decide +kernel
theorem dX6_fits_85 : decode cX6_fits 85 = .ok (.ifCond .eq 21, 3) := by decide +kernel
theorem dX6_fits_88 : decode cX6_fits 88 = .ok (.iload_n 2, 1) := by decide +kernel
theorem dX6_fits_89 : decode cX6_fits 89 = .ok (.ifCond .eq 13, 3) := by decide +kernel
theorem dX6_fits_92 : decode cX6_fits 92 = .ok (.iload_n 3, 1) := by decide +kernel
theorem dX6_fits_93 : decode cX6_fits 93 = .ok (.aload_n 0, 1) := by decide +kernel
theorem dX6_fits_94 : decode cX6_fits 94 = .ok (.getfield 18, 3) := by decide +kernel
theorem dX6_fits_97 : decode cX6_fits 97 = .ok (.iconst 0, 1) := by decide +kernel
theorem dX6_fits_98 : decode cX6_fits 98 = .ok (.iaload, 1) := by decide +kernel
theorem dX6_fits_99 : decode cX6_fits 99 = .ok (.if_icmp .eq 7, 3) := by decide +kernel
theorem dX6_fits_102 : decode cX6_fits 102 = .ok (.iconst 1, 1) := by decide +kernel
theorem dX6_fits_103 : decode cX6_fits 103 = .ok (.goto 4, 3) := by decide +kernel
theorem dX6_fits_106 : decode cX6_fits 106 = .ok (.iconst 0, 1) := by decide +kernel
theorem dX6_fits_107 : decode cX6_fits 107 = .ok (.ireturn, 1) := by decide +kernel
theorem dX6_fits_108 : decode cX6_fits 108 = .ok (.iload_n 2, 1) := by decide +kernel
theorem dX6_fits_109 : decode cX6_fits 109 = .ok (.ifCond .ne 10, 3) := by decide +kernel
theorem dX6_fits_112 : decode cX6_fits 112 = .ok (.aload 4, 2) := by decide +kernel
theorem dX6_fits_114 : decode cX6_fits 114 = .ok (.iload_n 3, 1) := by decide +kernel
theorem dX6_fits_115 : decode cX6_fits 115 = .ok (.invokevirtual 82, 3) := by decide +kernel
theorem dX6_fits_118 : decode cX6_fits 118 = .ok (.ireturn, 1) := by decide +kernel
theorem dX6_fits_119 : decode cX6_fits 119 = .ok (.iload_n 2, 1) := by decide +kernel
theorem dX6_fits_120 : decode cX6_fits 120 = .ok (.iconst 1, 1) := by decide +kernel
theorem dX6_fits_121 : decode cX6_fits 121 = .ok (.if_icmp .ne 12, 3) := by decide +kernel
theorem dX6_fits_124 : decode cX6_fits 124 = .ok (.aload 4, 2) := by decide +kernel
theorem dX6_fits_126 : decode cX6_fits 126 = .ok (.iload_n 3, 1) := by decide +kernel
theorem dX6_fits_127 : decode cX6_fits 127 = .ok (.invokevirtual 85, 3) := by decide +kernel
theorem dX6_fits_130 : decode cX6_fits 130 = .ok (.goto 14, 3) := by decide +kernel
theorem dX6_fits_133 : decode cX6_fits 133 = .ok (.iload_n 3, 1) := by decide +kernel
theorem dX6_fits_134 : decode cX6_fits 134 = .ok (.bipush 99, 2) := by decide +kernel
theorem dX6_fits_136 : decode cX6_fits 136 = .ok (.if_icmp .gt 7, 3) := by decide +kernel
theorem dX6_fits_139 : decode cX6_fits 139 = .ok (.iconst 1, 1) := by decide +kernel
theorem dX6_fits_140 : decode cX6_fits 140 = .ok (.goto 4, 3) := by decide +kernel
theorem dX6_fits_143 : decode cX6_fits 143 = .ok (.iconst 0, 1) := by decide +kernel
theorem dX6_fits_144 : decode cX6_fits 144 = .ok (.ireturn, 1) := by decide +kernel
def r_X6_fits : Room := { frames := 1, cells := 0, slots := 0, locals := 21 }
def f_X6_fits (P : PH) (x0 : Nat) (x1 : Int32) (x2 : Int32) (x3 : Int32) (x4 : Nat) : Option Bool :=
  (if x1 = (100 : Int32) then ((f_X2_isRoom P x4 x3).bind fun q2 => (if (b2i q2) = 0 then some false else (if x2 = 0 then some true else (if ((0 : Int32) < 0 ∨ 3 ≤ (0 : Int32).toNatClampNeg) then none else (if x3 = (P.1 (P.2.2 x0 1) (0 : Int32).toNatClampNeg) then some false else some true))))) else (if x1 = (112 : Int32) then (if x2 = 0 then (if (1 : Int32) < x3 then some false else some true) else ((f_X2_canBeHeir P x3).bind fun q5 => some q5)) else (if x1 = (114 : Int32) then (if x3 = (9 : Int32) then some true else ((f_X2_isPerson P x4 x3).bind fun q7 => (if (b2i q7) = 0 then some false else some true))) else (if x2 = 0 then ((f_X2_isPerson P x4 x3).bind fun q8 => some q8) else (if x2 = (1 : Int32) then ((f_X2_isRoom P x4 x3).bind fun q9 => some q9) else (if (99 : Int32) < x3 then some false else some true))))))
theorem w_X6_fits {x : Fx} {E : Ev} (S : ZS x E r_X6_fits cX6_fits 5 RX6 (some .boolean)) (M : ZM x E) (P : PH) (x0 : Nat) (x1 : Int32) (x2 : Int32) (x3 : Int32) (x4 : Nat) (h_x0 : ok x0 4 0) (h_x4 : ok x4 1 0) (r : Bool) (hf : f_X6_fits P x0 x1 x2 x3 x4 = some r) : Wz x E 5 (QI E x (b2i r) P) P 0 [(0, .ref (ad E x0)), (1, .int x1), (2, .int x2), (3, .int x3), (4, .ref (ad E x4))] [] := by
  unfold f_X6_fits at hf
  refine z_iload_n S 1 dX6_fits_0 rfl rfl ?_
  refine z_tif hf (fun h1 hf => ?_) (fun h1 hf => ?_)
  · refine z_lookup (tgt := 79) S dX6_fits_1 (by decide) (by rw [h1]; try rfl) (by decide) ?_
    refine z_aload S 4 dX6_fits_79 rfl ?_
    refine z_iload_n S 3 dX6_fits_81 rfl rfl ?_
    refine z_callVI (rc := r_X2_isRoom) [.int x3] S mo_X2_isRoom wd338 wd339 wd337 h_x4 (by decide) cl_1 rfl rfl (by decide) (z_room0 S M (by rfl) (by rfl)) rfl (Nat.le_of_ble_eq_true rfl) rfl dX6_fits_82 (fun q => b2i q) (fun _ => P) (fun q hq => m_X2_isRoom (xl x) E _ _ _ h_x4 q hq) hf (fun q2 hf => ?_)
    refine z_if_eq (tgt := 106) S dX6_fits_85 (by decide) hf (fun hf => ?_) (fun hf => ?_)
    · refine z_iconst (v := 0) S dX6_fits_106 (by decide) ?_
      exact z_zretP (v := false) S M rfl dX6_fits_107 hf
    · refine z_iload_n S 2 dX6_fits_88 rfl rfl ?_
      refine z_if_eq (tgt := 102) S dX6_fits_89 (by decide) hf (fun hf => ?_) (fun hf => ?_)
      · refine z_iconst (v := 1) S dX6_fits_102 (by decide) ?_
        refine z_goto (tgt := 107) S dX6_fits_103 (by decide) ?_
        exact z_zretP (v := true) S M rfl dX6_fits_107 hf
      · refine z_iload_n S 3 dX6_fits_92 rfl rfl ?_
        refine z_aload_n S 0 dX6_fits_93 rfl rfl ?_
        refine z_getR (K' := 9) (n' := 3) S cf_4 h_x0 1 (by decide) rfl rfl rfl wd93 dX6_fits_94 (fun h3 => ?_)
        refine z_iconst (v := 0) S dX6_fits_97 (by decide) ?_
        refine z_iald S h3 dX6_fits_98 hf (fun hf => ?_)
        refine z_icmp_eq (tgt := 106) S dX6_fits_99 (by decide) hf (fun hf => ?_) (fun hf => ?_)
        · refine z_iconst (v := 0) S dX6_fits_106 (by decide) ?_
          exact z_zretP (v := false) S M rfl dX6_fits_107 hf
        · refine z_iconst (v := 1) S dX6_fits_102 (by decide) ?_
          refine z_goto (tgt := 107) S dX6_fits_103 (by decide) ?_
          exact z_zretP (v := true) S M rfl dX6_fits_107 hf
  refine z_tif hf (fun h4 hf => ?_) (fun h4 hf => ?_)
  · refine z_lookup (tgt := 36) S dX6_fits_1 (by decide) (by rw [h4]; try rfl) (by decide) ?_
    refine z_iload_n S 2 dX6_fits_36 rfl rfl ?_
    refine z_if_ne (tgt := 53) S dX6_fits_37 (by decide) hf (fun hf => ?_) (fun hf => ?_)
    · refine z_iload_n S 3 dX6_fits_40 rfl rfl ?_
      refine z_iconst (v := 1) S dX6_fits_41 (by decide) ?_
      refine z_icmp_gt (tgt := 49) S dX6_fits_42 (by decide) hf (fun hf => ?_) (fun hf => ?_)
      · refine z_iconst (v := 0) S dX6_fits_49 (by decide) ?_
        refine z_goto (tgt := 57) S dX6_fits_50 (by decide) ?_
        exact z_zretP (v := false) S M rfl dX6_fits_57 hf
      · refine z_iconst (v := 1) S dX6_fits_45 (by decide) ?_
        refine z_goto (tgt := 57) S dX6_fits_46 (by decide) ?_
        exact z_zretP (v := true) S M rfl dX6_fits_57 hf
    · refine z_iload_n S 3 dX6_fits_53 rfl rfl ?_
      refine z_callSI (rc := r_X2_canBeHeir) [.int x3] S mo_X2_canBeHeir wd331 wd330 rfl rfl (by decide) (z_room0 S M (by rfl) (by rfl)) rfl (Nat.le_of_ble_eq_true rfl) rfl dX6_fits_54 (fun q => b2i q) (fun _ => P) (fun q hq => m_X2_canBeHeir (xl x) E _ _  q hq) hf (fun q5 hf => ?_)
      exact z_zretP (v := q5) S M rfl dX6_fits_57 hf
  refine z_tif hf (fun h6 hf => ?_) (fun h6 hf => ?_)
  · refine z_lookup (tgt := 58) S dX6_fits_1 (by decide) (by rw [h6]; try rfl) (by decide) ?_
    refine z_iload_n S 3 dX6_fits_58 rfl rfl ?_
    refine z_bipush (v := 9) S dX6_fits_59 (by decide) ?_
    refine z_icmp_eq (tgt := 73) S dX6_fits_61 (by decide) hf (fun hf => ?_) (fun hf => ?_)
    · refine z_iconst (v := 1) S dX6_fits_73 (by decide) ?_
      refine z_goto (tgt := 78) S dX6_fits_74 (by decide) ?_
      exact z_zretP (v := true) S M rfl dX6_fits_78 hf
    · refine z_aload S 4 dX6_fits_64 rfl ?_
      refine z_iload_n S 3 dX6_fits_66 rfl rfl ?_
      refine z_callVI (rc := r_X2_isPerson) [.int x3] S mo_X2_isPerson wd334 wd335 wd333 h_x4 (by decide) cl_1 rfl rfl (by decide) (z_room0 S M (by rfl) (by rfl)) rfl (Nat.le_of_ble_eq_true rfl) rfl dX6_fits_67 (fun q => b2i q) (fun _ => P) (fun q hq => m_X2_isPerson (xl x) E _ _ _ h_x4 q hq) hf (fun q7 hf => ?_)
      refine z_if_eq (tgt := 77) S dX6_fits_70 (by decide) hf (fun hf => ?_) (fun hf => ?_)
      · refine z_iconst (v := 0) S dX6_fits_77 (by decide) ?_
        exact z_zretP (v := false) S M rfl dX6_fits_78 hf
      · refine z_iconst (v := 1) S dX6_fits_73 (by decide) ?_
        refine z_goto (tgt := 78) S dX6_fits_74 (by decide) ?_
        exact z_zretP (v := true) S M rfl dX6_fits_78 hf
  refine z_lookup (tgt := 108) (off := 107) S dX6_fits_1 (by decide) ((lv_osw h1 rfl).trans ((lv_osw h4 rfl).trans ((lv_osw h6 rfl).trans (rfl)))) (by decide) ?_
  refine z_iload_n S 2 dX6_fits_108 rfl rfl ?_
  refine z_if_ne (tgt := 119) S dX6_fits_109 (by decide) hf (fun hf => ?_) (fun hf => ?_)
  · refine z_aload S 4 dX6_fits_112 rfl ?_
    refine z_iload_n S 3 dX6_fits_114 rfl rfl ?_
    refine z_callVI (rc := r_X2_isPerson) [.int x3] S mo_X2_isPerson wd334 wd335 wd333 h_x4 (by decide) cl_1 rfl rfl (by decide) (z_room0 S M (by rfl) (by rfl)) rfl (Nat.le_of_ble_eq_true rfl) rfl dX6_fits_115 (fun q => b2i q) (fun _ => P) (fun q hq => m_X2_isPerson (xl x) E _ _ _ h_x4 q hq) hf (fun q8 hf => ?_)
    exact z_zretP (v := q8) S M rfl dX6_fits_118 hf
  · refine z_iload_n S 2 dX6_fits_119 rfl rfl ?_
    refine z_iconst (v := 1) S dX6_fits_120 (by decide) ?_
    refine z_icmp_ne (tgt := 133) S dX6_fits_121 (by decide) hf (fun hf => ?_) (fun hf => ?_)
    · refine z_aload S 4 dX6_fits_124 rfl ?_
      refine z_iload_n S 3 dX6_fits_126 rfl rfl ?_
      refine z_callVI (rc := r_X2_isRoom) [.int x3] S mo_X2_isRoom wd338 wd339 wd337 h_x4 (by decide) cl_1 rfl rfl (by decide) (z_room0 S M (by rfl) (by rfl)) rfl (Nat.le_of_ble_eq_true rfl) rfl dX6_fits_127 (fun q => b2i q) (fun _ => P) (fun q hq => m_X2_isRoom (xl x) E _ _ _ h_x4 q hq) hf (fun q9 hf => ?_)
      refine z_goto (tgt := 144) S dX6_fits_130 (by decide) ?_
      exact z_zretP (v := q9) S M rfl dX6_fits_144 hf
    · refine z_iload_n S 3 dX6_fits_133 rfl rfl ?_
      refine z_bipush (v := 99) S dX6_fits_134 (by decide) ?_
      refine z_icmp_gt (tgt := 143) S dX6_fits_136 (by decide) hf (fun hf => ?_) (fun hf => ?_)
      · refine z_iconst (v := 0) S dX6_fits_143 (by decide) ?_
        exact z_zretP (v := false) S M rfl dX6_fits_144 hf
      · refine z_iconst (v := 1) S dX6_fits_139 (by decide) ?_
        refine z_goto (tgt := 144) S dX6_fits_140 (by decide) ?_
        exact z_zretP (v := true) S M rfl dX6_fits_144 hf
theorem m_X6_fits (l : Launch) (E : Ev) (P : PH) (x0 : Nat) (x1 : Int32) (x2 : Int32) (x3 : Int32) (x4 : Nat) (h_x0 : ok x0 4 0) (h_x4 : ok x4 1 0) (r : Bool) (hf : f_X6_fits P x0 x1 x2 x3 x4 = some r) : CtI l E yX6_fits cX6_fits 5 (some .boolean) r_X6_fits [.ref (ad E x0), .int x1, .int x2, .int x3, .ref (ad E x4)] P (b2i r) P :=
  z_body (own := RX6) (by decide +kernel) rfl (Nat.le_of_ble_eq_true rfl) rfl (fun x _ S M => w_X6_fits S M P x0 x1 x2 x3 x4 h_x0 h_x4 r hf)
-- yX6_tell
theorem dX6_tell_0 : decode cX6_tell 0 = .ok (.aload_n 0, 1) := by decide +kernel
theorem dX6_tell_1 : decode cX6_tell 1 = .ok (.getfield 18, 3) := by decide +kernel
theorem dX6_tell_4 : decode cX6_tell 4 = .ok (.iconst 0, 1) := by decide +kernel
theorem dX6_tell_5 : decode cX6_tell 5 = .ok (.iaload, 1) := by decide +kernel
theorem dX6_tell_6 : decode cX6_tell 6 = .ok (.istore_n 3, 1) := by decide +kernel
theorem dX6_tell_7 : decode cX6_tell 7 = .ok (.aload_n 0, 1) := by decide +kernel
theorem dX6_tell_8 : decode cX6_tell 8 = .ok (.getfield 18, 3) := by decide +kernel
theorem dX6_tell_11 : decode cX6_tell 11 = .ok (.iconst 1, 1) := by decide +kernel
theorem dX6_tell_12 : decode cX6_tell 12 = .ok (.iaload, 1) := by decide +kernel
theorem dX6_tell_13 : decode cX6_tell 13 = .ok (.istore 4, 2) := by decide +kernel
theorem dX6_tell_15 : decode cX6_tell 15 = .ok (.iload_n 1, 1) := by decide +kernel
theorem dX6_tell_16 : decode cX6_tell 16 = .ok (.lookupswitch 143 #[(98, 97), (100, 87), (112, 60), (114, 79), (119, 108), (120, 124)], 60) := by decide +kernel
theorem dX6_tell_76 : decode cX6_tell 76 = .ok (.aload_n 2, 1) := by decide +kernel
theorem dX6_tell_77 : decode cX6_tell 77 = .ok (.iload_n 3, 1) := by decide +kernel
theorem dX6_tell_78 : decode cX6_tell 78 = .ok (.iconst 1, 1) := by decide +kernel
theorem dX6_tell_79 : decode cX6_tell 79 = .ok (.if_icmp .ne 7, 3) := by decide +kernel
theorem dX6_tell_82 : decode cX6_tell 82 = .ok (.iconst 1, 1) := by decide +kernel
theorem dX6_tell_83 : decode cX6_tell 83 = .ok (.goto 4, 3) := by decide +kernel
theorem dX6_tell_86 : decode cX6_tell 86 = .ok (.iconst 0, 1) := by decide +kernel
theorem dX6_tell_87 : decode cX6_tell 87 = .ok (.iload 4, 2) := by decide +kernel
theorem dX6_tell_89 : decode cX6_tell 89 = .ok (.invokevirtual 88, 3) := by decide +kernel
theorem dX6_tell_92 : decode cX6_tell 92 = .ok (.goto 67, 3) := by decide +kernel
theorem dX6_tell_95 : decode cX6_tell 95 = .ok (.aload_n 2, 1) := by decide +kernel
theorem dX6_tell_96 : decode cX6_tell 96 = .ok (.iload_n 3, 1) := by decide +kernel
theorem dX6_tell_97 : decode cX6_tell 97 = .ok (.invokevirtual 92, 3) := by decide +kernel
theorem dX6_tell_100 : decode cX6_tell 100 = .ok (.goto 59, 3) := by decide +kernel
theorem dX6_tell_103 : decode cX6_tell 103 = .ok (.aload_n 2, 1) := by decide +kernel
theorem dX6_tell_104 : decode cX6_tell 104 = .ok (.iload_n 3, 1) := by decide +kernel
theorem dX6_tell_105 : decode cX6_tell 105 = .ok (.iload 4, 2) := by decide +kernel
theorem dX6_tell_107 : decode cX6_tell 107 = .ok (.invokevirtual 96, 3) := by decide +kernel
theorem dX6_tell_110 : decode cX6_tell 110 = .ok (.goto 49, 3) := by decide +kernel
theorem dX6_tell_113 : decode cX6_tell 113 = .ok (.aload_n 2, 1) := by decide +kernel
theorem dX6_tell_114 : decode cX6_tell 114 = .ok (.getfield 100, 3) := by decide +kernel
theorem dX6_tell_117 : decode cX6_tell 117 = .ok (.iload_n 3, 1) := by decide +kernel
theorem dX6_tell_118 : decode cX6_tell 118 = .ok (.iload 4, 2) := by decide +kernel
theorem dX6_tell_120 : decode cX6_tell 120 = .ok (.iastore, 1) := by decide +kernel
theorem dX6_tell_121 : decode cX6_tell 121 = .ok (.goto 38, 3) := by decide +kernel
theorem dX6_tell_124 : decode cX6_tell 124 = .ok (.aload_n 2, 1) := by decide +kernel
theorem dX6_tell_125 : decode cX6_tell 125 = .ok (.getfield 103, 3) := by decide +kernel
theorem dX6_tell_128 : decode cX6_tell 128 = .ok (.iload_n 3, 1) := by decide +kernel
theorem dX6_tell_129 : decode cX6_tell 129 = .ok (.dup2, 1) := by decide +kernel
theorem dX6_tell_130 : decode cX6_tell 130 = .ok (.iaload, 1) := by decide +kernel
theorem dX6_tell_131 : decode cX6_tell 131 = .ok (.iconst 1, 1) := by decide +kernel
theorem dX6_tell_132 : decode cX6_tell 132 = .ok (.iload 4, 2) := by decide +kernel
theorem dX6_tell_134 : decode cX6_tell 134 = .ok (.ishl, 1) := by decide +kernel
theorem dX6_tell_135 : decode cX6_tell 135 = .ok (.ior, 1) := by decide +kernel
theorem dX6_tell_136 : decode cX6_tell 136 = .ok (.iastore, 1) := by decide +kernel
theorem dX6_tell_137 : decode cX6_tell 137 = .ok (.goto 22, 3) := by decide +kernel
theorem dX6_tell_140 : decode cX6_tell 140 = .ok (.aload_n 2, 1) := by decide +kernel
theorem dX6_tell_141 : decode cX6_tell 141 = .ok (.getfield 69, 3) := by decide +kernel
theorem dX6_tell_144 : decode cX6_tell 144 = .ok (.iload_n 3, 1) := by decide +kernel
theorem dX6_tell_145 : decode cX6_tell 145 = .ok (.iload 4, 2) := by decide +kernel
theorem dX6_tell_147 : decode cX6_tell 147 = .ok (.aload_n 0, 1) := by decide +kernel
theorem dX6_tell_148 : decode cX6_tell 148 = .ok (.getfield 18, 3) := by decide +kernel
theorem dX6_tell_151 : decode cX6_tell 151 = .ok (.iconst 2, 1) := by decide +kernel
theorem dX6_tell_152 : decode cX6_tell 152 = .ok (.iaload, 1) := by decide +kernel
theorem dX6_tell_153 : decode cX6_tell 153 = .ok (.invokevirtual 106, 3) := by decide +kernel
theorem dX6_tell_156 : decode cX6_tell 156 = .ok (.goto 3, 3) := by decide +kernel
theorem dX6_tell_159 : decode cX6_tell 159 = .ok (.return_, 1) := by decide +kernel
def r_X6_tell : Room := { frames := 1, cells := 0, slots := 0, locals := 23 }
def f_X6_tell (P : PH) (x0 : Nat) (x1 : Int32) (x2 : Nat) : Option PH :=
  (if ((0 : Int32) < 0 ∨ 3 ≤ (0 : Int32).toNatClampNeg) then none else (if ((1 : Int32) < 0 ∨ 3 ≤ (1 : Int32).toNatClampNeg) then none else (if x1 = (98 : Int32) then (if ((P.1 (P.2.2 x0 1) (0 : Int32).toNatClampNeg) < 0 ∨ 6 ≤ (P.1 (P.2.2 x0 1) (0 : Int32).toNatClampNeg).toNatClampNeg) then none else ((some (sI P (P.2.2 x2 3) (P.1 (P.2.2 x0 1) (0 : Int32).toNatClampNeg).toNatClampNeg (P.1 (P.2.2 x0 1) (1 : Int32).toNatClampNeg))).bind fun P5 => some P5)) else (if x1 = (100 : Int32) then ((f_X2_addDoor P x2 (P.1 (P.2.2 x0 1) (0 : Int32).toNatClampNeg) (P.1 (P.2.2 x0 1) (1 : Int32).toNatClampNeg)).bind fun q7 => some q7) else (if x1 = (112 : Int32) then (if (P.1 (P.2.2 x0 1) (0 : Int32).toNatClampNeg) = (1 : Int32) then ((f_X2_addPerson P x2 (1 : Int32) (P.1 (P.2.2 x0 1) (1 : Int32).toNatClampNeg)).bind fun q9 => some q9) else ((f_X2_addPerson P x2 (0 : Int32) (P.1 (P.2.2 x0 1) (1 : Int32).toNatClampNeg)).bind fun q10 => some q10)) else (if x1 = (114 : Int32) then ((f_X2_addRoom P x2 (P.1 (P.2.2 x0 1) (0 : Int32).toNatClampNeg)).bind fun q12 => some q12) else (if x1 = (119 : Int32) then (if ((P.1 (P.2.2 x0 1) (0 : Int32).toNatClampNeg) < 0 ∨ 6 ≤ (P.1 (P.2.2 x0 1) (0 : Int32).toNatClampNeg).toNatClampNeg) then none else (if ((P.1 (P.2.2 x0 1) (0 : Int32).toNatClampNeg) < 0 ∨ 6 ≤ (P.1 (P.2.2 x0 1) (0 : Int32).toNatClampNeg).toNatClampNeg) then none else ((some (sI P (P.2.2 x2 4) (P.1 (P.2.2 x0 1) (0 : Int32).toNatClampNeg).toNatClampNeg ((P.1 (P.2.2 x2 4) (P.1 (P.2.2 x0 1) (0 : Int32).toNatClampNeg).toNatClampNeg) ||| ((1 : Int32) <<< ((P.1 (P.2.2 x0 1) (1 : Int32).toNatClampNeg) &&& 31))))).bind fun P15 => some P15))) else (if x1 = (120 : Int32) then (if ((2 : Int32) < 0 ∨ 3 ≤ (2 : Int32).toNatClampNeg) then none else ((f_X4_addRight P (P.2.2 x2 5) (P.1 (P.2.2 x0 1) (0 : Int32).toNatClampNeg) (P.1 (P.2.2 x0 1) (1 : Int32).toNatClampNeg) (P.1 (P.2.2 x0 1) (2 : Int32).toNatClampNeg)).bind fun q19 => some q19)) else some P))))))))
theorem w_X6_tell {x : Fx} {E : Ev} (S : ZS x E r_X6_tell cX6_tell 5 RX6 none) (M : ZM x E) (P : PH) (x0 : Nat) (x1 : Int32) (x2 : Nat) (h_x0 : ok x0 4 0) (h_x2 : ok x2 1 0) (r : PH) (hf : f_X6_tell P x0 x1 x2 = some r) : Wz x E 5 (QV E x r) P 0 [(0, .ref (ad E x0)), (1, .int x1), (2, .ref (ad E x2))] [] := by
  unfold f_X6_tell at hf
  refine z_aload_n S 0 dX6_tell_0 rfl rfl ?_
  refine z_getR (K' := 9) (n' := 3) S cf_4 h_x0 1 (by decide) rfl rfl rfl wd93 dX6_tell_1 (fun h1 => ?_)
  refine z_iconst (v := 0) S dX6_tell_4 (by decide) ?_
  refine z_iald S h1 dX6_tell_5 hf (fun hf => ?_)
  refine z_istore_n (lv' := [(3, .int (P.1 (P.2.2 x0 1) (0 : Int32).toNatClampNeg)), (0, .ref (ad E x0)), (1, .int x1), (2, .ref (ad E x2))]) S dX6_tell_6 rfl (by decide) rfl ?_
  refine z_aload_n S 1 dX6_tell_7 rfl rfl ?_
  refine z_getR (K' := 9) (n' := 3) S cf_4 h_x0 1 (by decide) rfl rfl rfl wd93 dX6_tell_8 (fun h2 => ?_)
  refine z_iconst (v := 1) S dX6_tell_11 (by decide) ?_
  refine z_iald S h2 dX6_tell_12 hf (fun hf => ?_)
  refine z_istore (lv' := [(4, .int (P.1 (P.2.2 x0 1) (1 : Int32).toNatClampNeg)), (3, .int (P.1 (P.2.2 x0 1) (0 : Int32).toNatClampNeg)), (0, .ref (ad E x0)), (1, .int x1), (2, .ref (ad E x2))]) S dX6_tell_13 (by decide) rfl ?_
  refine z_iload_n S 3 dX6_tell_15 rfl rfl ?_
  refine z_tif hf (fun h3 hf => ?_) (fun h3 hf => ?_)
  · refine z_lookup (tgt := 113) S dX6_tell_16 (by decide) (by rw [h3]; try rfl) (by decide) ?_
    refine z_aload_n S 4 dX6_tell_113 rfl rfl ?_
    refine z_getR (K' := 9) (n' := 6) S cf_1 h_x2 3 (by decide) rfl rfl rfl wd226 dX6_tell_114 (fun h4 => ?_)
    refine z_iload_n S 1 dX6_tell_117 rfl rfl ?_
    refine z_iload S 0 dX6_tell_118 rfl ?_
    refine z_iast S h4 dX6_tell_120 hf (fun hf => ?_)
    refine z_nmP hf (fun P5 hf => ?_)
    refine z_goto (tgt := 159) S dX6_tell_121 (by decide) ?_
    exact z_vretI S M rfl dX6_tell_159 hf
  refine z_tif hf (fun h6 hf => ?_) (fun h6 hf => ?_)
  · refine z_lookup (tgt := 103) S dX6_tell_16 (by decide) (by rw [h6]; try rfl) (by decide) ?_
    refine z_aload_n S 4 dX6_tell_103 rfl rfl ?_
    refine z_iload_n S 1 dX6_tell_104 rfl rfl ?_
    refine z_iload S 0 dX6_tell_105 rfl ?_
    refine z_callVV (rc := r_X2_addDoor) [.int (P.1 (P.2.2 x0 1) (0 : Int32).toNatClampNeg), .int (P.1 (P.2.2 x0 1) (1 : Int32).toNatClampNeg)] S mo_X2_addDoor wd354 wd355 wd353 h_x2 (by decide) cl_1 rfl rfl (by decide) (z_room0 S M (by rfl) (by rfl)) rfl (Nat.le_of_ble_eq_true rfl) rfl dX6_tell_107  (fun q => q) (fun q hq => m_X2_addDoor (xl x) E _ _ _ _ h_x2 q hq) hf (fun q7 hf => ?_)
    refine z_goto (tgt := 159) S dX6_tell_110 (by decide) ?_
    exact z_vretI S M rfl dX6_tell_159 hf
  refine z_tif hf (fun h8 hf => ?_) (fun h8 hf => ?_)
  · refine z_lookup (tgt := 76) S dX6_tell_16 (by decide) (by rw [h8]; try rfl) (by decide) ?_
    refine z_aload_n S 4 dX6_tell_76 rfl rfl ?_
    refine z_iload_n S 1 dX6_tell_77 rfl rfl ?_
    refine z_iconst (v := 1) S dX6_tell_78 (by decide) ?_
    refine z_icmp_ne (tgt := 86) S dX6_tell_79 (by decide) hf (fun hf => ?_) (fun hf => ?_)
    · refine z_iconst (v := 1) S dX6_tell_82 (by decide) ?_
      refine z_goto (tgt := 87) S dX6_tell_83 (by decide) ?_
      refine z_iload S 0 dX6_tell_87 rfl ?_
      refine z_callVV (rc := r_X2_addPerson) [.int (1 : Int32), .int (P.1 (P.2.2 x0 1) (1 : Int32).toNatClampNeg)] S mo_X2_addPerson wd346 wd347 wd345 h_x2 (by decide) cl_1 rfl rfl (by decide) (z_room0 S M (by rfl) (by rfl)) rfl (Nat.le_of_ble_eq_true rfl) rfl dX6_tell_89  (fun q => q) (fun q hq => m_X2_addPerson (xl x) E _ _ _ _ h_x2 q hq) hf (fun q9 hf => ?_)
      refine z_goto (tgt := 159) S dX6_tell_92 (by decide) ?_
      exact z_vretI S M rfl dX6_tell_159 hf
    · refine z_iconst (v := 0) S dX6_tell_86 (by decide) ?_
      refine z_iload S 0 dX6_tell_87 rfl ?_
      refine z_callVV (rc := r_X2_addPerson) [.int (0 : Int32), .int (P.1 (P.2.2 x0 1) (1 : Int32).toNatClampNeg)] S mo_X2_addPerson wd346 wd347 wd345 h_x2 (by decide) cl_1 rfl rfl (by decide) (z_room0 S M (by rfl) (by rfl)) rfl (Nat.le_of_ble_eq_true rfl) rfl dX6_tell_89  (fun q => q) (fun q hq => m_X2_addPerson (xl x) E _ _ _ _ h_x2 q hq) hf (fun q10 hf => ?_)
      refine z_goto (tgt := 159) S dX6_tell_92 (by decide) ?_
      exact z_vretI S M rfl dX6_tell_159 hf
  refine z_tif hf (fun h11 hf => ?_) (fun h11 hf => ?_)
  · refine z_lookup (tgt := 95) S dX6_tell_16 (by decide) (by rw [h11]; try rfl) (by decide) ?_
    refine z_aload_n S 4 dX6_tell_95 rfl rfl ?_
    refine z_iload_n S 1 dX6_tell_96 rfl rfl ?_
    refine z_callVV (rc := r_X2_addRoom) [.int (P.1 (P.2.2 x0 1) (0 : Int32).toNatClampNeg)] S mo_X2_addRoom wd350 wd351 wd349 h_x2 (by decide) cl_1 rfl rfl (by decide) (z_room0 S M (by rfl) (by rfl)) rfl (Nat.le_of_ble_eq_true rfl) rfl dX6_tell_97  (fun q => q) (fun q hq => m_X2_addRoom (xl x) E _ _ _ h_x2 q hq) hf (fun q12 hf => ?_)
    refine z_goto (tgt := 159) S dX6_tell_100 (by decide) ?_
    exact z_vretI S M rfl dX6_tell_159 hf
  refine z_tif hf (fun h13 hf => ?_) (fun h13 hf => ?_)
  · refine z_lookup (tgt := 124) S dX6_tell_16 (by decide) (by rw [h13]; try rfl) (by decide) ?_
    refine z_aload_n S 4 dX6_tell_124 rfl rfl ?_
    refine z_getR (K' := 9) (n' := 6) S cf_1 h_x2 4 (by decide) rfl rfl rfl wd229 dX6_tell_125 (fun h14 => ?_)
    refine z_iload_n S 1 dX6_tell_128 rfl rfl ?_
    refine z_dup2 S dX6_tell_129 rfl rfl ?_
    refine z_iald S h14 dX6_tell_130 hf (fun hf => ?_)
    refine z_iconst (v := 1) S dX6_tell_131 (by decide) ?_
    refine z_iload S 0 dX6_tell_132 rfl ?_
    refine z_ishl S dX6_tell_134 ?_
    refine z_ior S dX6_tell_135 ?_
    refine z_iast S h14 dX6_tell_136 hf (fun hf => ?_)
    refine z_nmP hf (fun P15 hf => ?_)
    refine z_goto (tgt := 159) S dX6_tell_137 (by decide) ?_
    exact z_vretI S M rfl dX6_tell_159 hf
  refine z_tif hf (fun h16 hf => ?_) (fun h16 hf => ?_)
  · refine z_lookup (tgt := 140) S dX6_tell_16 (by decide) (by rw [h16]; try rfl) (by decide) ?_
    refine z_aload_n S 4 dX6_tell_140 rfl rfl ?_
    refine z_getR (K' := 2) (n' := 0) S cf_1 h_x2 5 (by decide) rfl rfl rfl wd235 dX6_tell_141 (fun h17 => ?_)
    refine z_iload_n S 1 dX6_tell_144 rfl rfl ?_
    refine z_iload S 0 dX6_tell_145 rfl ?_
    refine z_aload_n S 2 dX6_tell_147 rfl rfl ?_
    refine z_getR (K' := 9) (n' := 3) S cf_4 h_x0 1 (by decide) rfl rfl rfl wd93 dX6_tell_148 (fun h18 => ?_)
    refine z_iconst (v := 2) S dX6_tell_151 (by decide) ?_
    refine z_iald S h18 dX6_tell_152 hf (fun hf => ?_)
    refine z_callVV (rc := r_X4_addRight) [.int (P.1 (P.2.2 x0 1) (0 : Int32).toNatClampNeg), .int (P.1 (P.2.2 x0 1) (1 : Int32).toNatClampNeg), .int (P.1 (P.2.2 x0 1) (2 : Int32).toNatClampNeg)] S mo_X4_addRight wd358 wd359 wd357 h17 (by decide) cl_2 rfl rfl (by decide) (z_room0 S M (by rfl) (by rfl)) rfl (Nat.le_of_ble_eq_true rfl) rfl dX6_tell_153  (fun q => q) (fun q hq => m_X4_addRight (xl x) E _ _ _ _ _ h17 q hq) hf (fun q19 hf => ?_)
    refine z_goto (tgt := 159) S dX6_tell_156 (by decide) ?_
    exact z_vretI S M rfl dX6_tell_159 hf
  refine z_lookup (tgt := 159) (off := 143) S dX6_tell_16 (by decide) ((lv_osw h3 rfl).trans ((lv_osw h6 rfl).trans ((lv_osw h8 rfl).trans ((lv_osw h11 rfl).trans ((lv_osw h13 rfl).trans ((lv_osw h16 rfl).trans (rfl))))))) (by decide) ?_
  exact z_vretI S M rfl dX6_tell_159 hf
theorem m_X6_tell (l : Launch) (E : Ev) (P : PH) (x0 : Nat) (x1 : Int32) (x2 : Nat) (h_x0 : ok x0 4 0) (h_x2 : ok x2 1 0) (r : PH) (hf : f_X6_tell P x0 x1 x2 = some r) : CtV l E yX6_tell cX6_tell 5 none r_X6_tell [.ref (ad E x0), .int x1, .ref (ad E x2)] P r :=
  z_body (own := RX6) (by decide +kernel) rfl (Nat.le_of_ble_eq_true rfl) rfl (fun x _ S M => w_X6_tell S M P x0 x1 x2 h_x0 h_x2 r hf)
-- yX6_readItem
theorem dX6_readItem_0 : decode cX6_readItem 0 = .ok (.aload_n 0, 1) := by decide +kernel
theorem dX6_readItem_1 : decode cX6_readItem 1 = .ok (.getfield 12, 3) := by decide +kernel
theorem dX6_readItem_4 : decode cX6_readItem 4 = .ok (.getfield 33, 3) := by decide +kernel
theorem dX6_readItem_7 : decode cX6_readItem 7 = .ok (.iconst 1, 1) := by decide +kernel
theorem dX6_readItem_8 : decode cX6_readItem 8 = .ok (.if_icmp .ne 17, 3) := by decide +kernel
theorem dX6_readItem_11 : decode cX6_readItem 11 = .ok (.aload_n 0, 1) := by decide +kernel
theorem dX6_readItem_12 : decode cX6_readItem 12 = .ok (.getfield 12, 3) := by decide +kernel
theorem dX6_readItem_15 : decode cX6_readItem 15 = .ok (.getfield 44, 3) := by decide +kernel
theorem dX6_readItem_18 : decode cX6_readItem 18 = .ok (.aload_n 1, 1) := by decide +kernel
theorem dX6_readItem_19 : decode cX6_readItem 19 = .ok (.invokestatic 47, 3) := by decide +kernel
theorem dX6_readItem_22 : decode cX6_readItem 22 = .ok (.ifCond .ne 5, 3) := by decide +kernel
theorem dX6_readItem_25 : decode cX6_readItem 25 = .ok (.iconst 0, 1) := by decide +kernel
theorem dX6_readItem_26 : decode cX6_readItem 26 = .ok (.ireturn, 1) := by decide +kernel
theorem dX6_readItem_27 : decode cX6_readItem 27 = .ok (.aload_n 0, 1) := by decide +kernel
theorem dX6_readItem_28 : decode cX6_readItem 28 = .ok (.getfield 12, 3) := by decide +kernel
theorem dX6_readItem_31 : decode cX6_readItem 31 = .ok (.getfield 44, 3) := by decide +kernel
theorem dX6_readItem_34 : decode cX6_readItem 34 = .ok (.istore_n 2, 1) := by decide +kernel
theorem dX6_readItem_35 : decode cX6_readItem 35 = .ok (.iload_n 2, 1) := by decide +kernel
theorem dX6_readItem_36 : decode cX6_readItem 36 = .ok (.invokestatic 51, 3) := by decide +kernel
theorem dX6_readItem_39 : decode cX6_readItem 39 = .ok (.istore_n 3, 1) := by decide +kernel
theorem dX6_readItem_40 : decode cX6_readItem 40 = .ok (.iconst 0, 1) := by decide +kernel
theorem dX6_readItem_41 : decode cX6_readItem 41 = .ok (.istore 4, 2) := by decide +kernel
theorem dX6_readItem_43 : decode cX6_readItem 43 = .ok (.iload 4, 2) := by decide +kernel
theorem dX6_readItem_45 : decode cX6_readItem 45 = .ok (.iload_n 3, 1) := by decide +kernel
theorem dX6_readItem_46 : decode cX6_readItem 46 = .ok (.if_icmp .ge 61, 3) := by decide +kernel
theorem dX6_readItem_49 : decode cX6_readItem 49 = .ok (.aload_n 0, 1) := by decide +kernel
theorem dX6_readItem_50 : decode cX6_readItem 50 = .ok (.getfield 12, 3) := by decide +kernel
theorem dX6_readItem_53 : decode cX6_readItem 53 = .ok (.invokevirtual 30, 3) := by decide +kernel
theorem dX6_readItem_56 : decode cX6_readItem 56 = .ok (.aload_n 0, 1) := by decide +kernel
theorem dX6_readItem_57 : decode cX6_readItem 57 = .ok (.getfield 12, 3) := by decide +kernel
theorem dX6_readItem_60 : decode cX6_readItem 60 = .ok (.getfield 33, 3) := by decide +kernel
theorem dX6_readItem_63 : decode cX6_readItem 63 = .ok (.iconst 2, 1) := by decide +kernel
theorem dX6_readItem_64 : decode cX6_readItem 64 = .ok (.if_icmp .ne 21, 3) := by decide +kernel
theorem dX6_readItem_67 : decode cX6_readItem 67 = .ok (.aload_n 0, 1) := by decide +kernel
theorem dX6_readItem_68 : decode cX6_readItem 68 = .ok (.iload_n 2, 1) := by decide +kernel
theorem dX6_readItem_69 : decode cX6_readItem 69 = .ok (.iload 4, 2) := by decide +kernel
theorem dX6_readItem_71 : decode cX6_readItem 71 = .ok (.aload_n 0, 1) := by decide +kernel
theorem dX6_readItem_72 : decode cX6_readItem 72 = .ok (.getfield 12, 3) := by decide +kernel
theorem dX6_readItem_75 : decode cX6_readItem 75 = .ok (.getfield 44, 3) := by decide +kernel
theorem dX6_readItem_78 : decode cX6_readItem 78 = .ok (.aload_n 1, 1) := by decide +kernel
theorem dX6_readItem_79 : decode cX6_readItem 79 = .ok (.invokevirtual 55, 3) := by decide +kernel
theorem dX6_readItem_82 : decode cX6_readItem 82 = .ok (.ifCond .ne 5, 3) := by decide +kernel
theorem dX6_readItem_85 : decode cX6_readItem 85 = .ok (.iconst 0, 1) := by decide +kernel
theorem dX6_readItem_86 : decode cX6_readItem 86 = .ok (.ireturn, 1) := by decide +kernel
theorem dX6_readItem_87 : decode cX6_readItem 87 = .ok (.aload_n 0, 1) := by decide +kernel
theorem dX6_readItem_88 : decode cX6_readItem 88 = .ok (.getfield 18, 3) := by decide +kernel
theorem dX6_readItem_91 : decode cX6_readItem 91 = .ok (.iload 4, 2) := by decide +kernel
theorem dX6_readItem_93 : decode cX6_readItem 93 = .ok (.aload_n 0, 1) := by decide +kernel
theorem dX6_readItem_94 : decode cX6_readItem 94 = .ok (.getfield 12, 3) := by decide +kernel
theorem dX6_readItem_97 : decode cX6_readItem 97 = .ok (.getfield 44, 3) := by decide +kernel
theorem dX6_readItem_100 : decode cX6_readItem 100 = .ok (.iastore, 1) := by decide +kernel
theorem dX6_readItem_101 : decode cX6_readItem 101 = .ok (.iinc 4 1, 3) := by decide +kernel
theorem dX6_readItem_104 : decode cX6_readItem 104 = .ok (.goto (-61), 3) := by decide +kernel
theorem dX6_readItem_107 : decode cX6_readItem 107 = .ok (.aload_n 0, 1) := by decide +kernel
theorem dX6_readItem_108 : decode cX6_readItem 108 = .ok (.getfield 12, 3) := by decide +kernel
theorem dX6_readItem_111 : decode cX6_readItem 111 = .ok (.invokevirtual 30, 3) := by decide +kernel
theorem dX6_readItem_114 : decode cX6_readItem 114 = .ok (.aload_n 0, 1) := by decide +kernel
theorem dX6_readItem_115 : decode cX6_readItem 115 = .ok (.getfield 12, 3) := by decide +kernel
theorem dX6_readItem_118 : decode cX6_readItem 118 = .ok (.getfield 33, 3) := by decide +kernel
theorem dX6_readItem_121 : decode cX6_readItem 121 = .ok (.iconst 1, 1) := by decide +kernel
theorem dX6_readItem_122 : decode cX6_readItem 122 = .ok (.if_icmp .ne 15, 3) := by decide +kernel
theorem dX6_readItem_125 : decode cX6_readItem 125 = .ok (.aload_n 0, 1) := by decide +kernel
theorem dX6_readItem_126 : decode cX6_readItem 126 = .ok (.getfield 12, 3) := by decide +kernel
theorem dX6_readItem_129 : decode cX6_readItem 129 = .ok (.getfield 44, 3) := by decide +kernel
theorem dX6_readItem_132 : decode cX6_readItem 132 = .ok (.bipush 59, 2) := by decide +kernel
theorem dX6_readItem_134 : decode cX6_readItem 134 = .ok (.if_icmp .eq 5, 3) := by decide +kernel
theorem dX6_readItem_137 : decode cX6_readItem 137 = .ok (.iconst 0, 1) := by decide +kernel
theorem dX6_readItem_138 : decode cX6_readItem 138 = .ok (.ireturn, 1) := by decide +kernel
theorem dX6_readItem_139 : decode cX6_readItem 139 = .ok (.aload_n 0, 1) := by decide +kernel
theorem dX6_readItem_140 : decode cX6_readItem 140 = .ok (.iload_n 2, 1) := by decide +kernel
theorem dX6_readItem_141 : decode cX6_readItem 141 = .ok (.aload_n 1, 1) := by decide +kernel
theorem dX6_readItem_142 : decode cX6_readItem 142 = .ok (.invokevirtual 59, 3) := by decide +kernel
theorem dX6_readItem_145 : decode cX6_readItem 145 = .ok (.iconst 1, 1) := by decide +kernel
theorem dX6_readItem_146 : decode cX6_readItem 146 = .ok (.ireturn, 1) := by decide +kernel
def r_X6_readItem : Room := { frames := 3, cells := 0, slots := 0, locals := 62 }
def f_X6_readItem_L43 (K0 : PH → Option (Bool × PH)) (K1 : PH → Option (Bool × PH)) (x0 : Nat) (x1 : Nat) (x2 : Int32) (x3 : Int32) : Nat → PH → Int32 → Option (Bool × PH)
  | 0, _, _ => none
  | n + 1, P, x4 =>
    (if x3 ≤ x4 then K1 P else ((f_X8_next P (P.2.2 x0 0)).bind fun q2 => (if (q2.1 (q2.2.2 x0 0) 2) = (2 : Int32) then ((f_X6_fits q2 x0 x2 x4 (q2.1 (q2.2.2 x0 0) 4) x1).bind fun q5 => (if (b2i q5) = 0 then K0 q2 else (if (x4 < 0 ∨ 3 ≤ x4.toNatClampNeg) then none else ((some (sI q2 (q2.2.2 x0 1) x4.toNatClampNeg (q2.1 (q2.2.2 x0 0) 4))).bind fun P8 => f_X6_readItem_L43 K0 K1 x0 x1 x2 x3 n P8 (x4 + (1 : Int32)))))) else K0 q2)))
theorem w_X6_readItem_L43 {x : Fx} {E : Ev} (S : ZS x E r_X6_readItem cX6_readItem 5 RX6 (some .boolean)) (M : ZM x E) {K0 : PH → Option (Bool × PH)} {K1 : PH → Option (Bool × PH)} (x0 : Nat) (x1 : Nat) (x2 : Int32) (x3 : Int32) (h_x0 : ok x0 4 0) (h_x1 : ok x1 1 0) (r : (Bool × PH)) (hK0 : ∀ (P1 : PH) , K0 P1 = some r → Wz x E 5 (QI E x (b2i r.1) r.2) P1 85 [] []) (hK1 : ∀ (P1 : PH) , K1 P1 = some r → Wz x E 5 (QI E x (b2i r.1) r.2) P1 107 [(0, .ref (ad E x0)), (1, .ref (ad E x1)), (2, .int x2)] []) : ∀ (n : Nat) (P : PH) (x4 : Int32), f_X6_readItem_L43 K0 K1 x0 x1 x2 x3 n P x4 = some r → Wz x E 5 (QI E x (b2i r.1) r.2) P 43 [(0, .ref (ad E x0)), (1, .ref (ad E x1)), (2, .int x2), (3, .int x3), (4, .int x4)] [] := by
  intro n
  induction n with
  | zero => intro P x4 hf; cases hf
  | succ n ih =>
    intro P x4 hf
    unfold f_X6_readItem_L43 at hf
    refine z_iload S 4 dX6_readItem_43 rfl ?_
    refine z_iload_n S 3 dX6_readItem_45 rfl rfl ?_
    refine z_icmp_ge (tgt := 107) S dX6_readItem_46 (by decide) hf (fun hf => ?_) (fun hf => ?_)
    · refine z_sub [0, 1, 2] rfl ?_
      exact hK1 P hf
    · refine z_aload_n S 0 dX6_readItem_49 rfl rfl ?_
      refine z_getR (K' := 6) (n' := 0) S cf_4 h_x0 0 (by decide) rfl rfl rfl wd91 dX6_readItem_50 (fun h1 => ?_)
      refine z_callVV (rc := r_X8_next) [] S mo_X8_next wd305 wd306 wd304 h1 (by decide) cl_6 rfl rfl (by decide) (z_room0 S M (by rfl) (by rfl)) rfl (Nat.le_of_ble_eq_true rfl) rfl dX6_readItem_53  (fun q => q) (fun q hq => m_X8_next (xl x) E _ _ h1 q hq) hf (fun q2 hf => ?_)
      refine z_aload_n S 0 dX6_readItem_56 rfl rfl ?_
      refine z_getR (K' := 6) (n' := 0) S cf_4 h_x0 0 (by decide) rfl rfl rfl wd91 dX6_readItem_57 (fun h3 => ?_)
      refine z_getI S cf_6 h3 2 (by decide) rfl wd70 dX6_readItem_60 ?_
      refine z_iconst (v := 2) S dX6_readItem_63 (by decide) ?_
      refine z_icmp_ne (tgt := 85) S dX6_readItem_64 (by decide) hf (fun hf => ?_) (fun hf => ?_)
      · refine z_aload_n S 0 dX6_readItem_67 rfl rfl ?_
        refine z_iload_n S 2 dX6_readItem_68 rfl rfl ?_
        refine z_iload S 4 dX6_readItem_69 rfl ?_
        refine z_aload_n S 0 dX6_readItem_71 rfl rfl ?_
        refine z_getR (K' := 6) (n' := 0) S cf_4 h_x0 0 (by decide) rfl rfl rfl wd91 dX6_readItem_72 (fun h4 => ?_)
        refine z_getI S cf_6 h4 4 (by decide) rfl wd74 dX6_readItem_75 ?_
        refine z_aload_n S 1 dX6_readItem_78 rfl rfl ?_
        refine z_callVI (rc := r_X6_fits) [.int x2, .int x4, .int (q2.1 (q2.2.2 x0 0) 4), .ref (ad E x1)] S mo_X6_fits wd328 wd3 wd326 h_x0 (by decide) cl_4 rfl rfl (by decide) (z_room0 S M (by rfl) (by rfl)) rfl (Nat.le_of_ble_eq_true rfl) rfl dX6_readItem_79 (fun q => b2i q) (fun _ => q2) (fun q hq => m_X6_fits (xl x) E _ _ _ _ _ _ h_x0 h_x1 q hq) hf (fun q5 hf => ?_)
        refine z_if_ne (tgt := 87) S dX6_readItem_82 (by decide) hf (fun hf => ?_) (fun hf => ?_)
        · refine z_sub [] rfl ?_
          exact hK0 q2 hf
        · refine z_aload_n S 0 dX6_readItem_87 rfl rfl ?_
          refine z_getR (K' := 9) (n' := 3) S cf_4 h_x0 1 (by decide) rfl rfl rfl wd93 dX6_readItem_88 (fun h6 => ?_)
          refine z_iload S 4 dX6_readItem_91 rfl ?_
          refine z_aload_n S 0 dX6_readItem_93 rfl rfl ?_
          refine z_getR (K' := 6) (n' := 0) S cf_4 h_x0 0 (by decide) rfl rfl rfl wd91 dX6_readItem_94 (fun h7 => ?_)
          refine z_getI S cf_6 h7 4 (by decide) rfl wd74 dX6_readItem_97 ?_
          refine z_iast S h6 dX6_readItem_100 hf (fun hf => ?_)
          refine z_nmP hf (fun P8 hf => ?_)
          refine z_iinc (v := (x4 + (1 : Int32))) (lv' := [(4, .int (x4 + (1 : Int32))), (0, .ref (ad E x0)), (1, .ref (ad E x1)), (2, .int x2), (3, .int x3)]) S 4 dX6_readItem_101 rfl (by rfl) (by decide) rfl ?_
          refine z_goto (tgt := 43) S dX6_readItem_104 (by decide) ?_
          refine z_sub [1, 2, 3, 4, 0] rfl ?_
          exact ih P8 (x4 + (1 : Int32)) hf
      · refine z_sub [] rfl ?_
        exact hK0 q2 hf
def f_X6_readItem (P : PH) (x0 : Nat) (x1 : Nat) : Option (Bool × PH) :=
  (if (P.1 (P.2.2 x0 0) 2) = (1 : Int32) then ((f_X6_hasPlaceFor P (P.1 (P.2.2 x0 0) 4) x1).bind fun q11 => (if (b2i q11) = 0 then some (false, P) else ((f_X6_howManyNumbers P (P.1 (P.2.2 x0 0) 4)).bind fun q13 => f_X6_readItem_L43 (fun P14 => some (false, P14)) (fun P15 => ((f_X8_next P15 (P15.2.2 x0 0)).bind fun q17 => (if (q17.1 (q17.2.2 x0 0) 2) = (1 : Int32) then (if (q17.1 (q17.2.2 x0 0) 4) = (59 : Int32) then ((f_X6_tell q17 x0 (P.1 (P.2.2 x0 0) 4) x1).bind fun q20 => some (true, q20)) else some (false, q17)) else some (false, q17)))) x0 x1 (P.1 (P.2.2 x0 0) 4) q13 1000 P (0 : Int32)))) else some (false, P))
theorem w_X6_readItem {x : Fx} {E : Ev} (S : ZS x E r_X6_readItem cX6_readItem 5 RX6 (some .boolean)) (M : ZM x E) (P : PH) (x0 : Nat) (x1 : Nat) (h_x0 : ok x0 4 0) (h_x1 : ok x1 1 0) (r : (Bool × PH)) (hf : f_X6_readItem P x0 x1 = some r) : Wz x E 5 (QI E x (b2i r.1) r.2) P 0 [(0, .ref (ad E x0)), (1, .ref (ad E x1))] [] := by
  unfold f_X6_readItem at hf
  refine z_aload_n S 0 dX6_readItem_0 rfl rfl ?_
  refine z_getR (K' := 6) (n' := 0) S cf_4 h_x0 0 (by decide) rfl rfl rfl wd91 dX6_readItem_1 (fun h9 => ?_)
  refine z_getI S cf_6 h9 2 (by decide) rfl wd70 dX6_readItem_4 ?_
  refine z_iconst (v := 1) S dX6_readItem_7 (by decide) ?_
  refine z_icmp_ne (tgt := 25) S dX6_readItem_8 (by decide) hf (fun hf => ?_) (fun hf => ?_)
  · refine z_aload_n S 0 dX6_readItem_11 rfl rfl ?_
    refine z_getR (K' := 6) (n' := 0) S cf_4 h_x0 0 (by decide) rfl rfl rfl wd91 dX6_readItem_12 (fun h10 => ?_)
    refine z_getI S cf_6 h10 4 (by decide) rfl wd74 dX6_readItem_15 ?_
    refine z_aload_n S 1 dX6_readItem_18 rfl rfl ?_
    refine z_callSI (rc := r_X6_hasPlaceFor) [.int (P.1 (P.2.2 x0 0) 4), .ref (ad E x1)] S mo_X6_hasPlaceFor wd321 wd320 rfl rfl (by decide) (z_room0 S M (by rfl) (by rfl)) rfl (Nat.le_of_ble_eq_true rfl) rfl dX6_readItem_19 (fun q => b2i q) (fun _ => P) (fun q hq => m_X6_hasPlaceFor (xl x) E _ _ _ h_x1 q hq) hf (fun q11 hf => ?_)
    refine z_if_ne (tgt := 27) S dX6_readItem_22 (by decide) hf (fun hf => ?_) (fun hf => ?_)
    · refine z_iconst (v := 0) S dX6_readItem_25 (by decide) ?_
      exact z_zretI (v := false) S M rfl dX6_readItem_26 hf
    · refine z_aload_n S 0 dX6_readItem_27 rfl rfl ?_
      refine z_getR (K' := 6) (n' := 0) S cf_4 h_x0 0 (by decide) rfl rfl rfl wd91 dX6_readItem_28 (fun h12 => ?_)
      refine z_getI S cf_6 h12 4 (by decide) rfl wd74 dX6_readItem_31 ?_
      refine z_istore_n (lv' := [(2, .int (P.1 (P.2.2 x0 0) 4)), (0, .ref (ad E x0)), (1, .ref (ad E x1))]) S dX6_readItem_34 rfl (by decide) rfl ?_
      refine z_iload_n S 0 dX6_readItem_35 rfl rfl ?_
      refine z_callSI (rc := r_X6_howManyNumbers) [.int (P.1 (P.2.2 x0 0) 4)] S mo_X6_howManyNumbers wd324 wd323 rfl rfl (by decide) (z_room0 S M (by rfl) (by rfl)) rfl (Nat.le_of_ble_eq_true rfl) rfl dX6_readItem_36 (fun q => q) (fun _ => P) (fun q hq => m_X6_howManyNumbers (xl x) E _ _  q hq) hf (fun q13 hf => ?_)
      refine z_istore_n (lv' := [(3, .int q13), (2, .int (P.1 (P.2.2 x0 0) 4)), (0, .ref (ad E x0)), (1, .ref (ad E x1))]) S dX6_readItem_39 rfl (by decide) rfl ?_
      refine z_iconst (v := 0) S dX6_readItem_40 (by decide) ?_
      refine z_istore (lv' := [(4, .int (0 : Int32)), (3, .int q13), (2, .int (P.1 (P.2.2 x0 0) 4)), (0, .ref (ad E x0)), (1, .ref (ad E x1))]) S dX6_readItem_41 (by decide) rfl ?_
      refine z_sub [3, 4, 2, 1, 0] rfl ?_
      refine w_X6_readItem_L43 S M x0 x1 (P.1 (P.2.2 x0 0) 4) q13 h_x0 h_x1 r (fun P14 hf => ?_) (fun P15 hf => ?_) 1000 P (0 : Int32) hf
      · refine z_iconst (v := 0) S dX6_readItem_85 (by decide) ?_
        exact z_zretI (v := false) S M rfl dX6_readItem_86 hf
      · refine z_aload_n S 0 dX6_readItem_107 rfl rfl ?_
        refine z_getR (K' := 6) (n' := 0) S cf_4 h_x0 0 (by decide) rfl rfl rfl wd91 dX6_readItem_108 (fun h16 => ?_)
        refine z_callVV (rc := r_X8_next) [] S mo_X8_next wd305 wd306 wd304 h16 (by decide) cl_6 rfl rfl (by decide) (z_room0 S M (by rfl) (by rfl)) rfl (Nat.le_of_ble_eq_true rfl) rfl dX6_readItem_111  (fun q => q) (fun q hq => m_X8_next (xl x) E _ _ h16 q hq) hf (fun q17 hf => ?_)
        refine z_aload_n S 0 dX6_readItem_114 rfl rfl ?_
        refine z_getR (K' := 6) (n' := 0) S cf_4 h_x0 0 (by decide) rfl rfl rfl wd91 dX6_readItem_115 (fun h18 => ?_)
        refine z_getI S cf_6 h18 2 (by decide) rfl wd70 dX6_readItem_118 ?_
        refine z_iconst (v := 1) S dX6_readItem_121 (by decide) ?_
        refine z_icmp_ne (tgt := 137) S dX6_readItem_122 (by decide) hf (fun hf => ?_) (fun hf => ?_)
        · refine z_aload_n S 0 dX6_readItem_125 rfl rfl ?_
          refine z_getR (K' := 6) (n' := 0) S cf_4 h_x0 0 (by decide) rfl rfl rfl wd91 dX6_readItem_126 (fun h19 => ?_)
          refine z_getI S cf_6 h19 4 (by decide) rfl wd74 dX6_readItem_129 ?_
          refine z_bipush (v := 59) S dX6_readItem_132 (by decide) ?_
          refine z_icmp_eq (tgt := 139) S dX6_readItem_134 (by decide) hf (fun hf => ?_) (fun hf => ?_)
          · refine z_aload_n S 0 dX6_readItem_139 rfl rfl ?_
            refine z_iload_n S 2 dX6_readItem_140 rfl rfl ?_
            refine z_aload_n S 1 dX6_readItem_141 rfl rfl ?_
            refine z_callVV (rc := r_X6_tell) [.int (P.1 (P.2.2 x0 0) 4), .ref (ad E x1)] S mo_X6_tell wd343 wd4 wd341 h_x0 (by decide) cl_4 rfl rfl (by decide) (z_room0 S M (by rfl) (by rfl)) rfl (Nat.le_of_ble_eq_true rfl) rfl dX6_readItem_142  (fun q => q) (fun q hq => m_X6_tell (xl x) E _ _ _ _ h_x0 h_x1 q hq) hf (fun q20 hf => ?_)
            refine z_iconst (v := 1) S dX6_readItem_145 (by decide) ?_
            exact z_zretI (v := true) S M rfl dX6_readItem_146 hf
          · refine z_iconst (v := 0) S dX6_readItem_137 (by decide) ?_
            exact z_zretI (v := false) S M rfl dX6_readItem_138 hf
        · refine z_iconst (v := 0) S dX6_readItem_137 (by decide) ?_
          exact z_zretI (v := false) S M rfl dX6_readItem_138 hf
  · refine z_iconst (v := 0) S dX6_readItem_25 (by decide) ?_
    exact z_zretI (v := false) S M rfl dX6_readItem_26 hf
theorem m_X6_readItem (l : Launch) (E : Ev) (P : PH) (x0 : Nat) (x1 : Nat) (h_x0 : ok x0 4 0) (h_x1 : ok x1 1 0) (r : (Bool × PH)) (hf : f_X6_readItem P x0 x1 = some r) : CtI l E yX6_readItem cX6_readItem 5 (some .boolean) r_X6_readItem [.ref (ad E x0), .ref (ad E x1)] P (b2i r.1) r.2 :=
  z_body (own := RX6) (by decide +kernel) rfl (Nat.le_of_ble_eq_true rfl) rfl (fun x _ S M => w_X6_readItem S M P x0 x1 h_x0 h_x1 r hf)
-- yX6_readInto
theorem dX6_readInto_0 : decode cX6_readInto 0 = .ok (.aload_n 1, 1) := by decide +kernel
theorem dX6_readInto_1 : decode cX6_readInto 1 = .ok (.invokevirtual 22, 3) := by decide +kernel
theorem dX6_readInto_4 : decode cX6_readInto 4 = .ok (.aload_n 0, 1) := by decide +kernel
theorem dX6_readInto_5 : decode cX6_readInto 5 = .ok (.getfield 12, 3) := by decide +kernel
theorem dX6_readInto_8 : decode cX6_readInto 8 = .ok (.invokevirtual 27, 3) := by decide +kernel
theorem dX6_readInto_11 : decode cX6_readInto 11 = .ok (.iconst 0, 1) := by decide +kernel
theorem dX6_readInto_12 : decode cX6_readInto 12 = .ok (.istore_n 2, 1) := by decide +kernel
theorem dX6_readInto_13 : decode cX6_readInto 13 = .ok (.iload_n 2, 1) := by decide +kernel
theorem dX6_readInto_14 : decode cX6_readInto 14 = .ok (.sipush 200, 3) := by decide +kernel
theorem dX6_readInto_17 : decode cX6_readInto 17 = .ok (.if_icmp .gt 39, 3) := by decide +kernel
theorem dX6_readInto_20 : decode cX6_readInto 20 = .ok (.aload_n 0, 1) := by decide +kernel
theorem dX6_readInto_21 : decode cX6_readInto 21 = .ok (.getfield 12, 3) := by decide +kernel
theorem dX6_readInto_24 : decode cX6_readInto 24 = .ok (.invokevirtual 30, 3) := by decide +kernel
theorem dX6_readInto_27 : decode cX6_readInto 27 = .ok (.aload_n 0, 1) := by decide +kernel
theorem dX6_readInto_28 : decode cX6_readInto 28 = .ok (.getfield 12, 3) := by decide +kernel
theorem dX6_readInto_31 : decode cX6_readInto 31 = .ok (.getfield 33, 3) := by decide +kernel
theorem dX6_readInto_34 : decode cX6_readInto 34 = .ok (.ifCond .ne 5, 3) := by decide +kernel
theorem dX6_readInto_37 : decode cX6_readInto 37 = .ok (.iload_n 2, 1) := by decide +kernel
theorem dX6_readInto_38 : decode cX6_readInto 38 = .ok (.ireturn, 1) := by decide +kernel
theorem dX6_readInto_39 : decode cX6_readInto 39 = .ok (.aload_n 0, 1) := by decide +kernel
theorem dX6_readInto_40 : decode cX6_readInto 40 = .ok (.aload_n 1, 1) := by decide +kernel
theorem dX6_readInto_41 : decode cX6_readInto 41 = .ok (.invokevirtual 37, 3) := by decide +kernel
theorem dX6_readInto_44 : decode cX6_readInto 44 = .ok (.ifCond .ne 6, 3) := by decide +kernel
theorem dX6_readInto_47 : decode cX6_readInto 47 = .ok (.goto 9, 3) := by decide +kernel
theorem dX6_readInto_50 : decode cX6_readInto 50 = .ok (.iinc 2 1, 3) := by decide +kernel
theorem dX6_readInto_53 : decode cX6_readInto 53 = .ok (.goto (-40), 3) := by decide +kernel
theorem dX6_readInto_56 : decode cX6_readInto 56 = .ok (.bipush (-10), 2) := by decide +kernel
theorem dX6_readInto_58 : decode cX6_readInto 58 = .ok (.aload_n 0, 1) := by decide +kernel
theorem dX6_readInto_59 : decode cX6_readInto 59 = .ok (.getfield 12, 3) := by decide +kernel
theorem dX6_readInto_62 : decode cX6_readInto 62 = .ok (.getfield 41, 3) := by decide +kernel
theorem dX6_readInto_65 : decode cX6_readInto 65 = .ok (.isub, 1) := by decide +kernel
theorem dX6_readInto_66 : decode cX6_readInto 66 = .ok (.ireturn, 1) := by decide +kernel
def r_X6_readInto : Room := { frames := 4, cells := 0, slots := 0, locals := 86 }
def f_X6_readInto_L13 (K0 : PH → Int32 → Option (Int32 × PH)) (K1 : PH → Option (Int32 × PH)) (K2 : PH → Option (Int32 × PH)) (x0 : Nat) (x1 : Nat) : Nat → PH → Int32 → Option (Int32 × PH)
  | 0, _, _ => none
  | n + 1, P, x2 =>
    (if (200 : Int32) < x2 then K2 P else ((f_X8_next P (P.2.2 x0 0)).bind fun q2 => (if (q2.1 (q2.2.2 x0 0) 2) = 0 then K0 q2 x2 else ((f_X6_readItem q2 x0 x1).bind fun q4 => (if (b2i q4.1) = 0 then K1 q4.2 else f_X6_readInto_L13 K0 K1 K2 x0 x1 n q4.2 (x2 + (1 : Int32)))))))
theorem w_X6_readInto_L13 {x : Fx} {E : Ev} (S : ZS x E r_X6_readInto cX6_readInto 3 RX6 (some .int)) (M : ZM x E) {K0 : PH → Int32 → Option (Int32 × PH)} {K1 : PH → Option (Int32 × PH)} {K2 : PH → Option (Int32 × PH)} (x0 : Nat) (x1 : Nat) (h_x0 : ok x0 4 0) (h_x1 : ok x1 1 0) (r : (Int32 × PH)) (hK0 : ∀ (P1 : PH) (y2 : Int32), K0 P1 y2 = some r → Wz x E 3 (QI E x r.1 r.2) P1 37 [(2, .int y2)] []) (hK1 : ∀ (P1 : PH) , K1 P1 = some r → Wz x E 3 (QI E x r.1 r.2) P1 47 [(0, .ref (ad E x0))] []) (hK2 : ∀ (P1 : PH) , K2 P1 = some r → Wz x E 3 (QI E x r.1 r.2) P1 56 [(0, .ref (ad E x0))] []) : ∀ (n : Nat) (P : PH) (x2 : Int32), f_X6_readInto_L13 K0 K1 K2 x0 x1 n P x2 = some r → Wz x E 3 (QI E x r.1 r.2) P 13 [(0, .ref (ad E x0)), (1, .ref (ad E x1)), (2, .int x2)] [] := by
  intro n
  induction n with
  | zero => intro P x2 hf; cases hf
  | succ n ih =>
    intro P x2 hf
    unfold f_X6_readInto_L13 at hf
    refine z_iload_n S 2 dX6_readInto_13 rfl rfl ?_
    refine z_sipush (v := 200) S dX6_readInto_14 (by decide) ?_
    refine z_icmp_gt (tgt := 56) S dX6_readInto_17 (by decide) hf (fun hf => ?_) (fun hf => ?_)
    · refine z_sub [0] rfl ?_
      exact hK2 P hf
    · refine z_aload_n S 0 dX6_readInto_20 rfl rfl ?_
      refine z_getR (K' := 6) (n' := 0) S cf_4 h_x0 0 (by decide) rfl rfl rfl wd91 dX6_readInto_21 (fun h1 => ?_)
      refine z_callVV (rc := r_X8_next) [] S mo_X8_next wd305 wd306 wd304 h1 (by decide) cl_6 rfl rfl (by decide) (z_room0 S M (by rfl) (by rfl)) rfl (Nat.le_of_ble_eq_true rfl) rfl dX6_readInto_24  (fun q => q) (fun q hq => m_X8_next (xl x) E _ _ h1 q hq) hf (fun q2 hf => ?_)
      refine z_aload_n S 0 dX6_readInto_27 rfl rfl ?_
      refine z_getR (K' := 6) (n' := 0) S cf_4 h_x0 0 (by decide) rfl rfl rfl wd91 dX6_readInto_28 (fun h3 => ?_)
      refine z_getI S cf_6 h3 2 (by decide) rfl wd70 dX6_readInto_31 ?_
      refine z_if_ne (tgt := 39) S dX6_readInto_34 (by decide) hf (fun hf => ?_) (fun hf => ?_)
      · refine z_sub [2] rfl ?_
        exact hK0 q2 x2 hf
      · refine z_aload_n S 0 dX6_readInto_39 rfl rfl ?_
        refine z_aload_n S 1 dX6_readInto_40 rfl rfl ?_
        refine z_callVI (rc := r_X6_readItem) [.ref (ad E x1)] S mo_X6_readItem wd318 wd2 wd316 h_x0 (by decide) cl_4 rfl rfl (by decide) (z_room0 S M (by rfl) (by rfl)) rfl (Nat.le_of_ble_eq_true rfl) rfl dX6_readInto_41 (fun q => b2i q.1) (fun q => q.2) (fun q hq => m_X6_readItem (xl x) E _ _ _ h_x0 h_x1 q hq) hf (fun q4 hf => ?_)
        refine z_if_ne (tgt := 50) S dX6_readInto_44 (by decide) hf (fun hf => ?_) (fun hf => ?_)
        · refine z_sub [0] rfl ?_
          exact hK1 q4.2 hf
        · refine z_iinc (v := (x2 + (1 : Int32))) (lv' := [(2, .int (x2 + (1 : Int32))), (0, .ref (ad E x0)), (1, .ref (ad E x1))]) S 2 dX6_readInto_50 rfl (by rfl) (by decide) rfl ?_
          refine z_goto (tgt := 13) S dX6_readInto_53 (by decide) ?_
          refine z_sub [1, 2, 0] rfl ?_
          exact ih q4.2 (x2 + (1 : Int32)) hf
def f_X6_readInto (P : PH) (x0 : Nat) (x1 : Nat) : Option (Int32 × PH) :=
  ((f_X2_empty P x1).bind fun q5 => ((f_X8_rewind q5 (q5.2.2 x0 0)).bind fun q7 => f_X6_readInto_L13 (fun P9 v8 => some (v8, P9)) (fun P10 => some (((-10 : Int32) - (P10.1 (P10.2.2 x0 0) 3)), P10)) (fun P12 => some (((-10 : Int32) - (P12.1 (P12.2.2 x0 0) 3)), P12)) x0 x1 1000 q7 (0 : Int32)))
theorem w_X6_readInto {x : Fx} {E : Ev} (S : ZS x E r_X6_readInto cX6_readInto 3 RX6 (some .int)) (M : ZM x E) (P : PH) (x0 : Nat) (x1 : Nat) (h_x0 : ok x0 4 0) (h_x1 : ok x1 1 0) (r : (Int32 × PH)) (hf : f_X6_readInto P x0 x1 = some r) : Wz x E 3 (QI E x r.1 r.2) P 0 [(0, .ref (ad E x0)), (1, .ref (ad E x1))] [] := by
  unfold f_X6_readInto at hf
  refine z_aload_n S 1 dX6_readInto_0 rfl rfl ?_
  refine z_callVV (rc := r_X2_empty) [] S mo_X2_empty wd297 wd298 wd296 h_x1 (by decide) cl_1 rfl rfl (by decide) (z_room0 S M (by rfl) (by rfl)) rfl (Nat.le_of_ble_eq_true rfl) rfl dX6_readInto_1  (fun q => q) (fun q hq => m_X2_empty (xl x) E _ _ h_x1 q hq) hf (fun q5 hf => ?_)
  refine z_aload_n S 0 dX6_readInto_4 rfl rfl ?_
  refine z_getR (K' := 6) (n' := 0) S cf_4 h_x0 0 (by decide) rfl rfl rfl wd91 dX6_readInto_5 (fun h6 => ?_)
  refine z_callVV (rc := r_X8_rewind) [] S mo_X8_rewind wd301 wd302 wd300 h6 (by decide) cl_6 rfl rfl (by decide) (z_room0 S M (by rfl) (by rfl)) rfl (Nat.le_of_ble_eq_true rfl) rfl dX6_readInto_8  (fun q => q) (fun q hq => m_X8_rewind (xl x) E _ _ h6 q hq) hf (fun q7 hf => ?_)
  refine z_iconst (v := 0) S dX6_readInto_11 (by decide) ?_
  refine z_istore_n (lv' := [(2, .int (0 : Int32)), (0, .ref (ad E x0)), (1, .ref (ad E x1))]) S dX6_readInto_12 rfl (by decide) rfl ?_
  refine z_sub [1, 2, 0] rfl ?_
  refine w_X6_readInto_L13 S M x0 x1 h_x0 h_x1 r (fun P9 v8 hf => ?_) (fun P10 hf => ?_) (fun P12 hf => ?_) 1000 q7 (0 : Int32) hf
  · refine z_iload_n S 0 dX6_readInto_37 rfl rfl ?_
    exact z_iretI (v := v8) S M rfl dX6_readInto_38 hf
  · refine z_goto (tgt := 56) S dX6_readInto_47 (by decide) ?_
    refine z_bipush (v := (-10 : Int32)) S dX6_readInto_56 (by decide) ?_
    refine z_aload_n S 0 dX6_readInto_58 rfl rfl ?_
    refine z_getR (K' := 6) (n' := 0) S cf_4 h_x0 0 (by decide) rfl rfl rfl wd91 dX6_readInto_59 (fun h11 => ?_)
    refine z_getI S cf_6 h11 3 (by decide) rfl wd72 dX6_readInto_62 ?_
    refine z_isub S dX6_readInto_65 ?_
    exact z_iretI (v := ((-10 : Int32) - (P10.1 (P10.2.2 x0 0) 3))) S M rfl dX6_readInto_66 hf
  · refine z_bipush (v := (-10 : Int32)) S dX6_readInto_56 (by decide) ?_
    refine z_aload_n S 0 dX6_readInto_58 rfl rfl ?_
    refine z_getR (K' := 6) (n' := 0) S cf_4 h_x0 0 (by decide) rfl rfl rfl wd91 dX6_readInto_59 (fun h13 => ?_)
    refine z_getI S cf_6 h13 3 (by decide) rfl wd72 dX6_readInto_62 ?_
    refine z_isub S dX6_readInto_65 ?_
    exact z_iretI (v := ((-10 : Int32) - (P12.1 (P12.2.2 x0 0) 3))) S M rfl dX6_readInto_66 hf
theorem m_X6_readInto (l : Launch) (E : Ev) (P : PH) (x0 : Nat) (x1 : Nat) (h_x0 : ok x0 4 0) (h_x1 : ok x1 1 0) (r : (Int32 × PH)) (hf : f_X6_readInto P x0 x1 = some r) : CtI l E yX6_readInto cX6_readInto 3 (some .int) r_X6_readInto [.ref (ad E x0), .ref (ad E x1)] P r.1 r.2 :=
  z_body (own := RX6) (by decide +kernel) rfl (Nat.le_of_ble_eq_true rfl) rfl (fun x _ S M => w_X6_readInto S M P x0 x1 h_x0 h_x1 r hf)
-- yX7_add
theorem dX7_add_0 : decode cX7_add 0 = .ok (.aload_n 0, 1) := by decide +kernel
theorem dX7_add_1 : decode cX7_add 1 = .ok (.getfield 21, 3) := by decide +kernel
theorem dX7_add_4 : decode cX7_add 4 = .ok (.iconst 5, 1) := by decide +kernel
theorem dX7_add_5 : decode cX7_add 5 = .ok (.if_icmp .lt 5, 3) := by decide +kernel
theorem dX7_add_8 : decode cX7_add 8 = .ok (.iconst 0, 1) := by decide +kernel
theorem dX7_add_9 : decode cX7_add 9 = .ok (.ireturn, 1) := by decide +kernel
theorem dX7_add_10 : decode cX7_add 10 = .ok (.aload_n 0, 1) := by decide +kernel
theorem dX7_add_11 : decode cX7_add 11 = .ok (.getfield 9, 3) := by decide +kernel
theorem dX7_add_14 : decode cX7_add 14 = .ok (.aload_n 0, 1) := by decide +kernel
theorem dX7_add_15 : decode cX7_add 15 = .ok (.getfield 21, 3) := by decide +kernel
theorem dX7_add_18 : decode cX7_add 18 = .ok (.iload_n 1, 1) := by decide +kernel
theorem dX7_add_19 : decode cX7_add 19 = .ok (.iastore, 1) := by decide +kernel
theorem dX7_add_20 : decode cX7_add 20 = .ok (.aload_n 0, 1) := by decide +kernel
theorem dX7_add_21 : decode cX7_add 21 = .ok (.getfield 15, 3) := by decide +kernel
theorem dX7_add_24 : decode cX7_add 24 = .ok (.aload_n 0, 1) := by decide +kernel
theorem dX7_add_25 : decode cX7_add 25 = .ok (.getfield 21, 3) := by decide +kernel
theorem dX7_add_28 : decode cX7_add 28 = .ok (.iload_n 2, 1) := by decide +kernel
theorem dX7_add_29 : decode cX7_add 29 = .ok (.iastore, 1) := by decide +kernel
theorem dX7_add_30 : decode cX7_add 30 = .ok (.aload_n 0, 1) := by decide +kernel
theorem dX7_add_31 : decode cX7_add 31 = .ok (.getfield 18, 3) := by decide +kernel
theorem dX7_add_34 : decode cX7_add 34 = .ok (.aload_n 0, 1) := by decide +kernel
theorem dX7_add_35 : decode cX7_add 35 = .ok (.getfield 21, 3) := by decide +kernel
theorem dX7_add_38 : decode cX7_add 38 = .ok (.iload_n 3, 1) := by decide +kernel
theorem dX7_add_39 : decode cX7_add 39 = .ok (.iastore, 1) := by decide +kernel
theorem dX7_add_40 : decode cX7_add 40 = .ok (.aload_n 0, 1) := by decide +kernel
theorem dX7_add_41 : decode cX7_add 41 = .ok (.dup, 1) := by decide +kernel
theorem dX7_add_42 : decode cX7_add 42 = .ok (.getfield 21, 3) := by decide +kernel
theorem dX7_add_45 : decode cX7_add 45 = .ok (.iconst 1, 1) := by decide +kernel
theorem dX7_add_46 : decode cX7_add 46 = .ok (.iadd, 1) := by decide +kernel
theorem dX7_add_47 : decode cX7_add 47 = .ok (.putfield 21, 3) := by decide +kernel
theorem dX7_add_50 : decode cX7_add 50 = .ok (.iconst 1, 1) := by decide +kernel
theorem dX7_add_51 : decode cX7_add 51 = .ok (.ireturn, 1) := by decide +kernel
def r_X7_add : Room := { frames := 0, cells := 0, slots := 0, locals := 0 }
def f_X7_add (P : PH) (x0 : Nat) (x1 : Int32) (x2 : Int32) (x3 : Int32) : Option (Bool × PH) :=
  (if (P.1 x0 0) < (5 : Int32) then (if ((P.1 x0 0) < 0 ∨ 5 ≤ (P.1 x0 0).toNatClampNeg) then none else ((some (sI P (P.2.2 x0 1) (P.1 x0 0).toNatClampNeg x1)).bind fun P2 => (if ((P2.1 x0 0) < 0 ∨ 5 ≤ (P2.1 x0 0).toNatClampNeg) then none else ((some (sI P2 (P2.2.2 x0 2) (P2.1 x0 0).toNatClampNeg x2)).bind fun P4 => (if ((P4.1 x0 0) < 0 ∨ 5 ≤ (P4.1 x0 0).toNatClampNeg) then none else ((some (sI P4 (P4.2.2 x0 3) (P4.1 x0 0).toNatClampNeg x3)).bind fun P6 => some (true, (sI P6 x0 0 ((P6.1 x0 0) + (1 : Int32)))))))))) else some (false, P))
theorem w_X7_add {x : Fx} {E : Ev} (S : ZS x E r_X7_add cX7_add 4 RX7 (some .boolean)) (M : ZM x E) (P : PH) (x0 : Nat) (x1 : Int32) (x2 : Int32) (x3 : Int32) (h_x0 : ok x0 5 0) (r : (Bool × PH)) (hf : f_X7_add P x0 x1 x2 x3 = some r) : Wz x E 4 (QI E x (b2i r.1) r.2) P 0 [(0, .ref (ad E x0)), (1, .int x1), (2, .int x2), (3, .int x3)] [] := by
  unfold f_X7_add at hf
  refine z_aload_n S 0 dX7_add_0 rfl rfl ?_
  refine z_getI S cf_5 h_x0 0 (by decide) rfl wd125 dX7_add_1 ?_
  refine z_iconst (v := 5) S dX7_add_4 (by decide) ?_
  refine z_icmp_lt (tgt := 10) S dX7_add_5 (by decide) hf (fun hf => ?_) (fun hf => ?_)
  · refine z_aload_n S 0 dX7_add_10 rfl rfl ?_
    refine z_getR (K' := 9) (n' := 5) S cf_5 h_x0 1 (by decide) rfl rfl rfl wd127 dX7_add_11 (fun h1 => ?_)
    refine z_aload_n S 0 dX7_add_14 rfl rfl ?_
    refine z_getI S cf_5 h_x0 0 (by decide) rfl wd125 dX7_add_15 ?_
    refine z_iload_n S 1 dX7_add_18 rfl rfl ?_
    refine z_iast S h1 dX7_add_19 hf (fun hf => ?_)
    refine z_nmP hf (fun P2 hf => ?_)
    refine z_aload_n S 0 dX7_add_20 rfl rfl ?_
    refine z_getR (K' := 9) (n' := 5) S cf_5 h_x0 2 (by decide) rfl rfl rfl wd128 dX7_add_21 (fun h3 => ?_)
    refine z_aload_n S 0 dX7_add_24 rfl rfl ?_
    refine z_getI S cf_5 h_x0 0 (by decide) rfl wd125 dX7_add_25 ?_
    refine z_iload_n S 2 dX7_add_28 rfl rfl ?_
    refine z_iast S h3 dX7_add_29 hf (fun hf => ?_)
    refine z_nmP hf (fun P4 hf => ?_)
    refine z_aload_n S 0 dX7_add_30 rfl rfl ?_
    refine z_getR (K' := 9) (n' := 5) S cf_5 h_x0 3 (by decide) rfl rfl rfl wd129 dX7_add_31 (fun h5 => ?_)
    refine z_aload_n S 0 dX7_add_34 rfl rfl ?_
    refine z_getI S cf_5 h_x0 0 (by decide) rfl wd125 dX7_add_35 ?_
    refine z_iload_n S 3 dX7_add_38 rfl rfl ?_
    refine z_iast S h5 dX7_add_39 hf (fun hf => ?_)
    refine z_nmP hf (fun P6 hf => ?_)
    refine z_aload_n S 0 dX7_add_40 rfl rfl ?_
    refine z_dup S dX7_add_41 rfl ?_
    refine z_getI S cf_5 h_x0 0 (by decide) rfl wd125 dX7_add_42 ?_
    refine z_iconst (v := 1) S dX7_add_45 (by decide) ?_
    refine z_iadd S dX7_add_46 ?_
    refine z_putI S cf_5 h_x0 0 (by decide) rfl rfl rfl rfl wd125 dX7_add_47 ?_
    refine z_iconst (v := 1) S dX7_add_50 (by decide) ?_
    exact z_zretI (v := true) S M rfl dX7_add_51 hf
  · refine z_iconst (v := 0) S dX7_add_8 (by decide) ?_
    exact z_zretI (v := false) S M rfl dX7_add_9 hf
theorem m_X7_add (l : Launch) (E : Ev) (P : PH) (x0 : Nat) (x1 : Int32) (x2 : Int32) (x3 : Int32) (h_x0 : ok x0 5 0) (r : (Bool × PH)) (hf : f_X7_add P x0 x1 x2 x3 = some r) : CtI l E yX7_add cX7_add 4 (some .boolean) r_X7_add [.ref (ad E x0), .int x1, .int x2, .int x3] P (b2i r.1) r.2 :=
  z_body (own := RX7) (by decide +kernel) rfl (Nat.le_of_ble_eq_true rfl) rfl (fun x _ S M => w_X7_add S M P x0 x1 x2 x3 h_x0 r hf)
-- yX7_isSo
theorem dX7_isSo_0 : decode cX7_isSo 0 = .ok (.iconst 0, 1) := by decide +kernel
theorem dX7_isSo_1 : decode cX7_isSo 1 = .ok (.istore_n 2, 1) := by decide +kernel
theorem dX7_isSo_2 : decode cX7_isSo 2 = .ok (.iload_n 2, 1) := by decide +kernel
theorem dX7_isSo_3 : decode cX7_isSo 3 = .ok (.aload_n 0, 1) := by decide +kernel
theorem dX7_isSo_4 : decode cX7_isSo 4 = .ok (.getfield 21, 3) := by decide +kernel
theorem dX7_isSo_7 : decode cX7_isSo 7 = .ok (.if_icmp .ge 39, 3) := by decide +kernel
theorem dX7_isSo_10 : decode cX7_isSo 10 = .ok (.aload_n 1, 1) := by decide +kernel
theorem dX7_isSo_11 : decode cX7_isSo 11 = .ok (.aload_n 0, 1) := by decide +kernel
theorem dX7_isSo_12 : decode cX7_isSo 12 = .ok (.getfield 9, 3) := by decide +kernel
theorem dX7_isSo_15 : decode cX7_isSo 15 = .ok (.iload_n 2, 1) := by decide +kernel
theorem dX7_isSo_16 : decode cX7_isSo 16 = .ok (.iaload, 1) := by decide +kernel
theorem dX7_isSo_17 : decode cX7_isSo 17 = .ok (.invokevirtual 40, 3) := by decide +kernel
theorem dX7_isSo_20 : decode cX7_isSo 20 = .ok (.aload_n 0, 1) := by decide +kernel
theorem dX7_isSo_21 : decode cX7_isSo 21 = .ok (.getfield 15, 3) := by decide +kernel
theorem dX7_isSo_24 : decode cX7_isSo 24 = .ok (.iload_n 2, 1) := by decide +kernel
theorem dX7_isSo_25 : decode cX7_isSo 25 = .ok (.iaload, 1) := by decide +kernel
theorem dX7_isSo_26 : decode cX7_isSo 26 = .ok (.ishr, 1) := by decide +kernel
theorem dX7_isSo_27 : decode cX7_isSo 27 = .ok (.iconst 1, 1) := by decide +kernel
theorem dX7_isSo_28 : decode cX7_isSo 28 = .ok (.iand, 1) := by decide +kernel
theorem dX7_isSo_29 : decode cX7_isSo 29 = .ok (.aload_n 0, 1) := by decide +kernel
theorem dX7_isSo_30 : decode cX7_isSo 30 = .ok (.getfield 18, 3) := by decide +kernel
theorem dX7_isSo_33 : decode cX7_isSo 33 = .ok (.iload_n 2, 1) := by decide +kernel
theorem dX7_isSo_34 : decode cX7_isSo 34 = .ok (.iaload, 1) := by decide +kernel
theorem dX7_isSo_35 : decode cX7_isSo 35 = .ok (.if_icmp .eq 5, 3) := by decide +kernel
theorem dX7_isSo_38 : decode cX7_isSo 38 = .ok (.iconst 0, 1) := by decide +kernel
theorem dX7_isSo_39 : decode cX7_isSo 39 = .ok (.ireturn, 1) := by decide +kernel
theorem dX7_isSo_40 : decode cX7_isSo 40 = .ok (.iinc 2 1, 3) := by decide +kernel
theorem dX7_isSo_43 : decode cX7_isSo 43 = .ok (.goto (-41), 3) := by decide +kernel
theorem dX7_isSo_46 : decode cX7_isSo 46 = .ok (.iconst 1, 1) := by decide +kernel
theorem dX7_isSo_47 : decode cX7_isSo 47 = .ok (.ireturn, 1) := by decide +kernel
def r_X7_isSo : Room := { frames := 4, cells := 0, slots := 0, locals := 94 }
def f_X7_isSo_L2 (K0 : Option Bool) (K1 : Option Bool) (P : PH) (x0 : Nat) (x1 : Nat) : Nat → Int32 → Option Bool
  | 0, _ => none
  | n + 1, x2 =>
    (if (P.1 x0 0) ≤ x2 then K1 else (if (x2 < 0 ∨ 5 ≤ x2.toNatClampNeg) then none else ((f_X2_mayNow P x1 (P.1 (P.2.2 x0 1) x2.toNatClampNeg)).bind fun q2 => (if (x2 < 0 ∨ 5 ≤ x2.toNatClampNeg) then none else (if (x2 < 0 ∨ 5 ≤ x2.toNatClampNeg) then none else (if ((q2 >>> ((P.1 (P.2.2 x0 2) x2.toNatClampNeg) &&& 31)) &&& (1 : Int32)) = (P.1 (P.2.2 x0 3) x2.toNatClampNeg) then f_X7_isSo_L2 K0 K1 P x0 x1 n (x2 + (1 : Int32)) else K0))))))
theorem w_X7_isSo_L2 {x : Fx} {E : Ev} (S : ZS x E r_X7_isSo cX7_isSo 3 RX7 (some .boolean)) (M : ZM x E) {K0 : Option Bool} {K1 : Option Bool} (P : PH) (x0 : Nat) (x1 : Nat) (h_x0 : ok x0 5 0) (h_x1 : ok x1 1 0) (r : Bool) (hK0 : K0  = some r → Wz x E 3 (QI E x (b2i r) P) P 38 [] []) (hK1 : K1  = some r → Wz x E 3 (QI E x (b2i r) P) P 46 [] []) : ∀ (n : Nat) (x2 : Int32), f_X7_isSo_L2 K0 K1 P x0 x1 n x2 = some r → Wz x E 3 (QI E x (b2i r) P) P 2 [(0, .ref (ad E x0)), (1, .ref (ad E x1)), (2, .int x2)] [] := by
  intro n
  induction n with
  | zero => intro x2 hf; cases hf
  | succ n ih =>
    intro x2 hf
    unfold f_X7_isSo_L2 at hf
    refine z_iload_n S 2 dX7_isSo_2 rfl rfl ?_
    refine z_aload_n S 0 dX7_isSo_3 rfl rfl ?_
    refine z_getI S cf_5 h_x0 0 (by decide) rfl wd125 dX7_isSo_4 ?_
    refine z_icmp_ge (tgt := 46) S dX7_isSo_7 (by decide) hf (fun hf => ?_) (fun hf => ?_)
    · refine z_sub [] rfl ?_
      exact hK1  hf
    · refine z_aload_n S 1 dX7_isSo_10 rfl rfl ?_
      refine z_aload_n S 0 dX7_isSo_11 rfl rfl ?_
      refine z_getR (K' := 9) (n' := 5) S cf_5 h_x0 1 (by decide) rfl rfl rfl wd127 dX7_isSo_12 (fun h1 => ?_)
      refine z_iload_n S 2 dX7_isSo_15 rfl rfl ?_
      refine z_iald S h1 dX7_isSo_16 hf (fun hf => ?_)
      refine z_callVI (rc := r_X2_mayNow) [.int (P.1 (P.2.2 x0 1) x2.toNatClampNeg)] S mo_X2_mayNow wd372 wd373 wd565 h_x1 (by decide) cl_1 rfl rfl (by decide) (z_room0 S M (by rfl) (by rfl)) rfl (Nat.le_of_ble_eq_true rfl) rfl dX7_isSo_17 (fun q => q) (fun _ => P) (fun q hq => m_X2_mayNow (xl x) E _ _ _ h_x1 q hq) hf (fun q2 hf => ?_)
      refine z_aload_n S 0 dX7_isSo_20 rfl rfl ?_
      refine z_getR (K' := 9) (n' := 5) S cf_5 h_x0 2 (by decide) rfl rfl rfl wd128 dX7_isSo_21 (fun h3 => ?_)
      refine z_iload_n S 2 dX7_isSo_24 rfl rfl ?_
      refine z_iald S h3 dX7_isSo_25 hf (fun hf => ?_)
      refine z_ishr S dX7_isSo_26 ?_
      refine z_iconst (v := 1) S dX7_isSo_27 (by decide) ?_
      refine z_iand S dX7_isSo_28 ?_
      refine z_aload_n S 0 dX7_isSo_29 rfl rfl ?_
      refine z_getR (K' := 9) (n' := 5) S cf_5 h_x0 3 (by decide) rfl rfl rfl wd129 dX7_isSo_30 (fun h4 => ?_)
      refine z_iload_n S 2 dX7_isSo_33 rfl rfl ?_
      refine z_iald S h4 dX7_isSo_34 hf (fun hf => ?_)
      refine z_icmp_eq (tgt := 40) S dX7_isSo_35 (by decide) hf (fun hf => ?_) (fun hf => ?_)
      · refine z_iinc (v := (x2 + (1 : Int32))) (lv' := [(2, .int (x2 + (1 : Int32))), (0, .ref (ad E x0)), (1, .ref (ad E x1))]) S 2 dX7_isSo_40 rfl (by rfl) (by decide) rfl ?_
        refine z_goto (tgt := 2) S dX7_isSo_43 (by decide) ?_
        refine z_sub [1, 2, 0] rfl ?_
        exact ih (x2 + (1 : Int32)) hf
      · refine z_sub [] rfl ?_
        exact hK0  hf
def f_X7_isSo (P : PH) (x0 : Nat) (x1 : Nat) : Option Bool :=
  f_X7_isSo_L2 (some false) (some true) P x0 x1 1000 (0 : Int32)
theorem w_X7_isSo {x : Fx} {E : Ev} (S : ZS x E r_X7_isSo cX7_isSo 3 RX7 (some .boolean)) (M : ZM x E) (P : PH) (x0 : Nat) (x1 : Nat) (h_x0 : ok x0 5 0) (h_x1 : ok x1 1 0) (r : Bool) (hf : f_X7_isSo P x0 x1 = some r) : Wz x E 3 (QI E x (b2i r) P) P 0 [(0, .ref (ad E x0)), (1, .ref (ad E x1))] [] := by
  unfold f_X7_isSo at hf
  refine z_iconst (v := 0) S dX7_isSo_0 (by decide) ?_
  refine z_istore_n (lv' := [(2, .int (0 : Int32)), (0, .ref (ad E x0)), (1, .ref (ad E x1))]) S dX7_isSo_1 rfl (by decide) rfl ?_
  refine z_sub [1, 2, 0] rfl ?_
  refine w_X7_isSo_L2 S M _ x0 x1 h_x0 h_x1 r (fun hf => ?_) (fun hf => ?_) 1000 (0 : Int32) hf
  · refine z_iconst (v := 0) S dX7_isSo_38 (by decide) ?_
    exact z_zretP (v := false) S M rfl dX7_isSo_39 hf
  · refine z_iconst (v := 1) S dX7_isSo_46 (by decide) ?_
    exact z_zretP (v := true) S M rfl dX7_isSo_47 hf
theorem m_X7_isSo (l : Launch) (E : Ev) (P : PH) (x0 : Nat) (x1 : Nat) (h_x0 : ok x0 5 0) (h_x1 : ok x1 1 0) (r : Bool) (hf : f_X7_isSo P x0 x1 = some r) : CtI l E yX7_isSo cX7_isSo 3 (some .boolean) r_X7_isSo [.ref (ad E x0), .ref (ad E x1)] P (b2i r) P :=
  z_body (own := RX7) (by decide +kernel) rfl (Nat.le_of_ble_eq_true rfl) rfl (fun x _ S M => w_X7_isSo S M P x0 x1 h_x0 h_x1 r hf)
-- yX7_heirsThatFit
theorem dX7_heirsThatFit_0 : decode cX7_heirsThatFit 0 = .ok (.aload_n 1, 1) := by decide +kernel
theorem dX7_heirsThatFit_1 : decode cX7_heirsThatFit 1 = .ok (.getfield 25, 3) := by decide +kernel
theorem dX7_heirsThatFit_4 : decode cX7_heirsThatFit 4 = .ok (.getfield 31, 3) := by decide +kernel
theorem dX7_heirsThatFit_7 : decode cX7_heirsThatFit 7 = .ok (.iload_n 2, 1) := by decide +kernel
theorem dX7_heirsThatFit_8 : decode cX7_heirsThatFit 8 = .ok (.iaload, 1) := by decide +kernel
theorem dX7_heirsThatFit_9 : decode cX7_heirsThatFit 9 = .ok (.istore_n 3, 1) := by decide +kernel
theorem dX7_heirsThatFit_10 : decode cX7_heirsThatFit 10 = .ok (.iconst 0, 1) := by decide +kernel
theorem dX7_heirsThatFit_11 : decode cX7_heirsThatFit 11 = .ok (.istore 4, 2) := by decide +kernel
theorem dX7_heirsThatFit_13 : decode cX7_heirsThatFit 13 = .ok (.iconst 0, 1) := by decide +kernel
theorem dX7_heirsThatFit_14 : decode cX7_heirsThatFit 14 = .ok (.istore 5, 2) := by decide +kernel
theorem dX7_heirsThatFit_16 : decode cX7_heirsThatFit 16 = .ok (.iload 5, 2) := by decide +kernel
theorem dX7_heirsThatFit_18 : decode cX7_heirsThatFit 18 = .ok (.bipush 6, 2) := by decide +kernel
theorem dX7_heirsThatFit_20 : decode cX7_heirsThatFit 20 = .ok (.if_icmp .ge 37, 3) := by decide +kernel
theorem dX7_heirsThatFit_23 : decode cX7_heirsThatFit 23 = .ok (.aload_n 1, 1) := by decide +kernel
theorem dX7_heirsThatFit_24 : decode cX7_heirsThatFit 24 = .ok (.getfield 25, 3) := by decide +kernel
theorem dX7_heirsThatFit_27 : decode cX7_heirsThatFit 27 = .ok (.getfield 31, 3) := by decide +kernel
theorem dX7_heirsThatFit_30 : decode cX7_heirsThatFit 30 = .ok (.iload_n 2, 1) := by decide +kernel
theorem dX7_heirsThatFit_31 : decode cX7_heirsThatFit 31 = .ok (.iload 5, 2) := by decide +kernel
theorem dX7_heirsThatFit_33 : decode cX7_heirsThatFit 33 = .ok (.iastore, 1) := by decide +kernel
theorem dX7_heirsThatFit_34 : decode cX7_heirsThatFit 34 = .ok (.aload_n 0, 1) := by decide +kernel
theorem dX7_heirsThatFit_35 : decode cX7_heirsThatFit 35 = .ok (.aload_n 1, 1) := by decide +kernel
theorem dX7_heirsThatFit_36 : decode cX7_heirsThatFit 36 = .ok (.invokevirtual 36, 3) := by decide +kernel
theorem dX7_heirsThatFit_39 : decode cX7_heirsThatFit 39 = .ok (.ifCond .eq 12, 3) := by decide +kernel
theorem dX7_heirsThatFit_42 : decode cX7_heirsThatFit 42 = .ok (.iload 4, 2) := by decide +kernel
theorem dX7_heirsThatFit_44 : decode cX7_heirsThatFit 44 = .ok (.iconst 1, 1) := by decide +kernel
theorem dX7_heirsThatFit_45 : decode cX7_heirsThatFit 45 = .ok (.iload 5, 2) := by decide +kernel
theorem dX7_heirsThatFit_47 : decode cX7_heirsThatFit 47 = .ok (.ishl, 1) := by decide +kernel
theorem dX7_heirsThatFit_48 : decode cX7_heirsThatFit 48 = .ok (.ior, 1) := by decide +kernel
theorem dX7_heirsThatFit_49 : decode cX7_heirsThatFit 49 = .ok (.istore 4, 2) := by decide +kernel
theorem dX7_heirsThatFit_51 : decode cX7_heirsThatFit 51 = .ok (.iinc 5 1, 3) := by decide +kernel
theorem dX7_heirsThatFit_54 : decode cX7_heirsThatFit 54 = .ok (.goto (-38), 3) := by decide +kernel
theorem dX7_heirsThatFit_57 : decode cX7_heirsThatFit 57 = .ok (.aload_n 1, 1) := by decide +kernel
theorem dX7_heirsThatFit_58 : decode cX7_heirsThatFit 58 = .ok (.getfield 25, 3) := by decide +kernel
theorem dX7_heirsThatFit_61 : decode cX7_heirsThatFit 61 = .ok (.getfield 31, 3) := by decide +kernel
theorem dX7_heirsThatFit_64 : decode cX7_heirsThatFit 64 = .ok (.iload_n 2, 1) := by decide +kernel
theorem dX7_heirsThatFit_65 : decode cX7_heirsThatFit 65 = .ok (.bipush 9, 2) := by decide +kernel
theorem dX7_heirsThatFit_67 : decode cX7_heirsThatFit 67 = .ok (.iastore, 1) := by decide +kernel
theorem dX7_heirsThatFit_68 : decode cX7_heirsThatFit 68 = .ok (.aload_n 0, 1) := by decide +kernel
theorem dX7_heirsThatFit_69 : decode cX7_heirsThatFit 69 = .ok (.aload_n 1, 1) := by decide +kernel
theorem dX7_heirsThatFit_70 : decode cX7_heirsThatFit 70 = .ok (.invokevirtual 36, 3) := by decide +kernel
theorem dX7_heirsThatFit_73 : decode cX7_heirsThatFit 73 = .ok (.ifCond .eq 10, 3) := by decide +kernel
theorem dX7_heirsThatFit_76 : decode cX7_heirsThatFit 76 = .ok (.iload 4, 2) := by decide +kernel
theorem dX7_heirsThatFit_78 : decode cX7_heirsThatFit 78 = .ok (.bipush 64, 2) := by decide +kernel
theorem dX7_heirsThatFit_80 : decode cX7_heirsThatFit 80 = .ok (.ior, 1) := by decide +kernel
theorem dX7_heirsThatFit_81 : decode cX7_heirsThatFit 81 = .ok (.istore 4, 2) := by decide +kernel
theorem dX7_heirsThatFit_83 : decode cX7_heirsThatFit 83 = .ok (.aload_n 1, 1) := by decide +kernel
theorem dX7_heirsThatFit_84 : decode cX7_heirsThatFit 84 = .ok (.getfield 25, 3) := by decide +kernel
theorem dX7_heirsThatFit_87 : decode cX7_heirsThatFit 87 = .ok (.getfield 31, 3) := by decide +kernel
theorem dX7_heirsThatFit_90 : decode cX7_heirsThatFit 90 = .ok (.iload_n 2, 1) := by decide +kernel
theorem dX7_heirsThatFit_91 : decode cX7_heirsThatFit 91 = .ok (.iload_n 3, 1) := by decide +kernel
theorem dX7_heirsThatFit_92 : decode cX7_heirsThatFit 92 = .ok (.iastore, 1) := by decide +kernel
theorem dX7_heirsThatFit_93 : decode cX7_heirsThatFit 93 = .ok (.iload 4, 2) := by decide +kernel
theorem dX7_heirsThatFit_95 : decode cX7_heirsThatFit 95 = .ok (.ireturn, 1) := by decide +kernel
def r_X7_heirsThatFit : Room := { frames := 5, cells := 0, slots := 0, locals := 116 }
def f_X7_heirsThatFit_L16 (K : PH → Int32 → Option (Int32 × PH)) (x0 : Nat) (x1 : Nat) (x2 : Int32) (x3 : Int32) : Nat → PH → Int32 → Int32 → Option (Int32 × PH)
  | 0, _, _, _ => none
  | n + 1, P, x4, x5 =>
    (if (6 : Int32) ≤ x5 then K P x4 else (if (x2 < 0 ∨ 6 ≤ x2.toNatClampNeg) then none else ((some (sI P (P.2.2 (P.2.2 x1 5) 3) x2.toNatClampNeg x5)).bind fun P3 => ((f_X7_isSo P3 x0 x1).bind fun q4 => (if (b2i q4) = 0 then f_X7_heirsThatFit_L16 K x0 x1 x2 x3 n P3 x4 (x5 + (1 : Int32)) else f_X7_heirsThatFit_L16 K x0 x1 x2 x3 n P3 (x4 ||| ((1 : Int32) <<< (x5 &&& 31))) (x5 + (1 : Int32)))))))
theorem w_X7_heirsThatFit_L16 {x : Fx} {E : Ev} (S : ZS x E r_X7_heirsThatFit cX7_heirsThatFit 6 RX7 (some .int)) (M : ZM x E) {K : PH → Int32 → Option (Int32 × PH)} (x0 : Nat) (x1 : Nat) (x2 : Int32) (x3 : Int32) (h_x0 : ok x0 5 0) (h_x1 : ok x1 1 0) (r : (Int32 × PH)) (hK : ∀ (P1 : PH) (y4 : Int32), K P1 y4 = some r → Wz x E 6 (QI E x r.1 r.2) P1 57 [(0, .ref (ad E x0)), (1, .ref (ad E x1)), (2, .int x2), (3, .int x3), (4, .int y4)] []) : ∀ (n : Nat) (P : PH) (x4 : Int32) (x5 : Int32), f_X7_heirsThatFit_L16 K x0 x1 x2 x3 n P x4 x5 = some r → Wz x E 6 (QI E x r.1 r.2) P 16 [(0, .ref (ad E x0)), (1, .ref (ad E x1)), (2, .int x2), (3, .int x3), (4, .int x4), (5, .int x5)] [] := by
  intro n
  induction n with
  | zero => intro P x4 x5 hf; cases hf
  | succ n ih =>
    intro P x4 x5 hf
    unfold f_X7_heirsThatFit_L16 at hf
    refine z_iload S 5 dX7_heirsThatFit_16 rfl ?_
    refine z_bipush (v := 6) S dX7_heirsThatFit_18 (by decide) ?_
    refine z_icmp_ge (tgt := 57) S dX7_heirsThatFit_20 (by decide) hf (fun hf => ?_) (fun hf => ?_)
    · refine z_sub [0, 1, 2, 3, 4] rfl ?_
      exact hK P x4 hf
    · refine z_aload_n S 1 dX7_heirsThatFit_23 rfl rfl ?_
      refine z_getR (K' := 2) (n' := 0) S cf_1 h_x1 5 (by decide) rfl rfl rfl wd233 dX7_heirsThatFit_24 (fun h1 => ?_)
      refine z_getR (K' := 9) (n' := 6) S cf_2 h1 3 (by decide) rfl rfl rfl wd183 dX7_heirsThatFit_27 (fun h2 => ?_)
      refine z_iload_n S 2 dX7_heirsThatFit_30 rfl rfl ?_
      refine z_iload S 5 dX7_heirsThatFit_31 rfl ?_
      refine z_iast S h2 dX7_heirsThatFit_33 hf (fun hf => ?_)
      refine z_nmP hf (fun P3 hf => ?_)
      refine z_aload_n S 0 dX7_heirsThatFit_34 rfl rfl ?_
      refine z_aload_n S 1 dX7_heirsThatFit_35 rfl rfl ?_
      refine z_callVI (rc := r_X7_isSo) [.ref (ad E x1)] S mo_X7_isSo wd563 wd7 wd561 h_x0 (by decide) cl_5 rfl rfl (by decide) (z_room0 S M (by rfl) (by rfl)) rfl (Nat.le_of_ble_eq_true rfl) rfl dX7_heirsThatFit_36 (fun q => b2i q) (fun _ => P3) (fun q hq => m_X7_isSo (xl x) E _ _ _ h_x0 h_x1 q hq) hf (fun q4 hf => ?_)
      refine z_if_eq (tgt := 51) S dX7_heirsThatFit_39 (by decide) hf (fun hf => ?_) (fun hf => ?_)
      · refine z_iinc (v := (x5 + (1 : Int32))) (lv' := [(5, .int (x5 + (1 : Int32))), (0, .ref (ad E x0)), (1, .ref (ad E x1)), (2, .int x2), (3, .int x3), (4, .int x4)]) S 5 dX7_heirsThatFit_51 rfl (by rfl) (by decide) rfl ?_
        refine z_goto (tgt := 16) S dX7_heirsThatFit_54 (by decide) ?_
        refine z_sub [1, 2, 3, 4, 5, 0] rfl ?_
        exact ih P3 x4 (x5 + (1 : Int32)) hf
      · refine z_iload S 4 dX7_heirsThatFit_42 rfl ?_
        refine z_iconst (v := 1) S dX7_heirsThatFit_44 (by decide) ?_
        refine z_iload S 5 dX7_heirsThatFit_45 rfl ?_
        refine z_ishl S dX7_heirsThatFit_47 ?_
        refine z_ior S dX7_heirsThatFit_48 ?_
        refine z_istore (lv' := [(4, .int (x4 ||| ((1 : Int32) <<< (x5 &&& 31)))), (0, .ref (ad E x0)), (1, .ref (ad E x1)), (2, .int x2), (3, .int x3), (5, .int x5)]) S dX7_heirsThatFit_49 (by decide) rfl ?_
        refine z_iinc (v := (x5 + (1 : Int32))) (lv' := [(5, .int (x5 + (1 : Int32))), (4, .int (x4 ||| ((1 : Int32) <<< (x5 &&& 31)))), (0, .ref (ad E x0)), (1, .ref (ad E x1)), (2, .int x2), (3, .int x3)]) S 5 dX7_heirsThatFit_51 rfl (by rfl) (by decide) rfl ?_
        refine z_goto (tgt := 16) S dX7_heirsThatFit_54 (by decide) ?_
        refine z_sub [2, 3, 4, 5, 1, 0] rfl ?_
        exact ih P3 (x4 ||| ((1 : Int32) <<< (x5 &&& 31))) (x5 + (1 : Int32)) hf
def f_X7_heirsThatFit (P : PH) (x0 : Nat) (x1 : Nat) (x2 : Int32) : Option (Int32 × PH) :=
  (if (x2 < 0 ∨ 6 ≤ x2.toNatClampNeg) then none else f_X7_heirsThatFit_L16 (fun P8 v7 => (if (x2 < 0 ∨ 6 ≤ x2.toNatClampNeg) then none else ((some (sI P8 (P8.2.2 (P8.2.2 x1 5) 3) x2.toNatClampNeg (9 : Int32))).bind fun P11 => ((f_X7_isSo P11 x0 x1).bind fun q12 => (if (b2i q12) = 0 then (if (x2 < 0 ∨ 6 ≤ x2.toNatClampNeg) then none else ((some (sI P11 (P11.2.2 (P11.2.2 x1 5) 3) x2.toNatClampNeg (P.1 (P.2.2 (P.2.2 x1 5) 3) x2.toNatClampNeg))).bind fun P15 => some (v7, P15))) else (if (x2 < 0 ∨ 6 ≤ x2.toNatClampNeg) then none else ((some (sI P11 (P11.2.2 (P11.2.2 x1 5) 3) x2.toNatClampNeg (P.1 (P.2.2 (P.2.2 x1 5) 3) x2.toNatClampNeg))).bind fun P18 => some ((v7 ||| (64 : Int32)), P18)))))))) x0 x1 x2 (P.1 (P.2.2 (P.2.2 x1 5) 3) x2.toNatClampNeg) 1000 P (0 : Int32) (0 : Int32))
theorem w_X7_heirsThatFit {x : Fx} {E : Ev} (S : ZS x E r_X7_heirsThatFit cX7_heirsThatFit 6 RX7 (some .int)) (M : ZM x E) (P : PH) (x0 : Nat) (x1 : Nat) (x2 : Int32) (h_x0 : ok x0 5 0) (h_x1 : ok x1 1 0) (r : (Int32 × PH)) (hf : f_X7_heirsThatFit P x0 x1 x2 = some r) : Wz x E 6 (QI E x r.1 r.2) P 0 [(0, .ref (ad E x0)), (1, .ref (ad E x1)), (2, .int x2)] [] := by
  unfold f_X7_heirsThatFit at hf
  refine z_aload_n S 1 dX7_heirsThatFit_0 rfl rfl ?_
  refine z_getR (K' := 2) (n' := 0) S cf_1 h_x1 5 (by decide) rfl rfl rfl wd233 dX7_heirsThatFit_1 (fun h5 => ?_)
  refine z_getR (K' := 9) (n' := 6) S cf_2 h5 3 (by decide) rfl rfl rfl wd183 dX7_heirsThatFit_4 (fun h6 => ?_)
  refine z_iload_n S 2 dX7_heirsThatFit_7 rfl rfl ?_
  refine z_iald S h6 dX7_heirsThatFit_8 hf (fun hf => ?_)
  refine z_istore_n (lv' := [(3, .int (P.1 (P.2.2 (P.2.2 x1 5) 3) x2.toNatClampNeg)), (0, .ref (ad E x0)), (1, .ref (ad E x1)), (2, .int x2)]) S dX7_heirsThatFit_9 rfl (by decide) rfl ?_
  refine z_iconst (v := 0) S dX7_heirsThatFit_10 (by decide) ?_
  refine z_istore (lv' := [(4, .int (0 : Int32)), (3, .int (P.1 (P.2.2 (P.2.2 x1 5) 3) x2.toNatClampNeg)), (0, .ref (ad E x0)), (1, .ref (ad E x1)), (2, .int x2)]) S dX7_heirsThatFit_11 (by decide) rfl ?_
  refine z_iconst (v := 0) S dX7_heirsThatFit_13 (by decide) ?_
  refine z_istore (lv' := [(5, .int (0 : Int32)), (4, .int (0 : Int32)), (3, .int (P.1 (P.2.2 (P.2.2 x1 5) 3) x2.toNatClampNeg)), (0, .ref (ad E x0)), (1, .ref (ad E x1)), (2, .int x2)]) S dX7_heirsThatFit_14 (by decide) rfl ?_
  refine z_sub [3, 4, 5, 2, 1, 0] rfl ?_
  refine w_X7_heirsThatFit_L16 S M x0 x1 x2 (P.1 (P.2.2 (P.2.2 x1 5) 3) x2.toNatClampNeg) h_x0 h_x1 r (fun P8 v7 hf => ?_) 1000 P (0 : Int32) (0 : Int32) hf
  refine z_aload_n S 1 dX7_heirsThatFit_57 rfl rfl ?_
  refine z_getR (K' := 2) (n' := 0) S cf_1 h_x1 5 (by decide) rfl rfl rfl wd233 dX7_heirsThatFit_58 (fun h9 => ?_)
  refine z_getR (K' := 9) (n' := 6) S cf_2 h9 3 (by decide) rfl rfl rfl wd183 dX7_heirsThatFit_61 (fun h10 => ?_)
  refine z_iload_n S 2 dX7_heirsThatFit_64 rfl rfl ?_
  refine z_bipush (v := 9) S dX7_heirsThatFit_65 (by decide) ?_
  refine z_iast S h10 dX7_heirsThatFit_67 hf (fun hf => ?_)
  refine z_nmP hf (fun P11 hf => ?_)
  refine z_aload_n S 0 dX7_heirsThatFit_68 rfl rfl ?_
  refine z_aload_n S 1 dX7_heirsThatFit_69 rfl rfl ?_
  refine z_callVI (rc := r_X7_isSo) [.ref (ad E x1)] S mo_X7_isSo wd563 wd7 wd561 h_x0 (by decide) cl_5 rfl rfl (by decide) (z_room0 S M (by rfl) (by rfl)) rfl (Nat.le_of_ble_eq_true rfl) rfl dX7_heirsThatFit_70 (fun q => b2i q) (fun _ => P11) (fun q hq => m_X7_isSo (xl x) E _ _ _ h_x0 h_x1 q hq) hf (fun q12 hf => ?_)
  refine z_if_eq (tgt := 83) S dX7_heirsThatFit_73 (by decide) hf (fun hf => ?_) (fun hf => ?_)
  · refine z_aload_n S 1 dX7_heirsThatFit_83 rfl rfl ?_
    refine z_getR (K' := 2) (n' := 0) S cf_1 h_x1 5 (by decide) rfl rfl rfl wd233 dX7_heirsThatFit_84 (fun h13 => ?_)
    refine z_getR (K' := 9) (n' := 6) S cf_2 h13 3 (by decide) rfl rfl rfl wd183 dX7_heirsThatFit_87 (fun h14 => ?_)
    refine z_iload_n S 2 dX7_heirsThatFit_90 rfl rfl ?_
    refine z_iload_n S 3 dX7_heirsThatFit_91 rfl rfl ?_
    refine z_iast S h14 dX7_heirsThatFit_92 hf (fun hf => ?_)
    refine z_nmP hf (fun P15 hf => ?_)
    refine z_iload S 4 dX7_heirsThatFit_93 rfl ?_
    exact z_iretI (v := v7) S M rfl dX7_heirsThatFit_95 hf
  · refine z_iload S 4 dX7_heirsThatFit_76 rfl ?_
    refine z_bipush (v := 64) S dX7_heirsThatFit_78 (by decide) ?_
    refine z_ior S dX7_heirsThatFit_80 ?_
    refine z_istore (lv' := [(4, .int (v7 ||| (64 : Int32))), (0, .ref (ad E x0)), (1, .ref (ad E x1)), (2, .int x2), (3, .int (P.1 (P.2.2 (P.2.2 x1 5) 3) x2.toNatClampNeg))]) S dX7_heirsThatFit_81 (by decide) rfl ?_
    refine z_aload_n S 2 dX7_heirsThatFit_83 rfl rfl ?_
    refine z_getR (K' := 2) (n' := 0) S cf_1 h_x1 5 (by decide) rfl rfl rfl wd233 dX7_heirsThatFit_84 (fun h16 => ?_)
    refine z_getR (K' := 9) (n' := 6) S cf_2 h16 3 (by decide) rfl rfl rfl wd183 dX7_heirsThatFit_87 (fun h17 => ?_)
    refine z_iload_n S 3 dX7_heirsThatFit_90 rfl rfl ?_
    refine z_iload_n S 4 dX7_heirsThatFit_91 rfl rfl ?_
    refine z_iast S h17 dX7_heirsThatFit_92 hf (fun hf => ?_)
    refine z_nmP hf (fun P18 hf => ?_)
    refine z_iload S 0 dX7_heirsThatFit_93 rfl ?_
    exact z_iretI (v := (v7 ||| (64 : Int32))) S M rfl dX7_heirsThatFit_95 hf
theorem m_X7_heirsThatFit (l : Launch) (E : Ev) (P : PH) (x0 : Nat) (x1 : Nat) (x2 : Int32) (h_x0 : ok x0 5 0) (h_x1 : ok x1 1 0) (r : (Int32 × PH)) (hf : f_X7_heirsThatFit P x0 x1 x2 = some r) : CtI l E yX7_heirsThatFit cX7_heirsThatFit 6 (some .int) r_X7_heirsThatFit [.ref (ad E x0), .ref (ad E x1), .int x2] P r.1 r.2 :=
  z_body (own := RX7) (by decide +kernel) rfl (Nat.le_of_ble_eq_true rfl) rfl (fun x _ S M => w_X7_heirsThatFit S M P x0 x1 x2 h_x0 h_x1 r hf)
